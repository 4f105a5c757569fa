theorem dX0_init_0 : decode cX0_init 0 = .ok (.aload_n 0, 1) := by decide +kernel
theorem dX0_init_1 : decode cX0_init 1 = .ok (.invokespecial 3, 3) := by decide +kernel
theorem dX0_init_4 : decode cX0_init 4 = .ok (.aload_n 0, 1) := by decide +kernel
theorem dX0_init_5 : decode cX0_init 5 = .ok (.sipush 1024, 3) := by decide +kernel
theorem dX0_init_8 : decode cX0_init 8 = .ok (.newarray .long, 2) := by decide +kernel
theorem dX0_init_10 : decode cX0_init 10 = .ok (.putfield 11, 3) := by decide +kernel
theorem dX0_init_13 : decode cX0_init 13 = .ok (.aload_n 0, 1) := by decide +kernel
theorem dX0_init_14 : decode cX0_init 14 = .ok (.sipush 1024, 3) := by decide +kernel
theorem dX0_init_17 : decode cX0_init 17 = .ok (.newarray .long, 2) := by decide +kernel
theorem dX0_init_19 : decode cX0_init 19 = .ok (.putfield 15, 3) := by decide +kernel
theorem dX0_init_22 : decode cX0_init 22 = .ok (.return_, 1) := by decide +kernel
theorem dX0_reckon_0 : decode cX0_reckon 0 = .ok (.aload_n 0, 1) := by decide +kernel
theorem dX0_reckon_1 : decode cX0_reckon 1 = .ok (.lconst 0, 1) := by decide +kernel
theorem dX0_reckon_2 : decode cX0_reckon 2 = .ok (.putfield 18, 3) := by decide +kernel
theorem dX0_reckon_5 : decode cX0_reckon 5 = .ok (.aload_n 0, 1) := by decide +kernel
theorem dX0_reckon_6 : decode cX0_reckon 6 = .ok (.lconst 1, 1) := by decide +kernel
theorem dX0_reckon_7 : decode cX0_reckon 7 = .ok (.putfield 22, 3) := by decide +kernel
theorem dX0_reckon_10 : decode cX0_reckon 10 = .ok (.aload_n 0, 1) := by decide +kernel
theorem dX0_reckon_11 : decode cX0_reckon 11 = .ok (.getfield 11, 3) := by decide +kernel
theorem dX0_reckon_14 : decode cX0_reckon 14 = .ok (.lconst 0, 1) := by decide +kernel
theorem dX0_reckon_15 : decode cX0_reckon 15 = .ok (.invokestatic 25, 3) := by decide +kernel
theorem dX0_reckon_18 : decode cX0_reckon 18 = .ok (.aload_n 0, 1) := by decide +kernel
theorem dX0_reckon_19 : decode cX0_reckon 19 = .ok (.getfield 11, 3) := by decide +kernel
theorem dX0_reckon_22 : decode cX0_reckon 22 = .ok (.lload 4, 2) := by decide +kernel
theorem dX0_reckon_24 : decode cX0_reckon 24 = .ok (.ldc2_w 31, 3) := by decide +kernel
theorem dX0_reckon_27 : decode cX0_reckon 27 = .ok (.land, 1) := by decide +kernel
theorem dX0_reckon_28 : decode cX0_reckon 28 = .ok (.l2i, 1) := by decide +kernel
theorem dX0_reckon_29 : decode cX0_reckon 29 = .ok (.lconst 1, 1) := by decide +kernel
theorem dX0_reckon_30 : decode cX0_reckon 30 = .ok (.lastore, 1) := by decide +kernel
theorem dX0_reckon_31 : decode cX0_reckon 31 = .ok (.iconst 0, 1) := by decide +kernel
theorem dX0_reckon_32 : decode cX0_reckon 32 = .ok (.istore 6, 2) := by decide +kernel
theorem dX0_reckon_34 : decode cX0_reckon 34 = .ok (.iload 6, 2) := by decide +kernel
theorem dX0_reckon_36 : decode cX0_reckon 36 = .ok (.aload_n 1, 1) := by decide +kernel
theorem dX0_reckon_37 : decode cX0_reckon 37 = .ok (.getfield 33, 3) := by decide +kernel
theorem dX0_reckon_40 : decode cX0_reckon 40 = .ok (.if_icmp .ge 90, 3) := by decide +kernel
theorem dX0_reckon_43 : decode cX0_reckon 43 = .ok (.aload_n 1, 1) := by decide +kernel
theorem dX0_reckon_44 : decode cX0_reckon 44 = .ok (.getfield 39, 3) := by decide +kernel
theorem dX0_reckon_47 : decode cX0_reckon 47 = .ok (.iload 6, 2) := by decide +kernel
theorem dX0_reckon_49 : decode cX0_reckon 49 = .ok (.iaload, 1) := by decide +kernel
theorem dX0_reckon_50 : decode cX0_reckon 50 = .ok (.ifCond .ne 7, 3) := by decide +kernel
theorem dX0_reckon_53 : decode cX0_reckon 53 = .ok (.iload_n 3, 1) := by decide +kernel
theorem dX0_reckon_54 : decode cX0_reckon 54 = .ok (.goto 4, 3) := by decide +kernel
theorem dX0_reckon_57 : decode cX0_reckon 57 = .ok (.iconst 1, 1) := by decide +kernel
theorem dX0_reckon_58 : decode cX0_reckon 58 = .ok (.istore 7, 2) := by decide +kernel
theorem dX0_reckon_60 : decode cX0_reckon 60 = .ok (.aload_n 0, 1) := by decide +kernel
theorem dX0_reckon_61 : decode cX0_reckon 61 = .ok (.dup, 1) := by decide +kernel
theorem dX0_reckon_62 : decode cX0_reckon 62 = .ok (.getfield 18, 3) := by decide +kernel
theorem dX0_reckon_65 : decode cX0_reckon 65 = .ok (.iload 7, 2) := by decide +kernel
theorem dX0_reckon_67 : decode cX0_reckon 67 = .ok (.i2l, 1) := by decide +kernel
theorem dX0_reckon_68 : decode cX0_reckon 68 = .ok (.lmul, 1) := by decide +kernel
theorem dX0_reckon_69 : decode cX0_reckon 69 = .ok (.putfield 18, 3) := by decide +kernel
theorem dX0_reckon_72 : decode cX0_reckon 72 = .ok (.aload_n 0, 1) := by decide +kernel
theorem dX0_reckon_73 : decode cX0_reckon 73 = .ok (.dup, 1) := by decide +kernel
theorem dX0_reckon_74 : decode cX0_reckon 74 = .ok (.getfield 22, 3) := by decide +kernel
theorem dX0_reckon_77 : decode cX0_reckon 77 = .ok (.iload 7, 2) := by decide +kernel
theorem dX0_reckon_79 : decode cX0_reckon 79 = .ok (.i2l, 1) := by decide +kernel
theorem dX0_reckon_80 : decode cX0_reckon 80 = .ok (.lmul, 1) := by decide +kernel
theorem dX0_reckon_81 : decode cX0_reckon 81 = .ok (.putfield 22, 3) := by decide +kernel
theorem dX0_reckon_84 : decode cX0_reckon 84 = .ok (.aload_n 0, 1) := by decide +kernel
theorem dX0_reckon_85 : decode cX0_reckon 85 = .ok (.getfield 15, 3) := by decide +kernel
theorem dX0_reckon_88 : decode cX0_reckon 88 = .ok (.lconst 0, 1) := by decide +kernel
theorem dX0_reckon_89 : decode cX0_reckon 89 = .ok (.invokestatic 25, 3) := by decide +kernel
theorem dX0_reckon_92 : decode cX0_reckon 92 = .ok (.aload_n 0, 1) := by decide +kernel
theorem dX0_reckon_93 : decode cX0_reckon 93 = .ok (.iload 6, 2) := by decide +kernel
theorem dX0_reckon_95 : decode cX0_reckon 95 = .ok (.aload_n 1, 1) := by decide +kernel
theorem dX0_reckon_96 : decode cX0_reckon 96 = .ok (.aload_n 2, 1) := by decide +kernel
theorem dX0_reckon_97 : decode cX0_reckon 97 = .ok (.iload 7, 2) := by decide +kernel
theorem dX0_reckon_99 : decode cX0_reckon 99 = .ok (.lload 4, 2) := by decide +kernel
theorem dX0_reckon_101 : decode cX0_reckon 101 = .ok (.invokevirtual 43, 3) := by decide +kernel
theorem dX0_reckon_104 : decode cX0_reckon 104 = .ok (.aload_n 0, 1) := by decide +kernel
theorem dX0_reckon_105 : decode cX0_reckon 105 = .ok (.getfield 11, 3) := by decide +kernel
theorem dX0_reckon_108 : decode cX0_reckon 108 = .ok (.astore 8, 2) := by decide +kernel
theorem dX0_reckon_110 : decode cX0_reckon 110 = .ok (.aload_n 0, 1) := by decide +kernel
theorem dX0_reckon_111 : decode cX0_reckon 111 = .ok (.aload_n 0, 1) := by decide +kernel
theorem dX0_reckon_112 : decode cX0_reckon 112 = .ok (.getfield 15, 3) := by decide +kernel
theorem dX0_reckon_115 : decode cX0_reckon 115 = .ok (.putfield 11, 3) := by decide +kernel
theorem dX0_reckon_118 : decode cX0_reckon 118 = .ok (.aload_n 0, 1) := by decide +kernel
theorem dX0_reckon_119 : decode cX0_reckon 119 = .ok (.aload 8, 2) := by decide +kernel
theorem dX0_reckon_121 : decode cX0_reckon 121 = .ok (.putfield 15, 3) := by decide +kernel
theorem dX0_reckon_124 : decode cX0_reckon 124 = .ok (.iinc 6 1, 3) := by decide +kernel
theorem dX0_reckon_127 : decode cX0_reckon 127 = .ok (.goto (-93), 3) := by decide +kernel
theorem dX0_reckon_130 : decode cX0_reckon 130 = .ok (.return_, 1) := by decide +kernel
theorem dX0_goOnFrom_0 : decode cX0_goOnFrom 0 = .ok (.lload 5, 2) := by decide +kernel
theorem dX0_goOnFrom_2 : decode cX0_goOnFrom 2 = .ok (.iload_n 1, 1) := by decide +kernel
theorem dX0_goOnFrom_3 : decode cX0_goOnFrom 3 = .ok (.iconst 1, 1) := by decide +kernel
theorem dX0_goOnFrom_4 : decode cX0_goOnFrom 4 = .ok (.iadd, 1) := by decide +kernel
theorem dX0_goOnFrom_5 : decode cX0_goOnFrom 5 = .ok (.lushr, 1) := by decide +kernel
theorem dX0_goOnFrom_6 : decode cX0_goOnFrom 6 = .ok (.lconst 0, 1) := by decide +kernel
theorem dX0_goOnFrom_7 : decode cX0_goOnFrom 7 = .ok (.lcmp, 1) := by decide +kernel
theorem dX0_goOnFrom_8 : decode cX0_goOnFrom 8 = .ok (.ifCond .ne 7, 3) := by decide +kernel
theorem dX0_goOnFrom_11 : decode cX0_goOnFrom 11 = .ok (.iconst 1, 1) := by decide +kernel
theorem dX0_goOnFrom_12 : decode cX0_goOnFrom 12 = .ok (.goto 4, 3) := by decide +kernel
theorem dX0_goOnFrom_15 : decode cX0_goOnFrom 15 = .ok (.iconst 0, 1) := by decide +kernel
theorem dX0_goOnFrom_16 : decode cX0_goOnFrom 16 = .ok (.istore 7, 2) := by decide +kernel
theorem dX0_goOnFrom_18 : decode cX0_goOnFrom 18 = .ok (.lload 5, 2) := by decide +kernel
theorem dX0_goOnFrom_20 : decode cX0_goOnFrom 20 = .ok (.iload_n 1, 1) := by decide +kernel
theorem dX0_goOnFrom_21 : decode cX0_goOnFrom 21 = .ok (.bipush 10, 2) := by decide +kernel
theorem dX0_goOnFrom_23 : decode cX0_goOnFrom 23 = .ok (.iadd, 1) := by decide +kernel
theorem dX0_goOnFrom_24 : decode cX0_goOnFrom 24 = .ok (.lushr, 1) := by decide +kernel
theorem dX0_goOnFrom_25 : decode cX0_goOnFrom 25 = .ok (.lconst 1, 1) := by decide +kernel
theorem dX0_goOnFrom_26 : decode cX0_goOnFrom 26 = .ok (.land, 1) := by decide +kernel
theorem dX0_goOnFrom_27 : decode cX0_goOnFrom 27 = .ok (.lconst 0, 1) := by decide +kernel
theorem dX0_goOnFrom_28 : decode cX0_goOnFrom 28 = .ok (.lcmp, 1) := by decide +kernel
theorem dX0_goOnFrom_29 : decode cX0_goOnFrom 29 = .ok (.ifCond .ne 7, 3) := by decide +kernel
theorem dX0_goOnFrom_32 : decode cX0_goOnFrom 32 = .ok (.iconst 0, 1) := by decide +kernel
theorem dX0_goOnFrom_33 : decode cX0_goOnFrom 33 = .ok (.goto 6, 3) := by decide +kernel
theorem dX0_goOnFrom_36 : decode cX0_goOnFrom 36 = .ok (.sipush 512, 3) := by decide +kernel
theorem dX0_goOnFrom_39 : decode cX0_goOnFrom 39 = .ok (.istore 8, 2) := by decide +kernel
theorem dX0_goOnFrom_41 : decode cX0_goOnFrom 41 = .ok (.iconst 0, 1) := by decide +kernel
theorem dX0_goOnFrom_42 : decode cX0_goOnFrom 42 = .ok (.istore 9, 2) := by decide +kernel
theorem dX0_goOnFrom_44 : decode cX0_goOnFrom 44 = .ok (.iload 9, 2) := by decide +kernel
theorem dX0_goOnFrom_46 : decode cX0_goOnFrom 46 = .ok (.sipush 1024, 3) := by decide +kernel
theorem dX0_goOnFrom_49 : decode cX0_goOnFrom 49 = .ok (.if_icmp .ge 137, 3) := by decide +kernel
theorem dX0_goOnFrom_52 : decode cX0_goOnFrom 52 = .ok (.aload_n 0, 1) := by decide +kernel
theorem dX0_goOnFrom_53 : decode cX0_goOnFrom 53 = .ok (.getfield 11, 3) := by decide +kernel
theorem dX0_goOnFrom_56 : decode cX0_goOnFrom 56 = .ok (.iload 9, 2) := by decide +kernel
theorem dX0_goOnFrom_58 : decode cX0_goOnFrom 58 = .ok (.laload, 1) := by decide +kernel
theorem dX0_goOnFrom_59 : decode cX0_goOnFrom 59 = .ok (.lstore 10, 2) := by decide +kernel
theorem dX0_goOnFrom_61 : decode cX0_goOnFrom 61 = .ok (.lload 10, 2) := by decide +kernel
theorem dX0_goOnFrom_63 : decode cX0_goOnFrom 63 = .ok (.lconst 0, 1) := by decide +kernel
theorem dX0_goOnFrom_64 : decode cX0_goOnFrom 64 = .ok (.lcmp, 1) := by decide +kernel
theorem dX0_goOnFrom_65 : decode cX0_goOnFrom 65 = .ok (.ifCond .ne 6, 3) := by decide +kernel
theorem dX0_goOnFrom_68 : decode cX0_goOnFrom 68 = .ok (.goto 112, 3) := by decide +kernel
theorem dX0_goOnFrom_71 : decode cX0_goOnFrom 71 = .ok (.iload 9, 2) := by decide +kernel
theorem dX0_goOnFrom_73 : decode cX0_goOnFrom 73 = .ok (.iconst 1, 1) := by decide +kernel
theorem dX0_goOnFrom_74 : decode cX0_goOnFrom 74 = .ok (.ishr, 1) := by decide +kernel
theorem dX0_goOnFrom_75 : decode cX0_goOnFrom 75 = .ok (.iload 8, 2) := by decide +kernel
theorem dX0_goOnFrom_77 : decode cX0_goOnFrom 77 = .ok (.ior, 1) := by decide +kernel
theorem dX0_goOnFrom_78 : decode cX0_goOnFrom 78 = .ok (.istore 12, 2) := by decide +kernel
theorem dX0_goOnFrom_80 : decode cX0_goOnFrom 80 = .ok (.iload 9, 2) := by decide +kernel
theorem dX0_goOnFrom_82 : decode cX0_goOnFrom 82 = .ok (.iconst 1, 1) := by decide +kernel
theorem dX0_goOnFrom_83 : decode cX0_goOnFrom 83 = .ok (.if_icmp .ne 26, 3) := by decide +kernel
theorem dX0_goOnFrom_86 : decode cX0_goOnFrom 86 = .ok (.iload 7, 2) := by decide +kernel
theorem dX0_goOnFrom_88 : decode cX0_goOnFrom 88 = .ok (.ifCond .eq 21, 3) := by decide +kernel
theorem dX0_goOnFrom_91 : decode cX0_goOnFrom 91 = .ok (.aload_n 0, 1) := by decide +kernel
theorem dX0_goOnFrom_92 : decode cX0_goOnFrom 92 = .ok (.dup, 1) := by decide +kernel
theorem dX0_goOnFrom_93 : decode cX0_goOnFrom 93 = .ok (.getfield 18, 3) := by decide +kernel
theorem dX0_goOnFrom_96 : decode cX0_goOnFrom 96 = .ok (.lload 10, 2) := by decide +kernel
theorem dX0_goOnFrom_98 : decode cX0_goOnFrom 98 = .ok (.iload 4, 2) := by decide +kernel
theorem dX0_goOnFrom_100 : decode cX0_goOnFrom 100 = .ok (.i2l, 1) := by decide +kernel
theorem dX0_goOnFrom_101 : decode cX0_goOnFrom 101 = .ok (.lmul, 1) := by decide +kernel
theorem dX0_goOnFrom_102 : decode cX0_goOnFrom 102 = .ok (.ladd, 1) := by decide +kernel
theorem dX0_goOnFrom_103 : decode cX0_goOnFrom 103 = .ok (.putfield 18, 3) := by decide +kernel
theorem dX0_goOnFrom_106 : decode cX0_goOnFrom 106 = .ok (.goto 74, 3) := by decide +kernel
theorem dX0_goOnFrom_109 : decode cX0_goOnFrom 109 = .ok (.iload 9, 2) := by decide +kernel
theorem dX0_goOnFrom_111 : decode cX0_goOnFrom 111 = .ok (.iconst 1, 1) := by decide +kernel
theorem dX0_goOnFrom_112 : decode cX0_goOnFrom 112 = .ok (.iand, 1) := by decide +kernel
theorem dX0_goOnFrom_113 : decode cX0_goOnFrom 113 = .ok (.ifCond .ne 22, 3) := by decide +kernel
theorem dX0_goOnFrom_116 : decode cX0_goOnFrom 116 = .ok (.aload_n 0, 1) := by decide +kernel
theorem dX0_goOnFrom_117 : decode cX0_goOnFrom 117 = .ok (.getfield 15, 3) := by decide +kernel
theorem dX0_goOnFrom_120 : decode cX0_goOnFrom 120 = .ok (.iload 12, 2) := by decide +kernel
theorem dX0_goOnFrom_122 : decode cX0_goOnFrom 122 = .ok (.dup2, 1) := by decide +kernel
theorem dX0_goOnFrom_123 : decode cX0_goOnFrom 123 = .ok (.laload, 1) := by decide +kernel
theorem dX0_goOnFrom_124 : decode cX0_goOnFrom 124 = .ok (.lload 10, 2) := by decide +kernel
theorem dX0_goOnFrom_126 : decode cX0_goOnFrom 126 = .ok (.iload 4, 2) := by decide +kernel
theorem dX0_goOnFrom_128 : decode cX0_goOnFrom 128 = .ok (.i2l, 1) := by decide +kernel
theorem dX0_goOnFrom_129 : decode cX0_goOnFrom 129 = .ok (.lmul, 1) := by decide +kernel
theorem dX0_goOnFrom_130 : decode cX0_goOnFrom 130 = .ok (.ladd, 1) := by decide +kernel
theorem dX0_goOnFrom_131 : decode cX0_goOnFrom 131 = .ok (.lastore, 1) := by decide +kernel
theorem dX0_goOnFrom_132 : decode cX0_goOnFrom 132 = .ok (.goto 48, 3) := by decide +kernel
theorem dX0_goOnFrom_135 : decode cX0_goOnFrom 135 = .ok (.aload_n 2, 1) := by decide +kernel
theorem dX0_goOnFrom_136 : decode cX0_goOnFrom 136 = .ok (.getfield 39, 3) := by decide +kernel
theorem dX0_goOnFrom_139 : decode cX0_goOnFrom 139 = .ok (.iload_n 1, 1) := by decide +kernel
theorem dX0_goOnFrom_140 : decode cX0_goOnFrom 140 = .ok (.iaload, 1) := by decide +kernel
theorem dX0_goOnFrom_141 : decode cX0_goOnFrom 141 = .ok (.ifCond .le 25, 3) := by decide +kernel
theorem dX0_goOnFrom_144 : decode cX0_goOnFrom 144 = .ok (.aload_n 0, 1) := by decide +kernel
theorem dX0_goOnFrom_145 : decode cX0_goOnFrom 145 = .ok (.iload_n 1, 1) := by decide +kernel
theorem dX0_goOnFrom_146 : decode cX0_goOnFrom 146 = .ok (.aload_n 2, 1) := by decide +kernel
theorem dX0_goOnFrom_147 : decode cX0_goOnFrom 147 = .ok (.getfield 39, 3) := by decide +kernel
theorem dX0_goOnFrom_150 : decode cX0_goOnFrom 150 = .ok (.iload_n 1, 1) := by decide +kernel
theorem dX0_goOnFrom_151 : decode cX0_goOnFrom 151 = .ok (.iaload, 1) := by decide +kernel
theorem dX0_goOnFrom_152 : decode cX0_goOnFrom 152 = .ok (.aload_n 2, 1) := by decide +kernel
theorem dX0_goOnFrom_153 : decode cX0_goOnFrom 153 = .ok (.getfield 33, 3) := by decide +kernel
theorem dX0_goOnFrom_156 : decode cX0_goOnFrom 156 = .ok (.iload 12, 2) := by decide +kernel
theorem dX0_goOnFrom_158 : decode cX0_goOnFrom 158 = .ok (.lload 10, 2) := by decide +kernel
theorem dX0_goOnFrom_160 : decode cX0_goOnFrom 160 = .ok (.invokevirtual 47, 3) := by decide +kernel
theorem dX0_goOnFrom_163 : decode cX0_goOnFrom 163 = .ok (.goto 17, 3) := by decide +kernel
theorem dX0_goOnFrom_166 : decode cX0_goOnFrom 166 = .ok (.aload_n 0, 1) := by decide +kernel
theorem dX0_goOnFrom_167 : decode cX0_goOnFrom 167 = .ok (.iload_n 1, 1) := by decide +kernel
theorem dX0_goOnFrom_168 : decode cX0_goOnFrom 168 = .ok (.aload_n 2, 1) := by decide +kernel
theorem dX0_goOnFrom_169 : decode cX0_goOnFrom 169 = .ok (.getfield 33, 3) := by decide +kernel
theorem dX0_goOnFrom_172 : decode cX0_goOnFrom 172 = .ok (.aload_n 3, 1) := by decide +kernel
theorem dX0_goOnFrom_173 : decode cX0_goOnFrom 173 = .ok (.iload 12, 2) := by decide +kernel
theorem dX0_goOnFrom_175 : decode cX0_goOnFrom 175 = .ok (.lload 10, 2) := by decide +kernel
theorem dX0_goOnFrom_177 : decode cX0_goOnFrom 177 = .ok (.invokevirtual 51, 3) := by decide +kernel
theorem dX0_goOnFrom_180 : decode cX0_goOnFrom 180 = .ok (.iinc 9 1, 3) := by decide +kernel
theorem dX0_goOnFrom_183 : decode cX0_goOnFrom 183 = .ok (.goto (-139), 3) := by decide +kernel
theorem dX0_goOnFrom_186 : decode cX0_goOnFrom 186 = .ok (.return_, 1) := by decide +kernel
theorem dX0_landByWeights_0 : decode cX0_landByWeights 0 = .ok (.iconst 1, 1) := by decide +kernel
theorem dX0_landByWeights_1 : decode cX0_landByWeights 1 = .ok (.istore 7, 2) := by decide +kernel
theorem dX0_landByWeights_3 : decode cX0_landByWeights 3 = .ok (.iload 7, 2) := by decide +kernel
theorem dX0_landByWeights_5 : decode cX0_landByWeights 5 = .ok (.bipush 10, 2) := by decide +kernel
theorem dX0_landByWeights_7 : decode cX0_landByWeights 7 = .ok (.if_icmp .gt 27, 3) := by decide +kernel
theorem dX0_landByWeights_10 : decode cX0_landByWeights 10 = .ok (.aload_n 0, 1) := by decide +kernel
theorem dX0_landByWeights_11 : decode cX0_landByWeights 11 = .ok (.iload_n 1, 1) := by decide +kernel
theorem dX0_landByWeights_12 : decode cX0_landByWeights 12 = .ok (.iload 7, 2) := by decide +kernel
theorem dX0_landByWeights_14 : decode cX0_landByWeights 14 = .ok (.iload_n 2, 1) := by decide +kernel
theorem dX0_landByWeights_15 : decode cX0_landByWeights 15 = .ok (.iload 4, 2) := by decide +kernel
theorem dX0_landByWeights_17 : decode cX0_landByWeights 17 = .ok (.lload 5, 2) := by decide +kernel
theorem dX0_landByWeights_19 : decode cX0_landByWeights 19 = .ok (.aload_n 3, 1) := by decide +kernel
theorem dX0_landByWeights_20 : decode cX0_landByWeights 20 = .ok (.iload 7, 2) := by decide +kernel
theorem dX0_landByWeights_22 : decode cX0_landByWeights 22 = .ok (.iaload, 1) := by decide +kernel
theorem dX0_landByWeights_23 : decode cX0_landByWeights 23 = .ok (.i2l, 1) := by decide +kernel
theorem dX0_landByWeights_24 : decode cX0_landByWeights 24 = .ok (.lmul, 1) := by decide +kernel
theorem dX0_landByWeights_25 : decode cX0_landByWeights 25 = .ok (.invokevirtual 47, 3) := by decide +kernel
theorem dX0_landByWeights_28 : decode cX0_landByWeights 28 = .ok (.iinc 7 1, 3) := by decide +kernel
theorem dX0_landByWeights_31 : decode cX0_landByWeights 31 = .ok (.goto (-28), 3) := by decide +kernel
theorem dX0_landByWeights_34 : decode cX0_landByWeights 34 = .ok (.return_, 1) := by decide +kernel
theorem dX0_land_0 : decode cX0_land 0 = .ok (.iload_n 1, 1) := by decide +kernel
theorem dX0_land_1 : decode cX0_land 1 = .ok (.iload_n 2, 1) := by decide +kernel
theorem dX0_land_2 : decode cX0_land 2 = .ok (.iadd, 1) := by decide +kernel
theorem dX0_land_3 : decode cX0_land 3 = .ok (.iload_n 3, 1) := by decide +kernel
theorem dX0_land_4 : decode cX0_land 4 = .ok (.if_icmp .ge 21, 3) := by decide +kernel
theorem dX0_land_7 : decode cX0_land 7 = .ok (.aload_n 0, 1) := by decide +kernel
theorem dX0_land_8 : decode cX0_land 8 = .ok (.getfield 15, 3) := by decide +kernel
theorem dX0_land_11 : decode cX0_land 11 = .ok (.iload 4, 2) := by decide +kernel
theorem dX0_land_13 : decode cX0_land 13 = .ok (.iconst 1, 1) := by decide +kernel
theorem dX0_land_14 : decode cX0_land 14 = .ok (.iload_n 2, 1) := by decide +kernel
theorem dX0_land_15 : decode cX0_land 15 = .ok (.iconst 1, 1) := by decide +kernel
theorem dX0_land_16 : decode cX0_land 16 = .ok (.isub, 1) := by decide +kernel
theorem dX0_land_17 : decode cX0_land 17 = .ok (.ishl, 1) := by decide +kernel
theorem dX0_land_18 : decode cX0_land 18 = .ok (.ior, 1) := by decide +kernel
theorem dX0_land_19 : decode cX0_land 19 = .ok (.dup2, 1) := by decide +kernel
theorem dX0_land_20 : decode cX0_land 20 = .ok (.laload, 1) := by decide +kernel
theorem dX0_land_21 : decode cX0_land 21 = .ok (.lload 5, 2) := by decide +kernel
theorem dX0_land_23 : decode cX0_land 23 = .ok (.ladd, 1) := by decide +kernel
theorem dX0_land_24 : decode cX0_land 24 = .ok (.lastore, 1) := by decide +kernel
theorem dX0_land_25 : decode cX0_land 25 = .ok (.return_, 1) := by decide +kernel
theorem dX1_init_0 : decode cX1_init 0 = .ok (.aload_n 0, 1) := by decide +kernel
theorem dX1_init_1 : decode cX1_init 1 = .ok (.invokespecial 3, 3) := by decide +kernel
theorem dX1_init_4 : decode cX1_init 4 = .ok (.aload_n 0, 1) := by decide +kernel
theorem dX1_init_5 : decode cX1_init 5 = .ok (.bipush 40, 2) := by decide +kernel
theorem dX1_init_7 : decode cX1_init 7 = .ok (.newarray .int, 2) := by decide +kernel
theorem dX1_init_9 : decode cX1_init 9 = .ok (.putfield 9, 3) := by decide +kernel
theorem dX1_init_12 : decode cX1_init 12 = .ok (.aload_n 0, 1) := by decide +kernel
theorem dX1_init_13 : decode cX1_init 13 = .ok (.iconst 5, 1) := by decide +kernel
theorem dX1_init_14 : decode cX1_init 14 = .ok (.newarray .int, 2) := by decide +kernel
theorem dX1_init_16 : decode cX1_init 16 = .ok (.putfield 15, 3) := by decide +kernel
theorem dX1_init_19 : decode cX1_init 19 = .ok (.aload_n 0, 1) := by decide +kernel
theorem dX1_init_20 : decode cX1_init 20 = .ok (.iconst 5, 1) := by decide +kernel
theorem dX1_init_21 : decode cX1_init 21 = .ok (.newarray .int, 2) := by decide +kernel
theorem dX1_init_23 : decode cX1_init 23 = .ok (.putfield 18, 3) := by decide +kernel
theorem dX1_init_26 : decode cX1_init 26 = .ok (.aload_n 0, 1) := by decide +kernel
theorem dX1_init_27 : decode cX1_init 27 = .ok (.bipush 11, 2) := by decide +kernel
theorem dX1_init_29 : decode cX1_init 29 = .ok (.newarray .int, 2) := by decide +kernel
theorem dX1_init_31 : decode cX1_init 31 = .ok (.putfield 21, 3) := by decide +kernel
theorem dX1_init_34 : decode cX1_init 34 = .ok (.return_, 1) := by decide +kernel
theorem dX1_seek_0 : decode cX1_seek 0 = .ok (.aload_n 0, 1) := by decide +kernel
theorem dX1_seek_1 : decode cX1_seek 1 = .ok (.aload_n 1, 1) := by decide +kernel
theorem dX1_seek_2 : decode cX1_seek 2 = .ok (.getfield 24, 3) := by decide +kernel
theorem dX1_seek_5 : decode cX1_seek 5 = .ok (.putfield 30, 3) := by decide +kernel
theorem dX1_seek_8 : decode cX1_seek 8 = .ok (.aload_n 2, 1) := by decide +kernel
theorem dX1_seek_9 : decode cX1_seek 9 = .ok (.getfield 31, 3) := by decide +kernel
theorem dX1_seek_12 : decode cX1_seek 12 = .ok (.iconst 0, 1) := by decide +kernel
theorem dX1_seek_13 : decode cX1_seek 13 = .ok (.aload_n 0, 1) := by decide +kernel
theorem dX1_seek_14 : decode cX1_seek 14 = .ok (.getfield 21, 3) := by decide +kernel
theorem dX1_seek_17 : decode cX1_seek 17 = .ok (.iconst 0, 1) := by decide +kernel
theorem dX1_seek_18 : decode cX1_seek 18 = .ok (.bipush 11, 2) := by decide +kernel
theorem dX1_seek_20 : decode cX1_seek 20 = .ok (.invokestatic 34, 3) := by decide +kernel
theorem dX1_seek_23 : decode cX1_seek 23 = .ok (.aload_n 0, 1) := by decide +kernel
theorem dX1_seek_24 : decode cX1_seek 24 = .ok (.aload_n 2, 1) := by decide +kernel
theorem dX1_seek_25 : decode cX1_seek 25 = .ok (.invokevirtual 40, 3) := by decide +kernel
theorem dX1_seek_28 : decode cX1_seek 28 = .ok (.putfield 44, 3) := by decide +kernel
theorem dX1_seek_31 : decode cX1_seek 31 = .ok (.aload_n 0, 1) := by decide +kernel
theorem dX1_seek_32 : decode cX1_seek 32 = .ok (.iconst 0, 1) := by decide +kernel
theorem dX1_seek_33 : decode cX1_seek 33 = .ok (.putfield 46, 3) := by decide +kernel
theorem dX1_seek_36 : decode cX1_seek 36 = .ok (.iconst 1, 1) := by decide +kernel
theorem dX1_seek_37 : decode cX1_seek 37 = .ok (.istore 5, 2) := by decide +kernel
theorem dX1_seek_39 : decode cX1_seek 39 = .ok (.iload 5, 2) := by decide +kernel
theorem dX1_seek_41 : decode cX1_seek 41 = .ok (.bipush 10, 2) := by decide +kernel
theorem dX1_seek_43 : decode cX1_seek 43 = .ok (.if_icmp .gt 33, 3) := by decide +kernel
theorem dX1_seek_46 : decode cX1_seek 46 = .ok (.aload_n 0, 1) := by decide +kernel
theorem dX1_seek_47 : decode cX1_seek 47 = .ok (.dup, 1) := by decide +kernel
theorem dX1_seek_48 : decode cX1_seek 48 = .ok (.getfield 46, 3) := by decide +kernel
theorem dX1_seek_51 : decode cX1_seek 51 = .ok (.aload_n 0, 1) := by decide +kernel
theorem dX1_seek_52 : decode cX1_seek 52 = .ok (.getfield 21, 3) := by decide +kernel
theorem dX1_seek_55 : decode cX1_seek 55 = .ok (.iload 5, 2) := by decide +kernel
theorem dX1_seek_57 : decode cX1_seek 57 = .ok (.iaload, 1) := by decide +kernel
theorem dX1_seek_58 : decode cX1_seek 58 = .ok (.ifCond .le 7, 3) := by decide +kernel
theorem dX1_seek_61 : decode cX1_seek 61 = .ok (.iconst 1, 1) := by decide +kernel
theorem dX1_seek_62 : decode cX1_seek 62 = .ok (.goto 4, 3) := by decide +kernel
theorem dX1_seek_65 : decode cX1_seek 65 = .ok (.iconst 0, 1) := by decide +kernel
theorem dX1_seek_66 : decode cX1_seek 66 = .ok (.iadd, 1) := by decide +kernel
theorem dX1_seek_67 : decode cX1_seek 67 = .ok (.putfield 46, 3) := by decide +kernel
theorem dX1_seek_70 : decode cX1_seek 70 = .ok (.iinc 5 1, 3) := by decide +kernel
theorem dX1_seek_73 : decode cX1_seek 73 = .ok (.goto (-34), 3) := by decide +kernel
theorem dX1_seek_76 : decode cX1_seek 76 = .ok (.aload_n 0, 1) := by decide +kernel
theorem dX1_seek_77 : decode cX1_seek 77 = .ok (.iload_n 3, 1) := by decide +kernel
theorem dX1_seek_78 : decode cX1_seek 78 = .ok (.putfield 49, 3) := by decide +kernel
theorem dX1_seek_81 : decode cX1_seek 81 = .ok (.aload_n 0, 1) := by decide +kernel
theorem dX1_seek_82 : decode cX1_seek 82 = .ok (.iload 4, 2) := by decide +kernel
theorem dX1_seek_84 : decode cX1_seek 84 = .ok (.putfield 52, 3) := by decide +kernel
theorem dX1_seek_87 : decode cX1_seek 87 = .ok (.aload_n 0, 1) := by decide +kernel
theorem dX1_seek_88 : decode cX1_seek 88 = .ok (.iconst 0, 1) := by decide +kernel
theorem dX1_seek_89 : decode cX1_seek 89 = .ok (.putfield 55, 3) := by decide +kernel
theorem dX1_seek_92 : decode cX1_seek 92 = .ok (.aload_n 0, 1) := by decide +kernel
theorem dX1_seek_93 : decode cX1_seek 93 = .ok (.lconst 0, 1) := by decide +kernel
theorem dX1_seek_94 : decode cX1_seek 94 = .ok (.putfield 58, 3) := by decide +kernel
theorem dX1_seek_97 : decode cX1_seek 97 = .ok (.aload_n 0, 1) := by decide +kernel
theorem dX1_seek_98 : decode cX1_seek 98 = .ok (.lconst 0, 1) := by decide +kernel
theorem dX1_seek_99 : decode cX1_seek 99 = .ok (.putfield 62, 3) := by decide +kernel
theorem dX1_seek_102 : decode cX1_seek 102 = .ok (.aload_n 0, 1) := by decide +kernel
theorem dX1_seek_103 : decode cX1_seek 103 = .ok (.aload_n 1, 1) := by decide +kernel
theorem dX1_seek_104 : decode cX1_seek 104 = .ok (.invokevirtual 65, 3) := by decide +kernel
theorem dX1_seek_107 : decode cX1_seek 107 = .ok (.aload_n 0, 1) := by decide +kernel
theorem dX1_seek_108 : decode cX1_seek 108 = .ok (.aload_n 1, 1) := by decide +kernel
theorem dX1_seek_109 : decode cX1_seek 109 = .ok (.invokevirtual 69, 3) := by decide +kernel
theorem dX1_seek_112 : decode cX1_seek 112 = .ok (.aload_n 0, 1) := by decide +kernel
theorem dX1_seek_113 : decode cX1_seek 113 = .ok (.aload_n 2, 1) := by decide +kernel
theorem dX1_seek_114 : decode cX1_seek 114 = .ok (.invokevirtual 72, 3) := by decide +kernel
theorem dX1_seek_117 : decode cX1_seek 117 = .ok (.ifCond .eq 11, 3) := by decide +kernel
theorem dX1_seek_120 : decode cX1_seek 120 = .ok (.aload_n 0, 1) := by decide +kernel
theorem dX1_seek_121 : decode cX1_seek 121 = .ok (.iconst 0, 1) := by decide +kernel
theorem dX1_seek_122 : decode cX1_seek 122 = .ok (.iconst 1, 1) := by decide +kernel
theorem dX1_seek_123 : decode cX1_seek 123 = .ok (.lconst 1, 1) := by decide +kernel
theorem dX1_seek_124 : decode cX1_seek 124 = .ok (.lconst 1, 1) := by decide +kernel
theorem dX1_seek_125 : decode cX1_seek 125 = .ok (.invokevirtual 76, 3) := by decide +kernel
theorem dX1_seek_128 : decode cX1_seek 128 = .ok (.return_, 1) := by decide +kernel
theorem dX1_findSpots_0 : decode cX1_findSpots 0 = .ok (.aload_n 0, 1) := by decide +kernel
theorem dX1_findSpots_1 : decode cX1_findSpots 1 = .ok (.iconst 0, 1) := by decide +kernel
theorem dX1_findSpots_2 : decode cX1_findSpots 2 = .ok (.putfield 80, 3) := by decide +kernel
theorem dX1_findSpots_5 : decode cX1_findSpots 5 = .ok (.iconst 0, 1) := by decide +kernel
theorem dX1_findSpots_6 : decode cX1_findSpots 6 = .ok (.istore_n 2, 1) := by decide +kernel
theorem dX1_findSpots_7 : decode cX1_findSpots 7 = .ok (.iload_n 2, 1) := by decide +kernel
theorem dX1_findSpots_8 : decode cX1_findSpots 8 = .ok (.aload_n 0, 1) := by decide +kernel
theorem dX1_findSpots_9 : decode cX1_findSpots 9 = .ok (.getfield 30, 3) := by decide +kernel
theorem dX1_findSpots_12 : decode cX1_findSpots 12 = .ok (.if_icmp .ge 56, 3) := by decide +kernel
theorem dX1_findSpots_15 : decode cX1_findSpots 15 = .ok (.aload_n 1, 1) := by decide +kernel
theorem dX1_findSpots_16 : decode cX1_findSpots 16 = .ok (.getfield 83, 3) := by decide +kernel
theorem dX1_findSpots_19 : decode cX1_findSpots 19 = .ok (.iload_n 2, 1) := by decide +kernel
theorem dX1_findSpots_20 : decode cX1_findSpots 20 = .ok (.iaload, 1) := by decide +kernel
theorem dX1_findSpots_21 : decode cX1_findSpots 21 = .ok (.ifCond .ne 41, 3) := by decide +kernel
theorem dX1_findSpots_24 : decode cX1_findSpots 24 = .ok (.aload_n 0, 1) := by decide +kernel
theorem dX1_findSpots_25 : decode cX1_findSpots 25 = .ok (.getfield 80, 3) := by decide +kernel
theorem dX1_findSpots_28 : decode cX1_findSpots 28 = .ok (.iconst 5, 1) := by decide +kernel
theorem dX1_findSpots_29 : decode cX1_findSpots 29 = .ok (.if_icmp .ge 33, 3) := by decide +kernel
theorem dX1_findSpots_32 : decode cX1_findSpots 32 = .ok (.aload_n 0, 1) := by decide +kernel
theorem dX1_findSpots_33 : decode cX1_findSpots 33 = .ok (.getfield 15, 3) := by decide +kernel
theorem dX1_findSpots_36 : decode cX1_findSpots 36 = .ok (.aload_n 0, 1) := by decide +kernel
theorem dX1_findSpots_37 : decode cX1_findSpots 37 = .ok (.getfield 80, 3) := by decide +kernel
theorem dX1_findSpots_40 : decode cX1_findSpots 40 = .ok (.iload_n 2, 1) := by decide +kernel
theorem dX1_findSpots_41 : decode cX1_findSpots 41 = .ok (.iastore, 1) := by decide +kernel
theorem dX1_findSpots_42 : decode cX1_findSpots 42 = .ok (.aload_n 0, 1) := by decide +kernel
theorem dX1_findSpots_43 : decode cX1_findSpots 43 = .ok (.getfield 18, 3) := by decide +kernel
theorem dX1_findSpots_46 : decode cX1_findSpots 46 = .ok (.aload_n 0, 1) := by decide +kernel
theorem dX1_findSpots_47 : decode cX1_findSpots 47 = .ok (.getfield 80, 3) := by decide +kernel
theorem dX1_findSpots_50 : decode cX1_findSpots 50 = .ok (.iconst (-1), 1) := by decide +kernel
theorem dX1_findSpots_51 : decode cX1_findSpots 51 = .ok (.iastore, 1) := by decide +kernel
theorem dX1_findSpots_52 : decode cX1_findSpots 52 = .ok (.aload_n 0, 1) := by decide +kernel
theorem dX1_findSpots_53 : decode cX1_findSpots 53 = .ok (.dup, 1) := by decide +kernel
theorem dX1_findSpots_54 : decode cX1_findSpots 54 = .ok (.getfield 80, 3) := by decide +kernel
theorem dX1_findSpots_57 : decode cX1_findSpots 57 = .ok (.iconst 1, 1) := by decide +kernel
theorem dX1_findSpots_58 : decode cX1_findSpots 58 = .ok (.iadd, 1) := by decide +kernel
theorem dX1_findSpots_59 : decode cX1_findSpots 59 = .ok (.putfield 80, 3) := by decide +kernel
theorem dX1_findSpots_62 : decode cX1_findSpots 62 = .ok (.iinc 2 1, 3) := by decide +kernel
theorem dX1_findSpots_65 : decode cX1_findSpots 65 = .ok (.goto (-58), 3) := by decide +kernel
theorem dX1_findSpots_68 : decode cX1_findSpots 68 = .ok (.return_, 1) := by decide +kernel
theorem dX1_findRoots_0 : decode cX1_findRoots 0 = .ok (.aload_n 0, 1) := by decide +kernel
theorem dX1_findRoots_1 : decode cX1_findRoots 1 = .ok (.getfield 80, 3) := by decide +kernel
theorem dX1_findRoots_4 : decode cX1_findRoots 4 = .ok (.istore_n 2, 1) := by decide +kernel
theorem dX1_findRoots_5 : decode cX1_findRoots 5 = .ok (.aload_n 0, 1) := by decide +kernel
theorem dX1_findRoots_6 : decode cX1_findRoots 6 = .ok (.getfield 30, 3) := by decide +kernel
theorem dX1_findRoots_9 : decode cX1_findRoots 9 = .ok (.iconst 1, 1) := by decide +kernel
theorem dX1_findRoots_10 : decode cX1_findRoots 10 = .ok (.isub, 1) := by decide +kernel
theorem dX1_findRoots_11 : decode cX1_findRoots 11 = .ok (.istore_n 3, 1) := by decide +kernel
theorem dX1_findRoots_12 : decode cX1_findRoots 12 = .ok (.iload_n 3, 1) := by decide +kernel
theorem dX1_findRoots_13 : decode cX1_findRoots 13 = .ok (.ifCond .lt 51, 3) := by decide +kernel
theorem dX1_findRoots_16 : decode cX1_findRoots 16 = .ok (.aload_n 1, 1) := by decide +kernel
theorem dX1_findRoots_17 : decode cX1_findRoots 17 = .ok (.getfield 83, 3) := by decide +kernel
theorem dX1_findRoots_20 : decode cX1_findRoots 20 = .ok (.iload_n 3, 1) := by decide +kernel
theorem dX1_findRoots_21 : decode cX1_findRoots 21 = .ok (.iaload, 1) := by decide +kernel
theorem dX1_findRoots_22 : decode cX1_findRoots 22 = .ok (.ifCond .ne 19, 3) := by decide +kernel
theorem dX1_findRoots_25 : decode cX1_findRoots 25 = .ok (.iinc 2 (-1), 3) := by decide +kernel
theorem dX1_findRoots_28 : decode cX1_findRoots 28 = .ok (.aload_n 0, 1) := by decide +kernel
theorem dX1_findRoots_29 : decode cX1_findRoots 29 = .ok (.getfield 9, 3) := by decide +kernel
theorem dX1_findRoots_32 : decode cX1_findRoots 32 = .ok (.iload_n 3, 1) := by decide +kernel
theorem dX1_findRoots_33 : decode cX1_findRoots 33 = .ok (.bipush 40, 2) := by decide +kernel
theorem dX1_findRoots_35 : decode cX1_findRoots 35 = .ok (.iload_n 2, 1) := by decide +kernel
theorem dX1_findRoots_36 : decode cX1_findRoots 36 = .ok (.iadd, 1) := by decide +kernel
theorem dX1_findRoots_37 : decode cX1_findRoots 37 = .ok (.iastore, 1) := by decide +kernel
theorem dX1_findRoots_38 : decode cX1_findRoots 38 = .ok (.goto 20, 3) := by decide +kernel
theorem dX1_findRoots_41 : decode cX1_findRoots 41 = .ok (.aload_n 0, 1) := by decide +kernel
theorem dX1_findRoots_42 : decode cX1_findRoots 42 = .ok (.getfield 9, 3) := by decide +kernel
theorem dX1_findRoots_45 : decode cX1_findRoots 45 = .ok (.iload_n 3, 1) := by decide +kernel
theorem dX1_findRoots_46 : decode cX1_findRoots 46 = .ok (.aload_n 0, 1) := by decide +kernel
theorem dX1_findRoots_47 : decode cX1_findRoots 47 = .ok (.iload_n 3, 1) := by decide +kernel
theorem dX1_findRoots_48 : decode cX1_findRoots 48 = .ok (.aload_n 1, 1) := by decide +kernel
theorem dX1_findRoots_49 : decode cX1_findRoots 49 = .ok (.getfield 83, 3) := by decide +kernel
theorem dX1_findRoots_52 : decode cX1_findRoots 52 = .ok (.iload_n 3, 1) := by decide +kernel
theorem dX1_findRoots_53 : decode cX1_findRoots 53 = .ok (.iaload, 1) := by decide +kernel
theorem dX1_findRoots_54 : decode cX1_findRoots 54 = .ok (.invokevirtual 86, 3) := by decide +kernel
theorem dX1_findRoots_57 : decode cX1_findRoots 57 = .ok (.iastore, 1) := by decide +kernel
theorem dX1_findRoots_58 : decode cX1_findRoots 58 = .ok (.iinc 3 (-1), 3) := by decide +kernel
theorem dX1_findRoots_61 : decode cX1_findRoots 61 = .ok (.goto (-49), 3) := by decide +kernel
theorem dX1_findRoots_64 : decode cX1_findRoots 64 = .ok (.return_, 1) := by decide +kernel
theorem dX1_rootBy_0 : decode cX1_rootBy 0 = .ok (.iload_n 1, 1) := by decide +kernel
theorem dX1_rootBy_1 : decode cX1_rootBy 1 = .ok (.iload_n 2, 1) := by decide +kernel
theorem dX1_rootBy_2 : decode cX1_rootBy 2 = .ok (.iadd, 1) := by decide +kernel
theorem dX1_rootBy_3 : decode cX1_rootBy 3 = .ok (.istore_n 3, 1) := by decide +kernel
theorem dX1_rootBy_4 : decode cX1_rootBy 4 = .ok (.iload_n 3, 1) := by decide +kernel
theorem dX1_rootBy_5 : decode cX1_rootBy 5 = .ok (.aload_n 0, 1) := by decide +kernel
theorem dX1_rootBy_6 : decode cX1_rootBy 6 = .ok (.getfield 30, 3) := by decide +kernel
theorem dX1_rootBy_9 : decode cX1_rootBy 9 = .ok (.if_icmp .ge 12, 3) := by decide +kernel
theorem dX1_rootBy_12 : decode cX1_rootBy 12 = .ok (.aload_n 0, 1) := by decide +kernel
theorem dX1_rootBy_13 : decode cX1_rootBy 13 = .ok (.getfield 9, 3) := by decide +kernel
theorem dX1_rootBy_16 : decode cX1_rootBy 16 = .ok (.iload_n 3, 1) := by decide +kernel
theorem dX1_rootBy_17 : decode cX1_rootBy 17 = .ok (.iaload, 1) := by decide +kernel
theorem dX1_rootBy_18 : decode cX1_rootBy 18 = .ok (.goto 4, 3) := by decide +kernel
theorem dX1_rootBy_21 : decode cX1_rootBy 21 = .ok (.iload_n 1, 1) := by decide +kernel
theorem dX1_rootBy_22 : decode cX1_rootBy 22 = .ok (.ireturn, 1) := by decide +kernel
theorem dX1_takeNeeds_0 : decode cX1_takeNeeds 0 = .ok (.iconst 0, 1) := by decide +kernel
theorem dX1_takeNeeds_1 : decode cX1_takeNeeds 1 = .ok (.istore_n 2, 1) := by decide +kernel
theorem dX1_takeNeeds_2 : decode cX1_takeNeeds 2 = .ok (.iload_n 2, 1) := by decide +kernel
theorem dX1_takeNeeds_3 : decode cX1_takeNeeds 3 = .ok (.aload_n 1, 1) := by decide +kernel
theorem dX1_takeNeeds_4 : decode cX1_takeNeeds 4 = .ok (.getfield 90, 3) := by decide +kernel
theorem dX1_takeNeeds_7 : decode cX1_takeNeeds 7 = .ok (.if_icmp .ge 91, 3) := by decide +kernel
theorem dX1_takeNeeds_10 : decode cX1_takeNeeds 10 = .ok (.aload_n 0, 1) := by decide +kernel
theorem dX1_takeNeeds_11 : decode cX1_takeNeeds 11 = .ok (.getfield 9, 3) := by decide +kernel
theorem dX1_takeNeeds_14 : decode cX1_takeNeeds 14 = .ok (.aload_n 1, 1) := by decide +kernel
theorem dX1_takeNeeds_15 : decode cX1_takeNeeds 15 = .ok (.getfield 93, 3) := by decide +kernel
theorem dX1_takeNeeds_18 : decode cX1_takeNeeds 18 = .ok (.iload_n 2, 1) := by decide +kernel
theorem dX1_takeNeeds_19 : decode cX1_takeNeeds 19 = .ok (.iaload, 1) := by decide +kernel
theorem dX1_takeNeeds_20 : decode cX1_takeNeeds 20 = .ok (.iaload, 1) := by decide +kernel
theorem dX1_takeNeeds_21 : decode cX1_takeNeeds 21 = .ok (.istore_n 3, 1) := by decide +kernel
theorem dX1_takeNeeds_22 : decode cX1_takeNeeds 22 = .ok (.aload_n 1, 1) := by decide +kernel
theorem dX1_takeNeeds_23 : decode cX1_takeNeeds 23 = .ok (.getfield 96, 3) := by decide +kernel
theorem dX1_takeNeeds_26 : decode cX1_takeNeeds 26 = .ok (.iload_n 2, 1) := by decide +kernel
theorem dX1_takeNeeds_27 : decode cX1_takeNeeds 27 = .ok (.iaload, 1) := by decide +kernel
theorem dX1_takeNeeds_28 : decode cX1_takeNeeds 28 = .ok (.istore 4, 2) := by decide +kernel
theorem dX1_takeNeeds_30 : decode cX1_takeNeeds 30 = .ok (.iload_n 3, 1) := by decide +kernel
theorem dX1_takeNeeds_31 : decode cX1_takeNeeds 31 = .ok (.bipush 40, 2) := by decide +kernel
theorem dX1_takeNeeds_33 : decode cX1_takeNeeds 33 = .ok (.isub, 1) := by decide +kernel
theorem dX1_takeNeeds_34 : decode cX1_takeNeeds 34 = .ok (.istore 5, 2) := by decide +kernel
theorem dX1_takeNeeds_36 : decode cX1_takeNeeds 36 = .ok (.iload 5, 2) := by decide +kernel
theorem dX1_takeNeeds_38 : decode cX1_takeNeeds 38 = .ok (.ifCond .lt 9, 3) := by decide +kernel
theorem dX1_takeNeeds_41 : decode cX1_takeNeeds 41 = .ok (.iload 5, 2) := by decide +kernel
theorem dX1_takeNeeds_43 : decode cX1_takeNeeds 43 = .ok (.iconst 5, 1) := by decide +kernel
theorem dX1_takeNeeds_44 : decode cX1_takeNeeds 44 = .ok (.if_icmp .lt 11, 3) := by decide +kernel
theorem dX1_takeNeeds_47 : decode cX1_takeNeeds 47 = .ok (.iload_n 3, 1) := by decide +kernel
theorem dX1_takeNeeds_48 : decode cX1_takeNeeds 48 = .ok (.iload 4, 2) := by decide +kernel
theorem dX1_takeNeeds_50 : decode cX1_takeNeeds 50 = .ok (.if_icmp .eq 42, 3) := by decide +kernel
theorem dX1_takeNeeds_53 : decode cX1_takeNeeds 53 = .ok (.iconst 0, 1) := by decide +kernel
theorem dX1_takeNeeds_54 : decode cX1_takeNeeds 54 = .ok (.ireturn, 1) := by decide +kernel
theorem dX1_takeNeeds_55 : decode cX1_takeNeeds 55 = .ok (.aload_n 0, 1) := by decide +kernel
theorem dX1_takeNeeds_56 : decode cX1_takeNeeds 56 = .ok (.getfield 18, 3) := by decide +kernel
theorem dX1_takeNeeds_59 : decode cX1_takeNeeds 59 = .ok (.iload 5, 2) := by decide +kernel
theorem dX1_takeNeeds_61 : decode cX1_takeNeeds 61 = .ok (.iaload, 1) := by decide +kernel
theorem dX1_takeNeeds_62 : decode cX1_takeNeeds 62 = .ok (.iconst (-1), 1) := by decide +kernel
theorem dX1_takeNeeds_63 : decode cX1_takeNeeds 63 = .ok (.if_icmp .ne 15, 3) := by decide +kernel
theorem dX1_takeNeeds_66 : decode cX1_takeNeeds 66 = .ok (.aload_n 0, 1) := by decide +kernel
theorem dX1_takeNeeds_67 : decode cX1_takeNeeds 67 = .ok (.getfield 18, 3) := by decide +kernel
theorem dX1_takeNeeds_70 : decode cX1_takeNeeds 70 = .ok (.iload 5, 2) := by decide +kernel
theorem dX1_takeNeeds_72 : decode cX1_takeNeeds 72 = .ok (.iload 4, 2) := by decide +kernel
theorem dX1_takeNeeds_74 : decode cX1_takeNeeds 74 = .ok (.iastore, 1) := by decide +kernel
theorem dX1_takeNeeds_75 : decode cX1_takeNeeds 75 = .ok (.goto 17, 3) := by decide +kernel
theorem dX1_takeNeeds_78 : decode cX1_takeNeeds 78 = .ok (.aload_n 0, 1) := by decide +kernel
theorem dX1_takeNeeds_79 : decode cX1_takeNeeds 79 = .ok (.getfield 18, 3) := by decide +kernel
theorem dX1_takeNeeds_82 : decode cX1_takeNeeds 82 = .ok (.iload 5, 2) := by decide +kernel
theorem dX1_takeNeeds_84 : decode cX1_takeNeeds 84 = .ok (.iaload, 1) := by decide +kernel
theorem dX1_takeNeeds_85 : decode cX1_takeNeeds 85 = .ok (.iload 4, 2) := by decide +kernel
theorem dX1_takeNeeds_87 : decode cX1_takeNeeds 87 = .ok (.if_icmp .eq 5, 3) := by decide +kernel
theorem dX1_takeNeeds_90 : decode cX1_takeNeeds 90 = .ok (.iconst 0, 1) := by decide +kernel
theorem dX1_takeNeeds_91 : decode cX1_takeNeeds 91 = .ok (.ireturn, 1) := by decide +kernel
theorem dX1_takeNeeds_92 : decode cX1_takeNeeds 92 = .ok (.iinc 2 1, 3) := by decide +kernel
theorem dX1_takeNeeds_95 : decode cX1_takeNeeds 95 = .ok (.goto (-93), 3) := by decide +kernel
theorem dX1_takeNeeds_98 : decode cX1_takeNeeds 98 = .ok (.iconst 1, 1) := by decide +kernel
theorem dX1_takeNeeds_99 : decode cX1_takeNeeds 99 = .ok (.ireturn, 1) := by decide +kernel
theorem dX1_goOn_0 : decode cX1_goOn 0 = .ok (.iload_n 1, 1) := by decide +kernel
theorem dX1_goOn_1 : decode cX1_goOn 1 = .ok (.aload_n 0, 1) := by decide +kernel
theorem dX1_goOn_2 : decode cX1_goOn 2 = .ok (.getfield 80, 3) := by decide +kernel
theorem dX1_goOn_5 : decode cX1_goOn 5 = .ok (.if_icmp .lt 35, 3) := by decide +kernel
theorem dX1_goOn_8 : decode cX1_goOn 8 = .ok (.aload_n 0, 1) := by decide +kernel
theorem dX1_goOn_9 : decode cX1_goOn 9 = .ok (.dup, 1) := by decide +kernel
theorem dX1_goOn_10 : decode cX1_goOn 10 = .ok (.getfield 55, 3) := by decide +kernel
theorem dX1_goOn_13 : decode cX1_goOn 13 = .ok (.iload_n 2, 1) := by decide +kernel
theorem dX1_goOn_14 : decode cX1_goOn 14 = .ok (.iadd, 1) := by decide +kernel
theorem dX1_goOn_15 : decode cX1_goOn 15 = .ok (.putfield 55, 3) := by decide +kernel
theorem dX1_goOn_18 : decode cX1_goOn 18 = .ok (.aload_n 0, 1) := by decide +kernel
theorem dX1_goOn_19 : decode cX1_goOn 19 = .ok (.dup, 1) := by decide +kernel
theorem dX1_goOn_20 : decode cX1_goOn 20 = .ok (.getfield 58, 3) := by decide +kernel
theorem dX1_goOn_23 : decode cX1_goOn 23 = .ok (.lload_n 3, 1) := by decide +kernel
theorem dX1_goOn_24 : decode cX1_goOn 24 = .ok (.ladd, 1) := by decide +kernel
theorem dX1_goOn_25 : decode cX1_goOn 25 = .ok (.putfield 58, 3) := by decide +kernel
theorem dX1_goOn_28 : decode cX1_goOn 28 = .ok (.aload_n 0, 1) := by decide +kernel
theorem dX1_goOn_29 : decode cX1_goOn 29 = .ok (.dup, 1) := by decide +kernel
theorem dX1_goOn_30 : decode cX1_goOn 30 = .ok (.getfield 62, 3) := by decide +kernel
theorem dX1_goOn_33 : decode cX1_goOn 33 = .ok (.lload 5, 2) := by decide +kernel
theorem dX1_goOn_35 : decode cX1_goOn 35 = .ok (.ladd, 1) := by decide +kernel
theorem dX1_goOn_36 : decode cX1_goOn 36 = .ok (.putfield 62, 3) := by decide +kernel
theorem dX1_goOn_39 : decode cX1_goOn 39 = .ok (.return_, 1) := by decide +kernel
theorem dX1_goOn_40 : decode cX1_goOn 40 = .ok (.aload_n 0, 1) := by decide +kernel
theorem dX1_goOn_41 : decode cX1_goOn 41 = .ok (.getfield 18, 3) := by decide +kernel
theorem dX1_goOn_44 : decode cX1_goOn 44 = .ok (.iload_n 1, 1) := by decide +kernel
theorem dX1_goOn_45 : decode cX1_goOn 45 = .ok (.iaload, 1) := by decide +kernel
theorem dX1_goOn_46 : decode cX1_goOn 46 = .ok (.iconst (-1), 1) := by decide +kernel
theorem dX1_goOn_47 : decode cX1_goOn 47 = .ok (.if_icmp .ne 56, 3) := by decide +kernel
theorem dX1_goOn_50 : decode cX1_goOn 50 = .ok (.iload_n 1, 1) := by decide +kernel
theorem dX1_goOn_51 : decode cX1_goOn 51 = .ok (.aload_n 0, 1) := by decide +kernel
theorem dX1_goOn_52 : decode cX1_goOn 52 = .ok (.getfield 49, 3) := by decide +kernel
theorem dX1_goOn_55 : decode cX1_goOn 55 = .ok (.if_icmp .ne 15, 3) := by decide +kernel
theorem dX1_goOn_58 : decode cX1_goOn 58 = .ok (.aload_n 0, 1) := by decide +kernel
theorem dX1_goOn_59 : decode cX1_goOn 59 = .ok (.getfield 21, 3) := by decide +kernel
theorem dX1_goOn_62 : decode cX1_goOn 62 = .ok (.aload_n 0, 1) := by decide +kernel
theorem dX1_goOn_63 : decode cX1_goOn 63 = .ok (.getfield 52, 3) := by decide +kernel
theorem dX1_goOn_66 : decode cX1_goOn 66 = .ok (.iaload, 1) := by decide +kernel
theorem dX1_goOn_67 : decode cX1_goOn 67 = .ok (.goto 7, 3) := by decide +kernel
theorem dX1_goOn_70 : decode cX1_goOn 70 = .ok (.aload_n 0, 1) := by decide +kernel
theorem dX1_goOn_71 : decode cX1_goOn 71 = .ok (.getfield 44, 3) := by decide +kernel
theorem dX1_goOn_74 : decode cX1_goOn 74 = .ok (.istore 7, 2) := by decide +kernel
theorem dX1_goOn_76 : decode cX1_goOn 76 = .ok (.aload_n 0, 1) := by decide +kernel
theorem dX1_goOn_77 : decode cX1_goOn 77 = .ok (.iload_n 1, 1) := by decide +kernel
theorem dX1_goOn_78 : decode cX1_goOn 78 = .ok (.iconst 1, 1) := by decide +kernel
theorem dX1_goOn_79 : decode cX1_goOn 79 = .ok (.iadd, 1) := by decide +kernel
theorem dX1_goOn_80 : decode cX1_goOn 80 = .ok (.iload_n 2, 1) := by decide +kernel
theorem dX1_goOn_81 : decode cX1_goOn 81 = .ok (.aload_n 0, 1) := by decide +kernel
theorem dX1_goOn_82 : decode cX1_goOn 82 = .ok (.getfield 46, 3) := by decide +kernel
theorem dX1_goOn_85 : decode cX1_goOn 85 = .ok (.imul, 1) := by decide +kernel
theorem dX1_goOn_86 : decode cX1_goOn 86 = .ok (.lload_n 3, 1) := by decide +kernel
theorem dX1_goOn_87 : decode cX1_goOn 87 = .ok (.aload_n 0, 1) := by decide +kernel
theorem dX1_goOn_88 : decode cX1_goOn 88 = .ok (.getfield 44, 3) := by decide +kernel
theorem dX1_goOn_91 : decode cX1_goOn 91 = .ok (.i2l, 1) := by decide +kernel
theorem dX1_goOn_92 : decode cX1_goOn 92 = .ok (.lmul, 1) := by decide +kernel
theorem dX1_goOn_93 : decode cX1_goOn 93 = .ok (.lload 5, 2) := by decide +kernel
theorem dX1_goOn_95 : decode cX1_goOn 95 = .ok (.iload 7, 2) := by decide +kernel
theorem dX1_goOn_97 : decode cX1_goOn 97 = .ok (.i2l, 1) := by decide +kernel
theorem dX1_goOn_98 : decode cX1_goOn 98 = .ok (.lmul, 1) := by decide +kernel
theorem dX1_goOn_99 : decode cX1_goOn 99 = .ok (.invokevirtual 76, 3) := by decide +kernel
theorem dX1_goOn_102 : decode cX1_goOn 102 = .ok (.return_, 1) := by decide +kernel
theorem dX1_goOn_103 : decode cX1_goOn 103 = .ok (.iload_n 1, 1) := by decide +kernel
theorem dX1_goOn_104 : decode cX1_goOn 104 = .ok (.iconst 1, 1) := by decide +kernel
theorem dX1_goOn_105 : decode cX1_goOn 105 = .ok (.iadd, 1) := by decide +kernel
theorem dX1_goOn_106 : decode cX1_goOn 106 = .ok (.istore 7, 2) := by decide +kernel
theorem dX1_goOn_108 : decode cX1_goOn 108 = .ok (.iload 7, 2) := by decide +kernel
theorem dX1_goOn_110 : decode cX1_goOn 110 = .ok (.aload_n 0, 1) := by decide +kernel
theorem dX1_goOn_111 : decode cX1_goOn 111 = .ok (.getfield 80, 3) := by decide +kernel
theorem dX1_goOn_114 : decode cX1_goOn 114 = .ok (.if_icmp .gt 20, 3) := by decide +kernel
theorem dX1_goOn_117 : decode cX1_goOn 117 = .ok (.aload_n 0, 1) := by decide +kernel
theorem dX1_goOn_118 : decode cX1_goOn 118 = .ok (.iload 7, 2) := by decide +kernel
theorem dX1_goOn_120 : decode cX1_goOn 120 = .ok (.iload_n 1, 1) := by decide +kernel
theorem dX1_goOn_121 : decode cX1_goOn 121 = .ok (.iload_n 2, 1) := by decide +kernel
theorem dX1_goOn_122 : decode cX1_goOn 122 = .ok (.lload_n 3, 1) := by decide +kernel
theorem dX1_goOn_123 : decode cX1_goOn 123 = .ok (.lload 5, 2) := by decide +kernel
theorem dX1_goOn_125 : decode cX1_goOn 125 = .ok (.invokevirtual 99, 3) := by decide +kernel
theorem dX1_goOn_128 : decode cX1_goOn 128 = .ok (.iinc 7 1, 3) := by decide +kernel
theorem dX1_goOn_131 : decode cX1_goOn 131 = .ok (.goto (-23), 3) := by decide +kernel
theorem dX1_goOn_134 : decode cX1_goOn 134 = .ok (.return_, 1) := by decide +kernel
theorem dX1_leadTo_0 : decode cX1_leadTo 0 = .ok (.iload_n 1, 1) := by decide +kernel
theorem dX1_leadTo_1 : decode cX1_leadTo 1 = .ok (.aload_n 0, 1) := by decide +kernel
theorem dX1_leadTo_2 : decode cX1_leadTo 2 = .ok (.getfield 80, 3) := by decide +kernel
theorem dX1_leadTo_5 : decode cX1_leadTo 5 = .ok (.if_icmp .ge 7, 3) := by decide +kernel
theorem dX1_leadTo_8 : decode cX1_leadTo 8 = .ok (.iconst 1, 1) := by decide +kernel
theorem dX1_leadTo_9 : decode cX1_leadTo 9 = .ok (.goto 4, 3) := by decide +kernel
theorem dX1_leadTo_12 : decode cX1_leadTo 12 = .ok (.iconst 0, 1) := by decide +kernel
theorem dX1_leadTo_13 : decode cX1_leadTo 13 = .ok (.istore 8, 2) := by decide +kernel
theorem dX1_leadTo_15 : decode cX1_leadTo 15 = .ok (.iload 8, 2) := by decide +kernel
theorem dX1_leadTo_17 : decode cX1_leadTo 17 = .ok (.ifCond .eq 29, 3) := by decide +kernel
theorem dX1_leadTo_20 : decode cX1_leadTo 20 = .ok (.aload_n 0, 1) := by decide +kernel
theorem dX1_leadTo_21 : decode cX1_leadTo 21 = .ok (.getfield 18, 3) := by decide +kernel
theorem dX1_leadTo_24 : decode cX1_leadTo 24 = .ok (.iload_n 1, 1) := by decide +kernel
theorem dX1_leadTo_25 : decode cX1_leadTo 25 = .ok (.iaload, 1) := by decide +kernel
theorem dX1_leadTo_26 : decode cX1_leadTo 26 = .ok (.iconst (-1), 1) := by decide +kernel
theorem dX1_leadTo_27 : decode cX1_leadTo 27 = .ok (.if_icmp .eq 19, 3) := by decide +kernel
theorem dX1_leadTo_30 : decode cX1_leadTo 30 = .ok (.aload_n 0, 1) := by decide +kernel
theorem dX1_leadTo_31 : decode cX1_leadTo 31 = .ok (.getfield 18, 3) := by decide +kernel
theorem dX1_leadTo_34 : decode cX1_leadTo 34 = .ok (.iload_n 1, 1) := by decide +kernel
theorem dX1_leadTo_35 : decode cX1_leadTo 35 = .ok (.iaload, 1) := by decide +kernel
theorem dX1_leadTo_36 : decode cX1_leadTo 36 = .ok (.aload_n 0, 1) := by decide +kernel
theorem dX1_leadTo_37 : decode cX1_leadTo 37 = .ok (.getfield 18, 3) := by decide +kernel
theorem dX1_leadTo_40 : decode cX1_leadTo 40 = .ok (.iload_n 2, 1) := by decide +kernel
theorem dX1_leadTo_41 : decode cX1_leadTo 41 = .ok (.iaload, 1) := by decide +kernel
theorem dX1_leadTo_42 : decode cX1_leadTo 42 = .ok (.if_icmp .eq 4, 3) := by decide +kernel
theorem dX1_leadTo_45 : decode cX1_leadTo 45 = .ok (.return_, 1) := by decide +kernel
theorem dX1_leadTo_46 : decode cX1_leadTo 46 = .ok (.iload 8, 2) := by decide +kernel
theorem dX1_leadTo_48 : decode cX1_leadTo 48 = .ok (.ifCond .eq 10, 3) := by decide +kernel
theorem dX1_leadTo_51 : decode cX1_leadTo 51 = .ok (.bipush 40, 2) := by decide +kernel
theorem dX1_leadTo_53 : decode cX1_leadTo 53 = .ok (.iload_n 1, 1) := by decide +kernel
theorem dX1_leadTo_54 : decode cX1_leadTo 54 = .ok (.iadd, 1) := by decide +kernel
theorem dX1_leadTo_55 : decode cX1_leadTo 55 = .ok (.goto 9, 3) := by decide +kernel
theorem dX1_leadTo_58 : decode cX1_leadTo 58 = .ok (.aload_n 0, 1) := by decide +kernel
theorem dX1_leadTo_59 : decode cX1_leadTo 59 = .ok (.getfield 18, 3) := by decide +kernel
theorem dX1_leadTo_62 : decode cX1_leadTo 62 = .ok (.iload_n 2, 1) := by decide +kernel
theorem dX1_leadTo_63 : decode cX1_leadTo 63 = .ok (.iaload, 1) := by decide +kernel
theorem dX1_leadTo_64 : decode cX1_leadTo 64 = .ok (.istore 9, 2) := by decide +kernel
theorem dX1_leadTo_66 : decode cX1_leadTo 66 = .ok (.iconst 0, 1) := by decide +kernel
theorem dX1_leadTo_67 : decode cX1_leadTo 67 = .ok (.istore 10, 2) := by decide +kernel
theorem dX1_leadTo_69 : decode cX1_leadTo 69 = .ok (.iconst 0, 1) := by decide +kernel
theorem dX1_leadTo_70 : decode cX1_leadTo 70 = .ok (.istore 11, 2) := by decide +kernel
theorem dX1_leadTo_72 : decode cX1_leadTo 72 = .ok (.iconst 0, 1) := by decide +kernel
theorem dX1_leadTo_73 : decode cX1_leadTo 73 = .ok (.istore 12, 2) := by decide +kernel
theorem dX1_leadTo_75 : decode cX1_leadTo 75 = .ok (.iconst 1, 1) := by decide +kernel
theorem dX1_leadTo_76 : decode cX1_leadTo 76 = .ok (.istore 13, 2) := by decide +kernel
theorem dX1_leadTo_78 : decode cX1_leadTo 78 = .ok (.iload 13, 2) := by decide +kernel
theorem dX1_leadTo_80 : decode cX1_leadTo 80 = .ok (.bipush 10, 2) := by decide +kernel
theorem dX1_leadTo_82 : decode cX1_leadTo 82 = .ok (.if_icmp .gt 84, 3) := by decide +kernel
theorem dX1_leadTo_85 : decode cX1_leadTo 85 = .ok (.aload_n 0, 1) := by decide +kernel
theorem dX1_leadTo_86 : decode cX1_leadTo 86 = .ok (.getfield 21, 3) := by decide +kernel
theorem dX1_leadTo_89 : decode cX1_leadTo 89 = .ok (.iload 13, 2) := by decide +kernel
theorem dX1_leadTo_91 : decode cX1_leadTo 91 = .ok (.iaload, 1) := by decide +kernel
theorem dX1_leadTo_92 : decode cX1_leadTo 92 = .ok (.ifCond .le 68, 3) := by decide +kernel
theorem dX1_leadTo_95 : decode cX1_leadTo 95 = .ok (.aload_n 0, 1) := by decide +kernel
theorem dX1_leadTo_96 : decode cX1_leadTo 96 = .ok (.aload_n 0, 1) := by decide +kernel
theorem dX1_leadTo_97 : decode cX1_leadTo 97 = .ok (.getfield 15, 3) := by decide +kernel
theorem dX1_leadTo_100 : decode cX1_leadTo 100 = .ok (.iload_n 2, 1) := by decide +kernel
theorem dX1_leadTo_101 : decode cX1_leadTo 101 = .ok (.iaload, 1) := by decide +kernel
theorem dX1_leadTo_102 : decode cX1_leadTo 102 = .ok (.iload 13, 2) := by decide +kernel
theorem dX1_leadTo_104 : decode cX1_leadTo 104 = .ok (.invokevirtual 86, 3) := by decide +kernel
theorem dX1_leadTo_107 : decode cX1_leadTo 107 = .ok (.iload 9, 2) := by decide +kernel
theorem dX1_leadTo_109 : decode cX1_leadTo 109 = .ok (.if_icmp .ne 51, 3) := by decide +kernel
theorem dX1_leadTo_112 : decode cX1_leadTo 112 = .ok (.iinc 10 1, 3) := by decide +kernel
theorem dX1_leadTo_115 : decode cX1_leadTo 115 = .ok (.iload 11, 2) := by decide +kernel
theorem dX1_leadTo_117 : decode cX1_leadTo 117 = .ok (.aload_n 0, 1) := by decide +kernel
theorem dX1_leadTo_118 : decode cX1_leadTo 118 = .ok (.getfield 21, 3) := by decide +kernel
theorem dX1_leadTo_121 : decode cX1_leadTo 121 = .ok (.iload 13, 2) := by decide +kernel
theorem dX1_leadTo_123 : decode cX1_leadTo 123 = .ok (.iaload, 1) := by decide +kernel
theorem dX1_leadTo_124 : decode cX1_leadTo 124 = .ok (.iadd, 1) := by decide +kernel
theorem dX1_leadTo_125 : decode cX1_leadTo 125 = .ok (.istore 11, 2) := by decide +kernel
theorem dX1_leadTo_127 : decode cX1_leadTo 127 = .ok (.iload 12, 2) := by decide +kernel
theorem dX1_leadTo_129 : decode cX1_leadTo 129 = .ok (.iload_n 2, 1) := by decide +kernel
theorem dX1_leadTo_130 : decode cX1_leadTo 130 = .ok (.aload_n 0, 1) := by decide +kernel
theorem dX1_leadTo_131 : decode cX1_leadTo 131 = .ok (.getfield 49, 3) := by decide +kernel
theorem dX1_leadTo_134 : decode cX1_leadTo 134 = .ok (.if_icmp .ne 12, 3) := by decide +kernel
theorem dX1_leadTo_137 : decode cX1_leadTo 137 = .ok (.iload 13, 2) := by decide +kernel
theorem dX1_leadTo_139 : decode cX1_leadTo 139 = .ok (.aload_n 0, 1) := by decide +kernel
theorem dX1_leadTo_140 : decode cX1_leadTo 140 = .ok (.getfield 52, 3) := by decide +kernel
theorem dX1_leadTo_143 : decode cX1_leadTo 143 = .ok (.if_icmp .ne 13, 3) := by decide +kernel
theorem dX1_leadTo_146 : decode cX1_leadTo 146 = .ok (.aload_n 0, 1) := by decide +kernel
theorem dX1_leadTo_147 : decode cX1_leadTo 147 = .ok (.getfield 21, 3) := by decide +kernel
theorem dX1_leadTo_150 : decode cX1_leadTo 150 = .ok (.iload 13, 2) := by decide +kernel
theorem dX1_leadTo_152 : decode cX1_leadTo 152 = .ok (.iaload, 1) := by decide +kernel
theorem dX1_leadTo_153 : decode cX1_leadTo 153 = .ok (.goto 4, 3) := by decide +kernel
theorem dX1_leadTo_156 : decode cX1_leadTo 156 = .ok (.iconst 0, 1) := by decide +kernel
theorem dX1_leadTo_157 : decode cX1_leadTo 157 = .ok (.iadd, 1) := by decide +kernel
theorem dX1_leadTo_158 : decode cX1_leadTo 158 = .ok (.istore 12, 2) := by decide +kernel
theorem dX1_leadTo_160 : decode cX1_leadTo 160 = .ok (.iinc 13 1, 3) := by decide +kernel
theorem dX1_leadTo_163 : decode cX1_leadTo 163 = .ok (.goto (-85), 3) := by decide +kernel
theorem dX1_leadTo_166 : decode cX1_leadTo 166 = .ok (.iload 10, 2) := by decide +kernel
theorem dX1_leadTo_168 : decode cX1_leadTo 168 = .ok (.ifCond .ne 4, 3) := by decide +kernel
theorem dX1_leadTo_171 : decode cX1_leadTo 171 = .ok (.return_, 1) := by decide +kernel
theorem dX1_leadTo_172 : decode cX1_leadTo 172 = .ok (.iload 8, 2) := by decide +kernel
theorem dX1_leadTo_174 : decode cX1_leadTo 174 = .ok (.ifCond .eq 12, 3) := by decide +kernel
theorem dX1_leadTo_177 : decode cX1_leadTo 177 = .ok (.aload_n 0, 1) := by decide +kernel
theorem dX1_leadTo_178 : decode cX1_leadTo 178 = .ok (.getfield 18, 3) := by decide +kernel
theorem dX1_leadTo_181 : decode cX1_leadTo 181 = .ok (.iload_n 1, 1) := by decide +kernel
theorem dX1_leadTo_182 : decode cX1_leadTo 182 = .ok (.iaload, 1) := by decide +kernel
theorem dX1_leadTo_183 : decode cX1_leadTo 183 = .ok (.goto 4, 3) := by decide +kernel
theorem dX1_leadTo_186 : decode cX1_leadTo 186 = .ok (.iconst (-1), 1) := by decide +kernel
theorem dX1_leadTo_187 : decode cX1_leadTo 187 = .ok (.istore 13, 2) := by decide +kernel
theorem dX1_leadTo_189 : decode cX1_leadTo 189 = .ok (.iload 8, 2) := by decide +kernel
theorem dX1_leadTo_191 : decode cX1_leadTo 191 = .ok (.ifCond .eq 15, 3) := by decide +kernel
theorem dX1_leadTo_194 : decode cX1_leadTo 194 = .ok (.aload_n 0, 1) := by decide +kernel
theorem dX1_leadTo_195 : decode cX1_leadTo 195 = .ok (.getfield 18, 3) := by decide +kernel
theorem dX1_leadTo_198 : decode cX1_leadTo 198 = .ok (.iload_n 1, 1) := by decide +kernel
theorem dX1_leadTo_199 : decode cX1_leadTo 199 = .ok (.aload_n 0, 1) := by decide +kernel
theorem dX1_leadTo_200 : decode cX1_leadTo 200 = .ok (.getfield 18, 3) := by decide +kernel
theorem dX1_leadTo_203 : decode cX1_leadTo 203 = .ok (.iload_n 2, 1) := by decide +kernel
theorem dX1_leadTo_204 : decode cX1_leadTo 204 = .ok (.iaload, 1) := by decide +kernel
theorem dX1_leadTo_205 : decode cX1_leadTo 205 = .ok (.iastore, 1) := by decide +kernel
theorem dX1_leadTo_206 : decode cX1_leadTo 206 = .ok (.aload_n 0, 1) := by decide +kernel
theorem dX1_leadTo_207 : decode cX1_leadTo 207 = .ok (.iload_n 2, 1) := by decide +kernel
theorem dX1_leadTo_208 : decode cX1_leadTo 208 = .ok (.iconst 1, 1) := by decide +kernel
theorem dX1_leadTo_209 : decode cX1_leadTo 209 = .ok (.iadd, 1) := by decide +kernel
theorem dX1_leadTo_210 : decode cX1_leadTo 210 = .ok (.iload_n 3, 1) := by decide +kernel
theorem dX1_leadTo_211 : decode cX1_leadTo 211 = .ok (.iload 10, 2) := by decide +kernel
theorem dX1_leadTo_213 : decode cX1_leadTo 213 = .ok (.imul, 1) := by decide +kernel
theorem dX1_leadTo_214 : decode cX1_leadTo 214 = .ok (.lload 4, 2) := by decide +kernel
theorem dX1_leadTo_216 : decode cX1_leadTo 216 = .ok (.iload 11, 2) := by decide +kernel
theorem dX1_leadTo_218 : decode cX1_leadTo 218 = .ok (.i2l, 1) := by decide +kernel
theorem dX1_leadTo_219 : decode cX1_leadTo 219 = .ok (.lmul, 1) := by decide +kernel
theorem dX1_leadTo_220 : decode cX1_leadTo 220 = .ok (.lload 6, 2) := by decide +kernel
theorem dX1_leadTo_222 : decode cX1_leadTo 222 = .ok (.iload 12, 2) := by decide +kernel
theorem dX1_leadTo_224 : decode cX1_leadTo 224 = .ok (.i2l, 1) := by decide +kernel
theorem dX1_leadTo_225 : decode cX1_leadTo 225 = .ok (.lmul, 1) := by decide +kernel
theorem dX1_leadTo_226 : decode cX1_leadTo 226 = .ok (.invokevirtual 76, 3) := by decide +kernel
theorem dX1_leadTo_229 : decode cX1_leadTo 229 = .ok (.iload 8, 2) := by decide +kernel
theorem dX1_leadTo_231 : decode cX1_leadTo 231 = .ok (.ifCond .eq 11, 3) := by decide +kernel
theorem dX1_leadTo_234 : decode cX1_leadTo 234 = .ok (.aload_n 0, 1) := by decide +kernel
theorem dX1_leadTo_235 : decode cX1_leadTo 235 = .ok (.getfield 18, 3) := by decide +kernel
theorem dX1_leadTo_238 : decode cX1_leadTo 238 = .ok (.iload_n 1, 1) := by decide +kernel
theorem dX1_leadTo_239 : decode cX1_leadTo 239 = .ok (.iload 13, 2) := by decide +kernel
theorem dX1_leadTo_241 : decode cX1_leadTo 241 = .ok (.iastore, 1) := by decide +kernel
theorem dX1_leadTo_242 : decode cX1_leadTo 242 = .ok (.return_, 1) := by decide +kernel
theorem dX2_init_0 : decode cX2_init 0 = .ok (.aload_n 0, 1) := by decide +kernel
theorem dX2_init_1 : decode cX2_init 1 = .ok (.invokespecial 3, 3) := by decide +kernel
theorem dX2_init_4 : decode cX2_init 4 = .ok (.aload_n 0, 1) := by decide +kernel
theorem dX2_init_5 : decode cX2_init 5 = .ok (.bipush 40, 2) := by decide +kernel
theorem dX2_init_7 : decode cX2_init 7 = .ok (.newarray .int, 2) := by decide +kernel
theorem dX2_init_9 : decode cX2_init 9 = .ok (.putfield 9, 3) := by decide +kernel
theorem dX2_init_12 : decode cX2_init 12 = .ok (.aload_n 0, 1) := by decide +kernel
theorem dX2_init_13 : decode cX2_init 13 = .ok (.bipush 40, 2) := by decide +kernel
theorem dX2_init_15 : decode cX2_init 15 = .ok (.newarray .int, 2) := by decide +kernel
theorem dX2_init_17 : decode cX2_init 17 = .ok (.putfield 15, 3) := by decide +kernel
theorem dX2_init_20 : decode cX2_init 20 = .ok (.aload_n 0, 1) := by decide +kernel
theorem dX2_init_21 : decode cX2_init 21 = .ok (.bipush 40, 2) := by decide +kernel
theorem dX2_init_23 : decode cX2_init 23 = .ok (.newarray .int, 2) := by decide +kernel
theorem dX2_init_25 : decode cX2_init 25 = .ok (.putfield 18, 3) := by decide +kernel
theorem dX2_init_28 : decode cX2_init 28 = .ok (.aload_n 0, 1) := by decide +kernel
theorem dX2_init_29 : decode cX2_init 29 = .ok (.bipush 40, 2) := by decide +kernel
theorem dX2_init_31 : decode cX2_init 31 = .ok (.newarray .int, 2) := by decide +kernel
theorem dX2_init_33 : decode cX2_init 33 = .ok (.putfield 21, 3) := by decide +kernel
theorem dX2_init_36 : decode cX2_init 36 = .ok (.aload_n 0, 1) := by decide +kernel
theorem dX2_init_37 : decode cX2_init 37 = .ok (.bipush 40, 2) := by decide +kernel
theorem dX2_init_39 : decode cX2_init 39 = .ok (.newarray .int, 2) := by decide +kernel
theorem dX2_init_41 : decode cX2_init 41 = .ok (.putfield 24, 3) := by decide +kernel
theorem dX2_init_44 : decode cX2_init 44 = .ok (.return_, 1) := by decide +kernel
theorem dX2_read_0 : decode cX2_read 0 = .ok (.aload_n 0, 1) := by decide +kernel
theorem dX2_read_1 : decode cX2_read 1 = .ok (.aload_n 2, 1) := by decide +kernel
theorem dX2_read_2 : decode cX2_read 2 = .ok (.getfield 27, 3) := by decide +kernel
theorem dX2_read_5 : decode cX2_read 5 = .ok (.putfield 33, 3) := by decide +kernel
theorem dX2_read_8 : decode cX2_read 8 = .ok (.aload_n 0, 1) := by decide +kernel
theorem dX2_read_9 : decode cX2_read 9 = .ok (.aload_n 2, 1) := by decide +kernel
theorem dX2_read_10 : decode cX2_read 10 = .ok (.getfield 34, 3) := by decide +kernel
theorem dX2_read_13 : decode cX2_read 13 = .ok (.putfield 37, 3) := by decide +kernel
theorem dX2_read_16 : decode cX2_read 16 = .ok (.iconst 0, 1) := by decide +kernel
theorem dX2_read_17 : decode cX2_read 17 = .ok (.istore 4, 2) := by decide +kernel
theorem dX2_read_19 : decode cX2_read 19 = .ok (.iload 4, 2) := by decide +kernel
theorem dX2_read_21 : decode cX2_read 21 = .ok (.aload_n 0, 1) := by decide +kernel
theorem dX2_read_22 : decode cX2_read 22 = .ok (.getfield 33, 3) := by decide +kernel
theorem dX2_read_25 : decode cX2_read 25 = .ok (.if_icmp .ge 24, 3) := by decide +kernel
theorem dX2_read_28 : decode cX2_read 28 = .ok (.aload_n 0, 1) := by decide +kernel
theorem dX2_read_29 : decode cX2_read 29 = .ok (.getfield 9, 3) := by decide +kernel
theorem dX2_read_32 : decode cX2_read 32 = .ok (.iload 4, 2) := by decide +kernel
theorem dX2_read_34 : decode cX2_read 34 = .ok (.aload_n 1, 1) := by decide +kernel
theorem dX2_read_35 : decode cX2_read 35 = .ok (.iload 4, 2) := by decide +kernel
theorem dX2_read_37 : decode cX2_read 37 = .ok (.caload, 1) := by decide +kernel
theorem dX2_read_38 : decode cX2_read 38 = .ok (.iload_n 3, 1) := by decide +kernel
theorem dX2_read_39 : decode cX2_read 39 = .ok (.invokestatic 38, 3) := by decide +kernel
theorem dX2_read_42 : decode cX2_read 42 = .ok (.iastore, 1) := by decide +kernel
theorem dX2_read_43 : decode cX2_read 43 = .ok (.iinc 4 1, 3) := by decide +kernel
theorem dX2_read_46 : decode cX2_read 46 = .ok (.goto (-27), 3) := by decide +kernel
theorem dX2_read_49 : decode cX2_read 49 = .ok (.return_, 1) := by decide +kernel
theorem dX2_follow_0 : decode cX2_follow 0 = .ok (.aload_n 0, 1) := by decide +kernel
theorem dX2_follow_1 : decode cX2_follow 1 = .ok (.aload_n 1, 1) := by decide +kernel
theorem dX2_follow_2 : decode cX2_follow 2 = .ok (.aload_n 2, 1) := by decide +kernel
theorem dX2_follow_3 : decode cX2_follow 3 = .ok (.iload_n 3, 1) := by decide +kernel
theorem dX2_follow_4 : decode cX2_follow 4 = .ok (.invokevirtual 42, 3) := by decide +kernel
theorem dX2_follow_7 : decode cX2_follow 7 = .ok (.aload_n 0, 1) := by decide +kernel
theorem dX2_follow_8 : decode cX2_follow 8 = .ok (.getfield 33, 3) := by decide +kernel
theorem dX2_follow_11 : decode cX2_follow 11 = .ok (.iconst 1, 1) := by decide +kernel
theorem dX2_follow_12 : decode cX2_follow 12 = .ok (.isub, 1) := by decide +kernel
theorem dX2_follow_13 : decode cX2_follow 13 = .ok (.istore 4, 2) := by decide +kernel
theorem dX2_follow_15 : decode cX2_follow 15 = .ok (.iload 4, 2) := by decide +kernel
theorem dX2_follow_17 : decode cX2_follow 17 = .ok (.ifCond .lt 66, 3) := by decide +kernel
theorem dX2_follow_20 : decode cX2_follow 20 = .ok (.aload_n 0, 1) := by decide +kernel
theorem dX2_follow_21 : decode cX2_follow 21 = .ok (.getfield 15, 3) := by decide +kernel
theorem dX2_follow_24 : decode cX2_follow 24 = .ok (.iload 4, 2) := by decide +kernel
theorem dX2_follow_26 : decode cX2_follow 26 = .ok (.aload_n 0, 1) := by decide +kernel
theorem dX2_follow_27 : decode cX2_follow 27 = .ok (.iload 4, 2) := by decide +kernel
theorem dX2_follow_29 : decode cX2_follow 29 = .ok (.aload_n 0, 1) := by decide +kernel
theorem dX2_follow_30 : decode cX2_follow 30 = .ok (.getfield 9, 3) := by decide +kernel
theorem dX2_follow_33 : decode cX2_follow 33 = .ok (.iload 4, 2) := by decide +kernel
theorem dX2_follow_35 : decode cX2_follow 35 = .ok (.iaload, 1) := by decide +kernel
theorem dX2_follow_36 : decode cX2_follow 36 = .ok (.invokevirtual 46, 3) := by decide +kernel
theorem dX2_follow_39 : decode cX2_follow 39 = .ok (.iastore, 1) := by decide +kernel
theorem dX2_follow_40 : decode cX2_follow 40 = .ok (.aload_n 0, 1) := by decide +kernel
theorem dX2_follow_41 : decode cX2_follow 41 = .ok (.getfield 18, 3) := by decide +kernel
theorem dX2_follow_44 : decode cX2_follow 44 = .ok (.iload 4, 2) := by decide +kernel
theorem dX2_follow_46 : decode cX2_follow 46 = .ok (.iload 4, 2) := by decide +kernel
theorem dX2_follow_48 : decode cX2_follow 48 = .ok (.aload_n 0, 1) := by decide +kernel
theorem dX2_follow_49 : decode cX2_follow 49 = .ok (.getfield 37, 3) := by decide +kernel
theorem dX2_follow_52 : decode cX2_follow 52 = .ok (.if_icmp .ge 7, 3) := by decide +kernel
theorem dX2_follow_55 : decode cX2_follow 55 = .ok (.iconst 1, 1) := by decide +kernel
theorem dX2_follow_56 : decode cX2_follow 56 = .ok (.goto 4, 3) := by decide +kernel
theorem dX2_follow_59 : decode cX2_follow 59 = .ok (.iconst 0, 1) := by decide +kernel
theorem dX2_follow_60 : decode cX2_follow 60 = .ok (.iastore, 1) := by decide +kernel
theorem dX2_follow_61 : decode cX2_follow 61 = .ok (.aload_n 0, 1) := by decide +kernel
theorem dX2_follow_62 : decode cX2_follow 62 = .ok (.getfield 21, 3) := by decide +kernel
theorem dX2_follow_65 : decode cX2_follow 65 = .ok (.iload 4, 2) := by decide +kernel
theorem dX2_follow_67 : decode cX2_follow 67 = .ok (.iconst 0, 1) := by decide +kernel
theorem dX2_follow_68 : decode cX2_follow 68 = .ok (.iastore, 1) := by decide +kernel
theorem dX2_follow_69 : decode cX2_follow 69 = .ok (.aload_n 0, 1) := by decide +kernel
theorem dX2_follow_70 : decode cX2_follow 70 = .ok (.getfield 24, 3) := by decide +kernel
theorem dX2_follow_73 : decode cX2_follow 73 = .ok (.iload 4, 2) := by decide +kernel
theorem dX2_follow_75 : decode cX2_follow 75 = .ok (.iconst 0, 1) := by decide +kernel
theorem dX2_follow_76 : decode cX2_follow 76 = .ok (.iastore, 1) := by decide +kernel
theorem dX2_follow_77 : decode cX2_follow 77 = .ok (.iinc 4 (-1), 3) := by decide +kernel
theorem dX2_follow_80 : decode cX2_follow 80 = .ok (.goto (-65), 3) := by decide +kernel
theorem dX2_follow_83 : decode cX2_follow 83 = .ok (.iconst 0, 1) := by decide +kernel
theorem dX2_follow_84 : decode cX2_follow 84 = .ok (.istore 4, 2) := by decide +kernel
theorem dX2_follow_86 : decode cX2_follow 86 = .ok (.iload 4, 2) := by decide +kernel
theorem dX2_follow_88 : decode cX2_follow 88 = .ok (.aload_n 0, 1) := by decide +kernel
theorem dX2_follow_89 : decode cX2_follow 89 = .ok (.getfield 33, 3) := by decide +kernel
theorem dX2_follow_92 : decode cX2_follow 92 = .ok (.if_icmp .ge 84, 3) := by decide +kernel
theorem dX2_follow_95 : decode cX2_follow 95 = .ok (.iload 4, 2) := by decide +kernel
theorem dX2_follow_97 : decode cX2_follow 97 = .ok (.aload_n 0, 1) := by decide +kernel
theorem dX2_follow_98 : decode cX2_follow 98 = .ok (.getfield 9, 3) := by decide +kernel
theorem dX2_follow_101 : decode cX2_follow 101 = .ok (.iload 4, 2) := by decide +kernel
theorem dX2_follow_103 : decode cX2_follow 103 = .ok (.iaload, 1) := by decide +kernel
theorem dX2_follow_104 : decode cX2_follow 104 = .ok (.iadd, 1) := by decide +kernel
theorem dX2_follow_105 : decode cX2_follow 105 = .ok (.istore 5, 2) := by decide +kernel
theorem dX2_follow_107 : decode cX2_follow 107 = .ok (.iload 5, 2) := by decide +kernel
theorem dX2_follow_109 : decode cX2_follow 109 = .ok (.aload_n 0, 1) := by decide +kernel
theorem dX2_follow_110 : decode cX2_follow 110 = .ok (.getfield 33, 3) := by decide +kernel
theorem dX2_follow_113 : decode cX2_follow 113 = .ok (.if_icmp .ge 57, 3) := by decide +kernel
theorem dX2_follow_116 : decode cX2_follow 116 = .ok (.aload_n 0, 1) := by decide +kernel
theorem dX2_follow_117 : decode cX2_follow 117 = .ok (.getfield 18, 3) := by decide +kernel
theorem dX2_follow_120 : decode cX2_follow 120 = .ok (.iload 5, 2) := by decide +kernel
theorem dX2_follow_122 : decode cX2_follow 122 = .ok (.dup2, 1) := by decide +kernel
theorem dX2_follow_123 : decode cX2_follow 123 = .ok (.iaload, 1) := by decide +kernel
theorem dX2_follow_124 : decode cX2_follow 124 = .ok (.aload_n 0, 1) := by decide +kernel
theorem dX2_follow_125 : decode cX2_follow 125 = .ok (.getfield 18, 3) := by decide +kernel
theorem dX2_follow_128 : decode cX2_follow 128 = .ok (.iload 4, 2) := by decide +kernel
theorem dX2_follow_130 : decode cX2_follow 130 = .ok (.iaload, 1) := by decide +kernel
theorem dX2_follow_131 : decode cX2_follow 131 = .ok (.iadd, 1) := by decide +kernel
theorem dX2_follow_132 : decode cX2_follow 132 = .ok (.iastore, 1) := by decide +kernel
theorem dX2_follow_133 : decode cX2_follow 133 = .ok (.aload_n 0, 1) := by decide +kernel
theorem dX2_follow_134 : decode cX2_follow 134 = .ok (.getfield 21, 3) := by decide +kernel
theorem dX2_follow_137 : decode cX2_follow 137 = .ok (.iload 5, 2) := by decide +kernel
theorem dX2_follow_139 : decode cX2_follow 139 = .ok (.dup2, 1) := by decide +kernel
theorem dX2_follow_140 : decode cX2_follow 140 = .ok (.iaload, 1) := by decide +kernel
theorem dX2_follow_141 : decode cX2_follow 141 = .ok (.iconst 1, 1) := by decide +kernel
theorem dX2_follow_142 : decode cX2_follow 142 = .ok (.iadd, 1) := by decide +kernel
theorem dX2_follow_143 : decode cX2_follow 143 = .ok (.iastore, 1) := by decide +kernel
theorem dX2_follow_144 : decode cX2_follow 144 = .ok (.aload_n 0, 1) := by decide +kernel
theorem dX2_follow_145 : decode cX2_follow 145 = .ok (.getfield 24, 3) := by decide +kernel
theorem dX2_follow_148 : decode cX2_follow 148 = .ok (.iload 5, 2) := by decide +kernel
theorem dX2_follow_150 : decode cX2_follow 150 = .ok (.aload_n 0, 1) := by decide +kernel
theorem dX2_follow_151 : decode cX2_follow 151 = .ok (.getfield 24, 3) := by decide +kernel
theorem dX2_follow_154 : decode cX2_follow 154 = .ok (.iload 5, 2) := by decide +kernel
theorem dX2_follow_156 : decode cX2_follow 156 = .ok (.iaload, 1) := by decide +kernel
theorem dX2_follow_157 : decode cX2_follow 157 = .ok (.aload_n 0, 1) := by decide +kernel
theorem dX2_follow_158 : decode cX2_follow 158 = .ok (.getfield 24, 3) := by decide +kernel
theorem dX2_follow_161 : decode cX2_follow 161 = .ok (.iload 4, 2) := by decide +kernel
theorem dX2_follow_163 : decode cX2_follow 163 = .ok (.iaload, 1) := by decide +kernel
theorem dX2_follow_164 : decode cX2_follow 164 = .ok (.iconst 1, 1) := by decide +kernel
theorem dX2_follow_165 : decode cX2_follow 165 = .ok (.iadd, 1) := by decide +kernel
theorem dX2_follow_166 : decode cX2_follow 166 = .ok (.invokestatic 50, 3) := by decide +kernel
theorem dX2_follow_169 : decode cX2_follow 169 = .ok (.iastore, 1) := by decide +kernel
theorem dX2_follow_170 : decode cX2_follow 170 = .ok (.iinc 4 1, 3) := by decide +kernel
theorem dX2_follow_173 : decode cX2_follow 173 = .ok (.goto (-87), 3) := by decide +kernel
theorem dX2_follow_176 : decode cX2_follow 176 = .ok (.return_, 1) := by decide +kernel
theorem dX2_endBy_0 : decode cX2_endBy 0 = .ok (.iload_n 1, 1) := by decide +kernel
theorem dX2_endBy_1 : decode cX2_endBy 1 = .ok (.iload_n 2, 1) := by decide +kernel
theorem dX2_endBy_2 : decode cX2_endBy 2 = .ok (.iadd, 1) := by decide +kernel
theorem dX2_endBy_3 : decode cX2_endBy 3 = .ok (.istore_n 3, 1) := by decide +kernel
theorem dX2_endBy_4 : decode cX2_endBy 4 = .ok (.iload_n 3, 1) := by decide +kernel
theorem dX2_endBy_5 : decode cX2_endBy 5 = .ok (.aload_n 0, 1) := by decide +kernel
theorem dX2_endBy_6 : decode cX2_endBy 6 = .ok (.getfield 33, 3) := by decide +kernel
theorem dX2_endBy_9 : decode cX2_endBy 9 = .ok (.if_icmp .ge 12, 3) := by decide +kernel
theorem dX2_endBy_12 : decode cX2_endBy 12 = .ok (.aload_n 0, 1) := by decide +kernel
theorem dX2_endBy_13 : decode cX2_endBy 13 = .ok (.getfield 15, 3) := by decide +kernel
theorem dX2_endBy_16 : decode cX2_endBy 16 = .ok (.iload_n 3, 1) := by decide +kernel
theorem dX2_endBy_17 : decode cX2_endBy 17 = .ok (.iaload, 1) := by decide +kernel
theorem dX2_endBy_18 : decode cX2_endBy 18 = .ok (.goto 4, 3) := by decide +kernel
theorem dX2_endBy_21 : decode cX2_endBy 21 = .ok (.iload_n 1, 1) := by decide +kernel
theorem dX2_endBy_22 : decode cX2_endBy 22 = .ok (.ireturn, 1) := by decide +kernel
theorem dX2_streamOf_0 : decode cX2_streamOf 0 = .ok (.lconst 1, 1) := by decide +kernel
theorem dX2_streamOf_1 : decode cX2_streamOf 1 = .ok (.iload_n 1, 1) := by decide +kernel
theorem dX2_streamOf_2 : decode cX2_streamOf 2 = .ok (.lshl, 1) := by decide +kernel
theorem dX2_streamOf_3 : decode cX2_streamOf 3 = .ok (.lstore_n 2, 1) := by decide +kernel
theorem dX2_streamOf_4 : decode cX2_streamOf 4 = .ok (.iload_n 1, 1) := by decide +kernel
theorem dX2_streamOf_5 : decode cX2_streamOf 5 = .ok (.istore 4, 2) := by decide +kernel
theorem dX2_streamOf_7 : decode cX2_streamOf 7 = .ok (.iload 4, 2) := by decide +kernel
theorem dX2_streamOf_9 : decode cX2_streamOf 9 = .ok (.aload_n 0, 1) := by decide +kernel
theorem dX2_streamOf_10 : decode cX2_streamOf 10 = .ok (.getfield 33, 3) := by decide +kernel
theorem dX2_streamOf_13 : decode cX2_streamOf 13 = .ok (.if_icmp .ge 48, 3) := by decide +kernel
theorem dX2_streamOf_16 : decode cX2_streamOf 16 = .ok (.iload 4, 2) := by decide +kernel
theorem dX2_streamOf_18 : decode cX2_streamOf 18 = .ok (.aload_n 0, 1) := by decide +kernel
theorem dX2_streamOf_19 : decode cX2_streamOf 19 = .ok (.getfield 9, 3) := by decide +kernel
theorem dX2_streamOf_22 : decode cX2_streamOf 22 = .ok (.iload 4, 2) := by decide +kernel
theorem dX2_streamOf_24 : decode cX2_streamOf 24 = .ok (.iaload, 1) := by decide +kernel
theorem dX2_streamOf_25 : decode cX2_streamOf 25 = .ok (.iadd, 1) := by decide +kernel
theorem dX2_streamOf_26 : decode cX2_streamOf 26 = .ok (.istore 5, 2) := by decide +kernel
theorem dX2_streamOf_28 : decode cX2_streamOf 28 = .ok (.lload_n 2, 1) := by decide +kernel
theorem dX2_streamOf_29 : decode cX2_streamOf 29 = .ok (.iload 4, 2) := by decide +kernel
theorem dX2_streamOf_31 : decode cX2_streamOf 31 = .ok (.lushr, 1) := by decide +kernel
theorem dX2_streamOf_32 : decode cX2_streamOf 32 = .ok (.lconst 1, 1) := by decide +kernel
theorem dX2_streamOf_33 : decode cX2_streamOf 33 = .ok (.land, 1) := by decide +kernel
theorem dX2_streamOf_34 : decode cX2_streamOf 34 = .ok (.lconst 0, 1) := by decide +kernel
theorem dX2_streamOf_35 : decode cX2_streamOf 35 = .ok (.lcmp, 1) := by decide +kernel
theorem dX2_streamOf_36 : decode cX2_streamOf 36 = .ok (.ifCond .eq 19, 3) := by decide +kernel
theorem dX2_streamOf_39 : decode cX2_streamOf 39 = .ok (.iload 5, 2) := by decide +kernel
theorem dX2_streamOf_41 : decode cX2_streamOf 41 = .ok (.aload_n 0, 1) := by decide +kernel
theorem dX2_streamOf_42 : decode cX2_streamOf 42 = .ok (.getfield 33, 3) := by decide +kernel
theorem dX2_streamOf_45 : decode cX2_streamOf 45 = .ok (.if_icmp .ge 10, 3) := by decide +kernel
theorem dX2_streamOf_48 : decode cX2_streamOf 48 = .ok (.lload_n 2, 1) := by decide +kernel
theorem dX2_streamOf_49 : decode cX2_streamOf 49 = .ok (.lconst 1, 1) := by decide +kernel
theorem dX2_streamOf_50 : decode cX2_streamOf 50 = .ok (.iload 5, 2) := by decide +kernel
theorem dX2_streamOf_52 : decode cX2_streamOf 52 = .ok (.lshl, 1) := by decide +kernel
theorem dX2_streamOf_53 : decode cX2_streamOf 53 = .ok (.lor, 1) := by decide +kernel
theorem dX2_streamOf_54 : decode cX2_streamOf 54 = .ok (.lstore_n 2, 1) := by decide +kernel
theorem dX2_streamOf_55 : decode cX2_streamOf 55 = .ok (.iinc 4 1, 3) := by decide +kernel
theorem dX2_streamOf_58 : decode cX2_streamOf 58 = .ok (.goto (-51), 3) := by decide +kernel
theorem dX2_streamOf_61 : decode cX2_streamOf 61 = .ok (.lload_n 2, 1) := by decide +kernel
theorem dX2_streamOf_62 : decode cX2_streamOf 62 = .ok (.lreturn, 1) := by decide +kernel
theorem dX2_passedByAll_0 : decode cX2_passedByAll 0 = .ok (.ldc2_w 55, 3) := by decide +kernel
theorem dX2_passedByAll_3 : decode cX2_passedByAll 3 = .ok (.lstore_n 1, 1) := by decide +kernel
theorem dX2_passedByAll_4 : decode cX2_passedByAll 4 = .ok (.iconst 0, 1) := by decide +kernel
theorem dX2_passedByAll_5 : decode cX2_passedByAll 5 = .ok (.istore_n 3, 1) := by decide +kernel
theorem dX2_passedByAll_6 : decode cX2_passedByAll 6 = .ok (.iload_n 3, 1) := by decide +kernel
theorem dX2_passedByAll_7 : decode cX2_passedByAll 7 = .ok (.aload_n 0, 1) := by decide +kernel
theorem dX2_passedByAll_8 : decode cX2_passedByAll 8 = .ok (.getfield 37, 3) := by decide +kernel
theorem dX2_passedByAll_11 : decode cX2_passedByAll 11 = .ok (.if_icmp .ge 17, 3) := by decide +kernel
theorem dX2_passedByAll_14 : decode cX2_passedByAll 14 = .ok (.lload_n 1, 1) := by decide +kernel
theorem dX2_passedByAll_15 : decode cX2_passedByAll 15 = .ok (.aload_n 0, 1) := by decide +kernel
theorem dX2_passedByAll_16 : decode cX2_passedByAll 16 = .ok (.iload_n 3, 1) := by decide +kernel
theorem dX2_passedByAll_17 : decode cX2_passedByAll 17 = .ok (.invokevirtual 57, 3) := by decide +kernel
theorem dX2_passedByAll_20 : decode cX2_passedByAll 20 = .ok (.land, 1) := by decide +kernel
theorem dX2_passedByAll_21 : decode cX2_passedByAll 21 = .ok (.lstore_n 1, 1) := by decide +kernel
theorem dX2_passedByAll_22 : decode cX2_passedByAll 22 = .ok (.iinc 3 1, 3) := by decide +kernel
theorem dX2_passedByAll_25 : decode cX2_passedByAll 25 = .ok (.goto (-19), 3) := by decide +kernel
theorem dX2_passedByAll_28 : decode cX2_passedByAll 28 = .ok (.lload_n 1, 1) := by decide +kernel
theorem dX2_passedByAll_29 : decode cX2_passedByAll 29 = .ok (.lreturn, 1) := by decide +kernel
theorem dX2_manyEnds_0 : decode cX2_manyEnds 0 = .ok (.lconst 0, 1) := by decide +kernel
theorem dX2_manyEnds_1 : decode cX2_manyEnds 1 = .ok (.lstore_n 1, 1) := by decide +kernel
theorem dX2_manyEnds_2 : decode cX2_manyEnds 2 = .ok (.iconst 0, 1) := by decide +kernel
theorem dX2_manyEnds_3 : decode cX2_manyEnds 3 = .ok (.istore_n 3, 1) := by decide +kernel
theorem dX2_manyEnds_4 : decode cX2_manyEnds 4 = .ok (.iload_n 3, 1) := by decide +kernel
theorem dX2_manyEnds_5 : decode cX2_manyEnds 5 = .ok (.aload_n 0, 1) := by decide +kernel
theorem dX2_manyEnds_6 : decode cX2_manyEnds 6 = .ok (.getfield 37, 3) := by decide +kernel
theorem dX2_manyEnds_9 : decode cX2_manyEnds 9 = .ok (.if_icmp .ge 20, 3) := by decide +kernel
theorem dX2_manyEnds_12 : decode cX2_manyEnds 12 = .ok (.lload_n 1, 1) := by decide +kernel
theorem dX2_manyEnds_13 : decode cX2_manyEnds 13 = .ok (.lconst 1, 1) := by decide +kernel
theorem dX2_manyEnds_14 : decode cX2_manyEnds 14 = .ok (.aload_n 0, 1) := by decide +kernel
theorem dX2_manyEnds_15 : decode cX2_manyEnds 15 = .ok (.getfield 15, 3) := by decide +kernel
theorem dX2_manyEnds_18 : decode cX2_manyEnds 18 = .ok (.iload_n 3, 1) := by decide +kernel
theorem dX2_manyEnds_19 : decode cX2_manyEnds 19 = .ok (.iaload, 1) := by decide +kernel
theorem dX2_manyEnds_20 : decode cX2_manyEnds 20 = .ok (.lshl, 1) := by decide +kernel
theorem dX2_manyEnds_21 : decode cX2_manyEnds 21 = .ok (.lor, 1) := by decide +kernel
theorem dX2_manyEnds_22 : decode cX2_manyEnds 22 = .ok (.lstore_n 1, 1) := by decide +kernel
theorem dX2_manyEnds_23 : decode cX2_manyEnds 23 = .ok (.iinc 3 1, 3) := by decide +kernel
theorem dX2_manyEnds_26 : decode cX2_manyEnds 26 = .ok (.goto (-22), 3) := by decide +kernel
theorem dX2_manyEnds_29 : decode cX2_manyEnds 29 = .ok (.lload_n 1, 1) := by decide +kernel
theorem dX2_manyEnds_30 : decode cX2_manyEnds 30 = .ok (.invokestatic 61, 3) := by decide +kernel
theorem dX2_manyEnds_33 : decode cX2_manyEnds 33 = .ok (.ireturn, 1) := by decide +kernel
theorem dX2_mostAtOneEnd_0 : decode cX2_mostAtOneEnd 0 = .ok (.iconst 0, 1) := by decide +kernel
theorem dX2_mostAtOneEnd_1 : decode cX2_mostAtOneEnd 1 = .ok (.istore_n 1, 1) := by decide +kernel
theorem dX2_mostAtOneEnd_2 : decode cX2_mostAtOneEnd 2 = .ok (.iconst 0, 1) := by decide +kernel
theorem dX2_mostAtOneEnd_3 : decode cX2_mostAtOneEnd 3 = .ok (.istore_n 2, 1) := by decide +kernel
theorem dX2_mostAtOneEnd_4 : decode cX2_mostAtOneEnd 4 = .ok (.iload_n 2, 1) := by decide +kernel
theorem dX2_mostAtOneEnd_5 : decode cX2_mostAtOneEnd 5 = .ok (.aload_n 0, 1) := by decide +kernel
theorem dX2_mostAtOneEnd_6 : decode cX2_mostAtOneEnd 6 = .ok (.getfield 33, 3) := by decide +kernel
theorem dX2_mostAtOneEnd_9 : decode cX2_mostAtOneEnd 9 = .ok (.if_icmp .ge 30, 3) := by decide +kernel
theorem dX2_mostAtOneEnd_12 : decode cX2_mostAtOneEnd 12 = .ok (.aload_n 0, 1) := by decide +kernel
theorem dX2_mostAtOneEnd_13 : decode cX2_mostAtOneEnd 13 = .ok (.getfield 15, 3) := by decide +kernel
theorem dX2_mostAtOneEnd_16 : decode cX2_mostAtOneEnd 16 = .ok (.iload_n 2, 1) := by decide +kernel
theorem dX2_mostAtOneEnd_17 : decode cX2_mostAtOneEnd 17 = .ok (.iaload, 1) := by decide +kernel
theorem dX2_mostAtOneEnd_18 : decode cX2_mostAtOneEnd 18 = .ok (.iload_n 2, 1) := by decide +kernel
theorem dX2_mostAtOneEnd_19 : decode cX2_mostAtOneEnd 19 = .ok (.if_icmp .ne 14, 3) := by decide +kernel
theorem dX2_mostAtOneEnd_22 : decode cX2_mostAtOneEnd 22 = .ok (.iload_n 1, 1) := by decide +kernel
theorem dX2_mostAtOneEnd_23 : decode cX2_mostAtOneEnd 23 = .ok (.aload_n 0, 1) := by decide +kernel
theorem dX2_mostAtOneEnd_24 : decode cX2_mostAtOneEnd 24 = .ok (.getfield 18, 3) := by decide +kernel
theorem dX2_mostAtOneEnd_27 : decode cX2_mostAtOneEnd 27 = .ok (.iload_n 2, 1) := by decide +kernel
theorem dX2_mostAtOneEnd_28 : decode cX2_mostAtOneEnd 28 = .ok (.iaload, 1) := by decide +kernel
theorem dX2_mostAtOneEnd_29 : decode cX2_mostAtOneEnd 29 = .ok (.invokestatic 50, 3) := by decide +kernel
theorem dX2_mostAtOneEnd_32 : decode cX2_mostAtOneEnd 32 = .ok (.istore_n 1, 1) := by decide +kernel
theorem dX2_mostAtOneEnd_33 : decode cX2_mostAtOneEnd 33 = .ok (.iinc 2 1, 3) := by decide +kernel
theorem dX2_mostAtOneEnd_36 : decode cX2_mostAtOneEnd 36 = .ok (.goto (-32), 3) := by decide +kernel
theorem dX2_mostAtOneEnd_39 : decode cX2_mostAtOneEnd 39 = .ok (.iload_n 1, 1) := by decide +kernel
theorem dX2_mostAtOneEnd_40 : decode cX2_mostAtOneEnd 40 = .ok (.ireturn, 1) := by decide +kernel
theorem dX2_mindsBy_0 : decode cX2_mindsBy 0 = .ok (.aload_n 0, 1) := by decide +kernel
theorem dX2_mindsBy_1 : decode cX2_mindsBy 1 = .ok (.iload_n 1, 1) := by decide +kernel
theorem dX2_mindsBy_2 : decode cX2_mindsBy 2 = .ok (.iload_n 2, 1) := by decide +kernel
theorem dX2_mindsBy_3 : decode cX2_mindsBy 3 = .ok (.invokevirtual 46, 3) := by decide +kernel
theorem dX2_mindsBy_6 : decode cX2_mindsBy 6 = .ok (.aload_n 0, 1) := by decide +kernel
theorem dX2_mindsBy_7 : decode cX2_mindsBy 7 = .ok (.getfield 15, 3) := by decide +kernel
theorem dX2_mindsBy_10 : decode cX2_mindsBy 10 = .ok (.iload_n 1, 1) := by decide +kernel
theorem dX2_mindsBy_11 : decode cX2_mindsBy 11 = .ok (.iaload, 1) := by decide +kernel
theorem dX2_mindsBy_12 : decode cX2_mindsBy 12 = .ok (.if_icmp .ne 7, 3) := by decide +kernel
theorem dX2_mindsBy_15 : decode cX2_mindsBy 15 = .ok (.iconst 0, 1) := by decide +kernel
theorem dX2_mindsBy_16 : decode cX2_mindsBy 16 = .ok (.goto 9, 3) := by decide +kernel
theorem dX2_mindsBy_19 : decode cX2_mindsBy 19 = .ok (.aload_n 0, 1) := by decide +kernel
theorem dX2_mindsBy_20 : decode cX2_mindsBy 20 = .ok (.getfield 18, 3) := by decide +kernel
theorem dX2_mindsBy_23 : decode cX2_mindsBy 23 = .ok (.iload_n 1, 1) := by decide +kernel
theorem dX2_mindsBy_24 : decode cX2_mindsBy 24 = .ok (.iaload, 1) := by decide +kernel
theorem dX2_mindsBy_25 : decode cX2_mindsBy 25 = .ok (.ireturn, 1) := by decide +kernel
theorem dX3_init_0 : decode cX3_init 0 = .ok (.aload_n 0, 1) := by decide +kernel
theorem dX3_init_1 : decode cX3_init 1 = .ok (.invokespecial 3, 3) := by decide +kernel
theorem dX3_init_4 : decode cX3_init 4 = .ok (.aload_n 0, 1) := by decide +kernel
theorem dX3_init_5 : decode cX3_init 5 = .ok (.bipush 40, 2) := by decide +kernel
theorem dX3_init_7 : decode cX3_init 7 = .ok (.newarray .char, 2) := by decide +kernel
theorem dX3_init_9 : decode cX3_init 9 = .ok (.putfield 9, 3) := by decide +kernel
theorem dX3_init_12 : decode cX3_init 12 = .ok (.aload_n 0, 1) := by decide +kernel
theorem dX3_init_13 : decode cX3_init 13 = .ok (.bipush 11, 2) := by decide +kernel
theorem dX3_init_15 : decode cX3_init 15 = .ok (.newarray .int, 2) := by decide +kernel
theorem dX3_init_17 : decode cX3_init 17 = .ok (.putfield 15, 3) := by decide +kernel
theorem dX3_init_20 : decode cX3_init 20 = .ok (.aload_n 0, 1) := by decide +kernel
theorem dX3_init_21 : decode cX3_init 21 = .ok (.bipush 6, 2) := by decide +kernel
theorem dX3_init_23 : decode cX3_init 23 = .ok (.newarray .int, 2) := by decide +kernel
theorem dX3_init_25 : decode cX3_init 25 = .ok (.putfield 19, 3) := by decide +kernel
theorem dX3_init_28 : decode cX3_init 28 = .ok (.aload_n 0, 1) := by decide +kernel
theorem dX3_init_29 : decode cX3_init 29 = .ok (.bipush 6, 2) := by decide +kernel
theorem dX3_init_31 : decode cX3_init 31 = .ok (.newarray .int, 2) := by decide +kernel
theorem dX3_init_33 : decode cX3_init 33 = .ok (.putfield 22, 3) := by decide +kernel
theorem dX3_init_36 : decode cX3_init 36 = .ok (.aload_n 0, 1) := by decide +kernel
theorem dX3_init_37 : decode cX3_init 37 = .ok (.getfield 9, 3) := by decide +kernel
theorem dX3_init_40 : decode cX3_init 40 = .ok (.iconst 0, 1) := by decide +kernel
theorem dX3_init_41 : decode cX3_init 41 = .ok (.bipush 49, 2) := by decide +kernel
theorem dX3_init_43 : decode cX3_init 43 = .ok (.castore, 1) := by decide +kernel
theorem dX3_init_44 : decode cX3_init 44 = .ok (.aload_n 0, 1) := by decide +kernel
theorem dX3_init_45 : decode cX3_init 45 = .ok (.iconst 1, 1) := by decide +kernel
theorem dX3_init_46 : decode cX3_init 46 = .ok (.putfield 25, 3) := by decide +kernel
theorem dX3_init_49 : decode cX3_init 49 = .ok (.aload_n 0, 1) := by decide +kernel
theorem dX3_init_50 : decode cX3_init 50 = .ok (.iconst 1, 1) := by decide +kernel
theorem dX3_init_51 : decode cX3_init 51 = .ok (.putfield 29, 3) := by decide +kernel
theorem dX3_init_54 : decode cX3_init 54 = .ok (.aload_n 0, 1) := by decide +kernel
theorem dX3_init_55 : decode cX3_init 55 = .ok (.iconst 5, 1) := by decide +kernel
theorem dX3_init_56 : decode cX3_init 56 = .ok (.putfield 32, 3) := by decide +kernel
theorem dX3_init_59 : decode cX3_init 59 = .ok (.aload_n 0, 1) := by decide +kernel
theorem dX3_init_60 : decode cX3_init 60 = .ok (.sipush 1022, 3) := by decide +kernel
theorem dX3_init_63 : decode cX3_init 63 = .ok (.putfield 35, 3) := by decide +kernel
theorem dX3_init_66 : decode cX3_init 66 = .ok (.aload_n 0, 1) := by decide +kernel
theorem dX3_init_67 : decode cX3_init 67 = .ok (.getfield 15, 3) := by decide +kernel
theorem dX3_init_70 : decode cX3_init 70 = .ok (.iconst 1, 1) := by decide +kernel
theorem dX3_init_71 : decode cX3_init 71 = .ok (.iconst 1, 1) := by decide +kernel
theorem dX3_init_72 : decode cX3_init 72 = .ok (.iastore, 1) := by decide +kernel
theorem dX3_init_73 : decode cX3_init 73 = .ok (.aload_n 0, 1) := by decide +kernel
theorem dX3_init_74 : decode cX3_init 74 = .ok (.getfield 15, 3) := by decide +kernel
theorem dX3_init_77 : decode cX3_init 77 = .ok (.iconst 2, 1) := by decide +kernel
theorem dX3_init_78 : decode cX3_init 78 = .ok (.iconst 1, 1) := by decide +kernel
theorem dX3_init_79 : decode cX3_init 79 = .ok (.iastore, 1) := by decide +kernel
theorem dX3_init_80 : decode cX3_init 80 = .ok (.aload_n 0, 1) := by decide +kernel
theorem dX3_init_81 : decode cX3_init 81 = .ok (.getfield 15, 3) := by decide +kernel
theorem dX3_init_84 : decode cX3_init 84 = .ok (.iconst 3, 1) := by decide +kernel
theorem dX3_init_85 : decode cX3_init 85 = .ok (.iconst 1, 1) := by decide +kernel
theorem dX3_init_86 : decode cX3_init 86 = .ok (.iastore, 1) := by decide +kernel
theorem dX3_init_87 : decode cX3_init 87 = .ok (.aload_n 0, 1) := by decide +kernel
theorem dX3_init_88 : decode cX3_init 88 = .ok (.iconst 0, 1) := by decide +kernel
theorem dX3_init_89 : decode cX3_init 89 = .ok (.putfield 38, 3) := by decide +kernel
theorem dX3_init_92 : decode cX3_init 92 = .ok (.aload_n 0, 1) := by decide +kernel
theorem dX3_init_93 : decode cX3_init 93 = .ok (.iconst 0, 1) := by decide +kernel
theorem dX3_init_94 : decode cX3_init 94 = .ok (.putfield 41, 3) := by decide +kernel
theorem dX3_init_97 : decode cX3_init 97 = .ok (.return_, 1) := by decide +kernel
theorem dX3_take_0 : decode cX3_take 0 = .ok (.aload_n 0, 1) := by decide +kernel
theorem dX3_take_1 : decode cX3_take 1 = .ok (.iload_n 2, 1) := by decide +kernel
theorem dX3_take_2 : decode cX3_take 2 = .ok (.bipush 40, 2) := by decide +kernel
theorem dX3_take_4 : decode cX3_take 4 = .ok (.invokestatic 45, 3) := by decide +kernel
theorem dX3_take_7 : decode cX3_take 7 = .ok (.putfield 25, 3) := by decide +kernel
theorem dX3_take_10 : decode cX3_take 10 = .ok (.aload_n 1, 1) := by decide +kernel
theorem dX3_take_11 : decode cX3_take 11 = .ok (.iconst 0, 1) := by decide +kernel
theorem dX3_take_12 : decode cX3_take 12 = .ok (.aload_n 0, 1) := by decide +kernel
theorem dX3_take_13 : decode cX3_take 13 = .ok (.getfield 9, 3) := by decide +kernel
theorem dX3_take_16 : decode cX3_take 16 = .ok (.iconst 0, 1) := by decide +kernel
theorem dX3_take_17 : decode cX3_take 17 = .ok (.aload_n 0, 1) := by decide +kernel
theorem dX3_take_18 : decode cX3_take 18 = .ok (.getfield 25, 3) := by decide +kernel
theorem dX3_take_21 : decode cX3_take 21 = .ok (.invokestatic 51, 3) := by decide +kernel
theorem dX3_take_24 : decode cX3_take 24 = .ok (.aload_n 0, 1) := by decide +kernel
theorem dX3_take_25 : decode cX3_take 25 = .ok (.iconst 1, 1) := by decide +kernel
theorem dX3_take_26 : decode cX3_take 26 = .ok (.putfield 29, 3) := by decide +kernel
theorem dX3_take_29 : decode cX3_take 29 = .ok (.aload_n 0, 1) := by decide +kernel
theorem dX3_take_30 : decode cX3_take 30 = .ok (.iconst 0, 1) := by decide +kernel
theorem dX3_take_31 : decode cX3_take 31 = .ok (.putfield 38, 3) := by decide +kernel
theorem dX3_take_34 : decode cX3_take 34 = .ok (.return_, 1) := by decide +kernel
theorem dX3_copy_0 : decode cX3_copy 0 = .ok (.aload_n 1, 1) := by decide +kernel
theorem dX3_copy_1 : decode cX3_copy 1 = .ok (.getfield 9, 3) := by decide +kernel
theorem dX3_copy_4 : decode cX3_copy 4 = .ok (.iconst 0, 1) := by decide +kernel
theorem dX3_copy_5 : decode cX3_copy 5 = .ok (.aload_n 0, 1) := by decide +kernel
theorem dX3_copy_6 : decode cX3_copy 6 = .ok (.getfield 9, 3) := by decide +kernel
theorem dX3_copy_9 : decode cX3_copy 9 = .ok (.iconst 0, 1) := by decide +kernel
theorem dX3_copy_10 : decode cX3_copy 10 = .ok (.bipush 40, 2) := by decide +kernel
theorem dX3_copy_12 : decode cX3_copy 12 = .ok (.invokestatic 51, 3) := by decide +kernel
theorem dX3_copy_15 : decode cX3_copy 15 = .ok (.aload_n 1, 1) := by decide +kernel
theorem dX3_copy_16 : decode cX3_copy 16 = .ok (.getfield 15, 3) := by decide +kernel
theorem dX3_copy_19 : decode cX3_copy 19 = .ok (.iconst 0, 1) := by decide +kernel
theorem dX3_copy_20 : decode cX3_copy 20 = .ok (.aload_n 0, 1) := by decide +kernel
theorem dX3_copy_21 : decode cX3_copy 21 = .ok (.getfield 15, 3) := by decide +kernel
theorem dX3_copy_24 : decode cX3_copy 24 = .ok (.iconst 0, 1) := by decide +kernel
theorem dX3_copy_25 : decode cX3_copy 25 = .ok (.bipush 11, 2) := by decide +kernel
theorem dX3_copy_27 : decode cX3_copy 27 = .ok (.invokestatic 51, 3) := by decide +kernel
theorem dX3_copy_30 : decode cX3_copy 30 = .ok (.aload_n 1, 1) := by decide +kernel
theorem dX3_copy_31 : decode cX3_copy 31 = .ok (.getfield 19, 3) := by decide +kernel
theorem dX3_copy_34 : decode cX3_copy 34 = .ok (.iconst 0, 1) := by decide +kernel
theorem dX3_copy_35 : decode cX3_copy 35 = .ok (.aload_n 0, 1) := by decide +kernel
theorem dX3_copy_36 : decode cX3_copy 36 = .ok (.getfield 19, 3) := by decide +kernel
theorem dX3_copy_39 : decode cX3_copy 39 = .ok (.iconst 0, 1) := by decide +kernel
theorem dX3_copy_40 : decode cX3_copy 40 = .ok (.bipush 6, 2) := by decide +kernel
theorem dX3_copy_42 : decode cX3_copy 42 = .ok (.invokestatic 51, 3) := by decide +kernel
theorem dX3_copy_45 : decode cX3_copy 45 = .ok (.aload_n 1, 1) := by decide +kernel
theorem dX3_copy_46 : decode cX3_copy 46 = .ok (.getfield 22, 3) := by decide +kernel
theorem dX3_copy_49 : decode cX3_copy 49 = .ok (.iconst 0, 1) := by decide +kernel
theorem dX3_copy_50 : decode cX3_copy 50 = .ok (.aload_n 0, 1) := by decide +kernel
theorem dX3_copy_51 : decode cX3_copy 51 = .ok (.getfield 22, 3) := by decide +kernel
theorem dX3_copy_54 : decode cX3_copy 54 = .ok (.iconst 0, 1) := by decide +kernel
theorem dX3_copy_55 : decode cX3_copy 55 = .ok (.bipush 6, 2) := by decide +kernel
theorem dX3_copy_57 : decode cX3_copy 57 = .ok (.invokestatic 51, 3) := by decide +kernel
theorem dX3_copy_60 : decode cX3_copy 60 = .ok (.aload_n 0, 1) := by decide +kernel
theorem dX3_copy_61 : decode cX3_copy 61 = .ok (.aload_n 1, 1) := by decide +kernel
theorem dX3_copy_62 : decode cX3_copy 62 = .ok (.getfield 25, 3) := by decide +kernel
theorem dX3_copy_65 : decode cX3_copy 65 = .ok (.putfield 25, 3) := by decide +kernel
theorem dX3_copy_68 : decode cX3_copy 68 = .ok (.aload_n 0, 1) := by decide +kernel
theorem dX3_copy_69 : decode cX3_copy 69 = .ok (.aload_n 1, 1) := by decide +kernel
theorem dX3_copy_70 : decode cX3_copy 70 = .ok (.getfield 29, 3) := by decide +kernel
theorem dX3_copy_73 : decode cX3_copy 73 = .ok (.putfield 29, 3) := by decide +kernel
theorem dX3_copy_76 : decode cX3_copy 76 = .ok (.aload_n 0, 1) := by decide +kernel
theorem dX3_copy_77 : decode cX3_copy 77 = .ok (.aload_n 1, 1) := by decide +kernel
theorem dX3_copy_78 : decode cX3_copy 78 = .ok (.getfield 32, 3) := by decide +kernel
theorem dX3_copy_81 : decode cX3_copy 81 = .ok (.putfield 32, 3) := by decide +kernel
theorem dX3_copy_84 : decode cX3_copy 84 = .ok (.aload_n 0, 1) := by decide +kernel
theorem dX3_copy_85 : decode cX3_copy 85 = .ok (.aload_n 1, 1) := by decide +kernel
theorem dX3_copy_86 : decode cX3_copy 86 = .ok (.getfield 35, 3) := by decide +kernel
theorem dX3_copy_89 : decode cX3_copy 89 = .ok (.putfield 35, 3) := by decide +kernel
theorem dX3_copy_92 : decode cX3_copy 92 = .ok (.aload_n 0, 1) := by decide +kernel
theorem dX3_copy_93 : decode cX3_copy 93 = .ok (.aload_n 1, 1) := by decide +kernel
theorem dX3_copy_94 : decode cX3_copy 94 = .ok (.getfield 38, 3) := by decide +kernel
theorem dX3_copy_97 : decode cX3_copy 97 = .ok (.putfield 38, 3) := by decide +kernel
theorem dX3_copy_100 : decode cX3_copy 100 = .ok (.return_, 1) := by decide +kernel
theorem dX3_has_0 : decode cX3_has 0 = .ok (.iload_n 1, 1) := by decide +kernel
theorem dX3_has_1 : decode cX3_has 1 = .ok (.ifCond .lt 15, 3) := by decide +kernel
theorem dX3_has_4 : decode cX3_has 4 = .ok (.iload_n 1, 1) := by decide +kernel
theorem dX3_has_5 : decode cX3_has 5 = .ok (.aload_n 0, 1) := by decide +kernel
theorem dX3_has_6 : decode cX3_has 6 = .ok (.getfield 25, 3) := by decide +kernel
theorem dX3_has_9 : decode cX3_has 9 = .ok (.if_icmp .ge 7, 3) := by decide +kernel
theorem dX3_has_12 : decode cX3_has 12 = .ok (.iconst 1, 1) := by decide +kernel
theorem dX3_has_13 : decode cX3_has 13 = .ok (.goto 4, 3) := by decide +kernel
theorem dX3_has_16 : decode cX3_has 16 = .ok (.iconst 0, 1) := by decide +kernel
theorem dX3_has_17 : decode cX3_has 17 = .ok (.ireturn, 1) := by decide +kernel
theorem dX3_howMany_0 : decode cX3_howMany 0 = .ok (.iconst 0, 1) := by decide +kernel
theorem dX3_howMany_1 : decode cX3_howMany 1 = .ok (.istore_n 2, 1) := by decide +kernel
theorem dX3_howMany_2 : decode cX3_howMany 2 = .ok (.iconst 0, 1) := by decide +kernel
theorem dX3_howMany_3 : decode cX3_howMany 3 = .ok (.istore_n 3, 1) := by decide +kernel
theorem dX3_howMany_4 : decode cX3_howMany 4 = .ok (.iload_n 3, 1) := by decide +kernel
theorem dX3_howMany_5 : decode cX3_howMany 5 = .ok (.aload_n 0, 1) := by decide +kernel
theorem dX3_howMany_6 : decode cX3_howMany 6 = .ok (.getfield 25, 3) := by decide +kernel
theorem dX3_howMany_9 : decode cX3_howMany 9 = .ok (.if_icmp .ge 22, 3) := by decide +kernel
theorem dX3_howMany_12 : decode cX3_howMany 12 = .ok (.aload_n 0, 1) := by decide +kernel
theorem dX3_howMany_13 : decode cX3_howMany 13 = .ok (.getfield 9, 3) := by decide +kernel
theorem dX3_howMany_16 : decode cX3_howMany 16 = .ok (.iload_n 3, 1) := by decide +kernel
theorem dX3_howMany_17 : decode cX3_howMany 17 = .ok (.caload, 1) := by decide +kernel
theorem dX3_howMany_18 : decode cX3_howMany 18 = .ok (.iload_n 1, 1) := by decide +kernel
theorem dX3_howMany_19 : decode cX3_howMany 19 = .ok (.if_icmp .ne 6, 3) := by decide +kernel
theorem dX3_howMany_22 : decode cX3_howMany 22 = .ok (.iinc 2 1, 3) := by decide +kernel
theorem dX3_howMany_25 : decode cX3_howMany 25 = .ok (.iinc 3 1, 3) := by decide +kernel
theorem dX3_howMany_28 : decode cX3_howMany 28 = .ok (.goto (-24), 3) := by decide +kernel
theorem dX3_howMany_31 : decode cX3_howMany 31 = .ok (.iload_n 2, 1) := by decide +kernel
theorem dX3_howMany_32 : decode cX3_howMany 32 = .ok (.ireturn, 1) := by decide +kernel
theorem dX3_isWhole_0 : decode cX3_isWhole 0 = .ok (.aload_n 0, 1) := by decide +kernel
theorem dX3_isWhole_1 : decode cX3_isWhole 1 = .ok (.bipush 42, 2) := by decide +kernel
theorem dX3_isWhole_3 : decode cX3_isWhole 3 = .ok (.invokevirtual 57, 3) := by decide +kernel
theorem dX3_isWhole_6 : decode cX3_isWhole 6 = .ok (.ifCond .ne 16, 3) := by decide +kernel
theorem dX3_isWhole_9 : decode cX3_isWhole 9 = .ok (.aload_n 0, 1) := by decide +kernel
theorem dX3_isWhole_10 : decode cX3_isWhole 10 = .ok (.bipush 63, 2) := by decide +kernel
theorem dX3_isWhole_12 : decode cX3_isWhole 12 = .ok (.invokevirtual 57, 3) := by decide +kernel
theorem dX3_isWhole_15 : decode cX3_isWhole 15 = .ok (.ifCond .ne 7, 3) := by decide +kernel
theorem dX3_isWhole_18 : decode cX3_isWhole 18 = .ok (.iconst 1, 1) := by decide +kernel
theorem dX3_isWhole_19 : decode cX3_isWhole 19 = .ok (.goto 4, 3) := by decide +kernel
theorem dX3_isWhole_22 : decode cX3_isWhole 22 = .ok (.iconst 0, 1) := by decide +kernel
theorem dX3_isWhole_23 : decode cX3_isWhole 23 = .ok (.ireturn, 1) := by decide +kernel
theorem dX3_weightOfAll_0 : decode cX3_weightOfAll 0 = .ok (.iconst 0, 1) := by decide +kernel
theorem dX3_weightOfAll_1 : decode cX3_weightOfAll 1 = .ok (.istore_n 1, 1) := by decide +kernel
theorem dX3_weightOfAll_2 : decode cX3_weightOfAll 2 = .ok (.iconst 1, 1) := by decide +kernel
theorem dX3_weightOfAll_3 : decode cX3_weightOfAll 3 = .ok (.istore_n 2, 1) := by decide +kernel
theorem dX3_weightOfAll_4 : decode cX3_weightOfAll 4 = .ok (.iload_n 2, 1) := by decide +kernel
theorem dX3_weightOfAll_5 : decode cX3_weightOfAll 5 = .ok (.bipush 10, 2) := by decide +kernel
theorem dX3_weightOfAll_7 : decode cX3_weightOfAll 7 = .ok (.if_icmp .gt 18, 3) := by decide +kernel
theorem dX3_weightOfAll_10 : decode cX3_weightOfAll 10 = .ok (.iload_n 1, 1) := by decide +kernel
theorem dX3_weightOfAll_11 : decode cX3_weightOfAll 11 = .ok (.aload_n 0, 1) := by decide +kernel
theorem dX3_weightOfAll_12 : decode cX3_weightOfAll 12 = .ok (.getfield 15, 3) := by decide +kernel
theorem dX3_weightOfAll_15 : decode cX3_weightOfAll 15 = .ok (.iload_n 2, 1) := by decide +kernel
theorem dX3_weightOfAll_16 : decode cX3_weightOfAll 16 = .ok (.iaload, 1) := by decide +kernel
theorem dX3_weightOfAll_17 : decode cX3_weightOfAll 17 = .ok (.iadd, 1) := by decide +kernel
theorem dX3_weightOfAll_18 : decode cX3_weightOfAll 18 = .ok (.istore_n 1, 1) := by decide +kernel
theorem dX3_weightOfAll_19 : decode cX3_weightOfAll 19 = .ok (.iinc 2 1, 3) := by decide +kernel
theorem dX3_weightOfAll_22 : decode cX3_weightOfAll 22 = .ok (.goto (-18), 3) := by decide +kernel
theorem dX3_weightOfAll_25 : decode cX3_weightOfAll 25 = .ok (.iload_n 1, 1) := by decide +kernel
theorem dX3_weightOfAll_26 : decode cX3_weightOfAll 26 = .ok (.ireturn, 1) := by decide +kernel
theorem dX4_init_0 : decode cX4_init 0 = .ok (.aload_n 0, 1) := by decide +kernel
theorem dX4_init_1 : decode cX4_init 1 = .ok (.invokespecial 3, 3) := by decide +kernel
theorem dX4_init_4 : decode cX4_init 4 = .ok (.aload_n 0, 1) := by decide +kernel
theorem dX4_init_5 : decode cX4_init 5 = .ok (.iconst 4, 1) := by decide +kernel
theorem dX4_init_6 : decode cX4_init 6 = .ok (.newarray .int, 2) := by decide +kernel
theorem dX4_init_8 : decode cX4_init 8 = .ok (.putfield 9, 3) := by decide +kernel
theorem dX4_init_11 : decode cX4_init 11 = .ok (.aload_n 0, 1) := by decide +kernel
theorem dX4_init_12 : decode cX4_init 12 = .ok (.iconst 4, 1) := by decide +kernel
theorem dX4_init_13 : decode cX4_init 13 = .ok (.newarray .int, 2) := by decide +kernel
theorem dX4_init_15 : decode cX4_init 15 = .ok (.putfield 15, 3) := by decide +kernel
theorem dX4_init_18 : decode cX4_init 18 = .ok (.aload_n 0, 1) := by decide +kernel
theorem dX4_init_19 : decode cX4_init 19 = .ok (.bipush 40, 2) := by decide +kernel
theorem dX4_init_21 : decode cX4_init 21 = .ok (.newarray .int, 2) := by decide +kernel
theorem dX4_init_23 : decode cX4_init 23 = .ok (.putfield 18, 3) := by decide +kernel
theorem dX4_init_26 : decode cX4_init 26 = .ok (.return_, 1) := by decide +kernel
theorem dX4_seek_0 : decode cX4_seek 0 = .ok (.aload_n 1, 1) := by decide +kernel
theorem dX4_seek_1 : decode cX4_seek 1 = .ok (.getfield 21, 3) := by decide +kernel
theorem dX4_seek_4 : decode cX4_seek 4 = .ok (.iconst 0, 1) := by decide +kernel
theorem dX4_seek_5 : decode cX4_seek 5 = .ok (.aload_n 0, 1) := by decide +kernel
theorem dX4_seek_6 : decode cX4_seek 6 = .ok (.getfield 18, 3) := by decide +kernel
theorem dX4_seek_9 : decode cX4_seek 9 = .ok (.iconst 0, 1) := by decide +kernel
theorem dX4_seek_10 : decode cX4_seek 10 = .ok (.bipush 40, 2) := by decide +kernel
theorem dX4_seek_12 : decode cX4_seek 12 = .ok (.invokestatic 24, 3) := by decide +kernel
theorem dX4_seek_15 : decode cX4_seek 15 = .ok (.aload_n 0, 1) := by decide +kernel
theorem dX4_seek_16 : decode cX4_seek 16 = .ok (.aload_n 1, 1) := by decide +kernel
theorem dX4_seek_17 : decode cX4_seek 17 = .ok (.getfield 30, 3) := by decide +kernel
theorem dX4_seek_20 : decode cX4_seek 20 = .ok (.putfield 34, 3) := by decide +kernel
theorem dX4_seek_23 : decode cX4_seek 23 = .ok (.aload_n 0, 1) := by decide +kernel
theorem dX4_seek_24 : decode cX4_seek 24 = .ok (.aload_n 1, 1) := by decide +kernel
theorem dX4_seek_25 : decode cX4_seek 25 = .ok (.getfield 35, 3) := by decide +kernel
theorem dX4_seek_28 : decode cX4_seek 28 = .ok (.putfield 38, 3) := by decide +kernel
theorem dX4_seek_31 : decode cX4_seek 31 = .ok (.aload_n 0, 1) := by decide +kernel
theorem dX4_seek_32 : decode cX4_seek 32 = .ok (.iload_n 2, 1) := by decide +kernel
theorem dX4_seek_33 : decode cX4_seek 33 = .ok (.putfield 39, 3) := by decide +kernel
theorem dX4_seek_36 : decode cX4_seek 36 = .ok (.aload_n 0, 1) := by decide +kernel
theorem dX4_seek_37 : decode cX4_seek 37 = .ok (.iload_n 2, 1) := by decide +kernel
theorem dX4_seek_38 : decode cX4_seek 38 = .ok (.i2l, 1) := by decide +kernel
theorem dX4_seek_39 : decode cX4_seek 39 = .ok (.invokestatic 42, 3) := by decide +kernel
theorem dX4_seek_42 : decode cX4_seek 42 = .ok (.putfield 46, 3) := by decide +kernel
theorem dX4_seek_45 : decode cX4_seek 45 = .ok (.aload_n 0, 1) := by decide +kernel
theorem dX4_seek_46 : decode cX4_seek 46 = .ok (.iload_n 2, 1) := by decide +kernel
theorem dX4_seek_47 : decode cX4_seek 47 = .ok (.invokestatic 49, 3) := by decide +kernel
theorem dX4_seek_50 : decode cX4_seek 50 = .ok (.putfield 55, 3) := by decide +kernel
theorem dX4_seek_53 : decode cX4_seek 53 = .ok (.aload_n 0, 1) := by decide +kernel
theorem dX4_seek_54 : decode cX4_seek 54 = .ok (.iload_n 3, 1) := by decide +kernel
theorem dX4_seek_55 : decode cX4_seek 55 = .ok (.putfield 58, 3) := by decide +kernel
theorem dX4_seek_58 : decode cX4_seek 58 = .ok (.aload_n 0, 1) := by decide +kernel
theorem dX4_seek_59 : decode cX4_seek 59 = .ok (.iload 4, 2) := by decide +kernel
theorem dX4_seek_61 : decode cX4_seek 61 = .ok (.putfield 61, 3) := by decide +kernel
theorem dX4_seek_64 : decode cX4_seek 64 = .ok (.aload_n 0, 1) := by decide +kernel
theorem dX4_seek_65 : decode cX4_seek 65 = .ok (.iload 5, 2) := by decide +kernel
theorem dX4_seek_67 : decode cX4_seek 67 = .ok (.putfield 64, 3) := by decide +kernel
theorem dX4_seek_70 : decode cX4_seek 70 = .ok (.aload_n 0, 1) := by decide +kernel
theorem dX4_seek_71 : decode cX4_seek 71 = .ok (.iconst 0, 1) := by decide +kernel
theorem dX4_seek_72 : decode cX4_seek 72 = .ok (.putfield 68, 3) := by decide +kernel
theorem dX4_seek_75 : decode cX4_seek 75 = .ok (.aload_n 0, 1) := by decide +kernel
theorem dX4_seek_76 : decode cX4_seek 76 = .ok (.bipush 40, 2) := by decide +kernel
theorem dX4_seek_78 : decode cX4_seek 78 = .ok (.putfield 71, 3) := by decide +kernel
theorem dX4_seek_81 : decode cX4_seek 81 = .ok (.aload_n 0, 1) := by decide +kernel
theorem dX4_seek_82 : decode cX4_seek 82 = .ok (.iconst 0, 1) := by decide +kernel
theorem dX4_seek_83 : decode cX4_seek 83 = .ok (.iconst 0, 1) := by decide +kernel
theorem dX4_seek_84 : decode cX4_seek 84 = .ok (.lconst 1, 1) := by decide +kernel
theorem dX4_seek_85 : decode cX4_seek 85 = .ok (.aload_n 0, 1) := by decide +kernel
theorem dX4_seek_86 : decode cX4_seek 86 = .ok (.getfield 38, 3) := by decide +kernel
theorem dX4_seek_89 : decode cX4_seek 89 = .ok (.lshl, 1) := by decide +kernel
theorem dX4_seek_90 : decode cX4_seek 90 = .ok (.lconst 1, 1) := by decide +kernel
theorem dX4_seek_91 : decode cX4_seek 91 = .ok (.lsub, 1) := by decide +kernel
theorem dX4_seek_92 : decode cX4_seek 92 = .ok (.lconst 0, 1) := by decide +kernel
theorem dX4_seek_93 : decode cX4_seek 93 = .ok (.lconst 0, 1) := by decide +kernel
theorem dX4_seek_94 : decode cX4_seek 94 = .ok (.iconst 1, 1) := by decide +kernel
theorem dX4_seek_95 : decode cX4_seek 95 = .ok (.invokevirtual 74, 3) := by decide +kernel
theorem dX4_seek_98 : decode cX4_seek 98 = .ok (.return_, 1) := by decide +kernel
theorem dX4_goOn_0 : decode cX4_goOn 0 = .ok (.iload_n 2, 1) := by decide +kernel
theorem dX4_goOn_1 : decode cX4_goOn 1 = .ok (.istore 10, 2) := by decide +kernel
theorem dX4_goOn_3 : decode cX4_goOn 3 = .ok (.iload 9, 2) := by decide +kernel
theorem dX4_goOn_5 : decode cX4_goOn 5 = .ok (.istore 11, 2) := by decide +kernel
theorem dX4_goOn_7 : decode cX4_goOn 7 = .ok (.lload_n 3, 1) := by decide +kernel
theorem dX4_goOn_8 : decode cX4_goOn 8 = .ok (.lstore 12, 2) := by decide +kernel
theorem dX4_goOn_10 : decode cX4_goOn 10 = .ok (.lload 5, 2) := by decide +kernel
theorem dX4_goOn_12 : decode cX4_goOn 12 = .ok (.lstore 14, 2) := by decide +kernel
theorem dX4_goOn_14 : decode cX4_goOn 14 = .ok (.lload 7, 2) := by decide +kernel
theorem dX4_goOn_16 : decode cX4_goOn 16 = .ok (.lstore 16, 2) := by decide +kernel
theorem dX4_goOn_18 : decode cX4_goOn 18 = .ok (.iload_n 1, 1) := by decide +kernel
theorem dX4_goOn_19 : decode cX4_goOn 19 = .ok (.istore 18, 2) := by decide +kernel
theorem dX4_goOn_21 : decode cX4_goOn 21 = .ok (.iload 18, 2) := by decide +kernel
theorem dX4_goOn_23 : decode cX4_goOn 23 = .ok (.aload_n 0, 1) := by decide +kernel
theorem dX4_goOn_24 : decode cX4_goOn 24 = .ok (.getfield 34, 3) := by decide +kernel
theorem dX4_goOn_27 : decode cX4_goOn 27 = .ok (.if_icmp .ge 169, 3) := by decide +kernel
theorem dX4_goOn_30 : decode cX4_goOn 30 = .ok (.aload_n 0, 1) := by decide +kernel
theorem dX4_goOn_31 : decode cX4_goOn 31 = .ok (.getfield 18, 3) := by decide +kernel
theorem dX4_goOn_34 : decode cX4_goOn 34 = .ok (.iload 18, 2) := by decide +kernel
theorem dX4_goOn_36 : decode cX4_goOn 36 = .ok (.iaload, 1) := by decide +kernel
theorem dX4_goOn_37 : decode cX4_goOn 37 = .ok (.ifCond .ne 13, 3) := by decide +kernel
theorem dX4_goOn_40 : decode cX4_goOn 40 = .ok (.iload 10, 2) := by decide +kernel
theorem dX4_goOn_42 : decode cX4_goOn 42 = .ok (.iconst 4, 1) := by decide +kernel
theorem dX4_goOn_43 : decode cX4_goOn 43 = .ok (.if_icmp .ge 7, 3) := by decide +kernel
theorem dX4_goOn_46 : decode cX4_goOn 46 = .ok (.iconst 1, 1) := by decide +kernel
theorem dX4_goOn_47 : decode cX4_goOn 47 = .ok (.goto 4, 3) := by decide +kernel
theorem dX4_goOn_50 : decode cX4_goOn 50 = .ok (.iconst 0, 1) := by decide +kernel
theorem dX4_goOn_51 : decode cX4_goOn 51 = .ok (.istore 19, 2) := by decide +kernel
theorem dX4_goOn_53 : decode cX4_goOn 53 = .ok (.lload 12, 2) := by decide +kernel
theorem dX4_goOn_55 : decode cX4_goOn 55 = .ok (.iload 18, 2) := by decide +kernel
theorem dX4_goOn_57 : decode cX4_goOn 57 = .ok (.lushr, 1) := by decide +kernel
theorem dX4_goOn_58 : decode cX4_goOn 58 = .ok (.lconst 1, 1) := by decide +kernel
theorem dX4_goOn_59 : decode cX4_goOn 59 = .ok (.land, 1) := by decide +kernel
theorem dX4_goOn_60 : decode cX4_goOn 60 = .ok (.lconst 0, 1) := by decide +kernel
theorem dX4_goOn_61 : decode cX4_goOn 61 = .ok (.lcmp, 1) := by decide +kernel
theorem dX4_goOn_62 : decode cX4_goOn 62 = .ok (.ifCond .ne 34, 3) := by decide +kernel
theorem dX4_goOn_65 : decode cX4_goOn 65 = .ok (.iload 19, 2) := by decide +kernel
theorem dX4_goOn_67 : decode cX4_goOn 67 = .ok (.ifCond .eq 123, 3) := by decide +kernel
theorem dX4_goOn_70 : decode cX4_goOn 70 = .ok (.aload_n 0, 1) := by decide +kernel
theorem dX4_goOn_71 : decode cX4_goOn 71 = .ok (.getfield 15, 3) := by decide +kernel
theorem dX4_goOn_74 : decode cX4_goOn 74 = .ok (.iload 10, 2) := by decide +kernel
theorem dX4_goOn_76 : decode cX4_goOn 76 = .ok (.aload_n 0, 1) := by decide +kernel
theorem dX4_goOn_77 : decode cX4_goOn 77 = .ok (.getfield 46, 3) := by decide +kernel
theorem dX4_goOn_80 : decode cX4_goOn 80 = .ok (.iastore, 1) := by decide +kernel
theorem dX4_goOn_81 : decode cX4_goOn 81 = .ok (.iinc 10 1, 3) := by decide +kernel
theorem dX4_goOn_84 : decode cX4_goOn 84 = .ok (.iload 11, 2) := by decide +kernel
theorem dX4_goOn_86 : decode cX4_goOn 86 = .ok (.aload_n 0, 1) := by decide +kernel
theorem dX4_goOn_87 : decode cX4_goOn 87 = .ok (.getfield 55, 3) := by decide +kernel
theorem dX4_goOn_90 : decode cX4_goOn 90 = .ok (.imul, 1) := by decide +kernel
theorem dX4_goOn_91 : decode cX4_goOn 91 = .ok (.istore 11, 2) := by decide +kernel
theorem dX4_goOn_93 : decode cX4_goOn 93 = .ok (.goto 97, 3) := by decide +kernel
theorem dX4_goOn_96 : decode cX4_goOn 96 = .ok (.lload 14, 2) := by decide +kernel
theorem dX4_goOn_98 : decode cX4_goOn 98 = .ok (.lconst 0, 1) := by decide +kernel
theorem dX4_goOn_99 : decode cX4_goOn 99 = .ok (.lcmp, 1) := by decide +kernel
theorem dX4_goOn_100 : decode cX4_goOn 100 = .ok (.ifCond .ne 22, 3) := by decide +kernel
theorem dX4_goOn_103 : decode cX4_goOn 103 = .ok (.lload 12, 2) := by decide +kernel
theorem dX4_goOn_105 : decode cX4_goOn 105 = .ok (.iload 18, 2) := by decide +kernel
theorem dX4_goOn_107 : decode cX4_goOn 107 = .ok (.lushr, 1) := by decide +kernel
theorem dX4_goOn_108 : decode cX4_goOn 108 = .ok (.lconst 1, 1) := by decide +kernel
theorem dX4_goOn_109 : decode cX4_goOn 109 = .ok (.lcmp, 1) := by decide +kernel
theorem dX4_goOn_110 : decode cX4_goOn 110 = .ok (.ifCond .ne 12, 3) := by decide +kernel
theorem dX4_goOn_113 : decode cX4_goOn 113 = .ok (.lload 16, 2) := by decide +kernel
theorem dX4_goOn_115 : decode cX4_goOn 115 = .ok (.lconst 1, 1) := by decide +kernel
theorem dX4_goOn_116 : decode cX4_goOn 116 = .ok (.iload 18, 2) := by decide +kernel
theorem dX4_goOn_118 : decode cX4_goOn 118 = .ok (.lshl, 1) := by decide +kernel
theorem dX4_goOn_119 : decode cX4_goOn 119 = .ok (.lor, 1) := by decide +kernel
theorem dX4_goOn_120 : decode cX4_goOn 120 = .ok (.lstore 16, 2) := by decide +kernel
theorem dX4_goOn_122 : decode cX4_goOn 122 = .ok (.iload 19, 2) := by decide +kernel
theorem dX4_goOn_124 : decode cX4_goOn 124 = .ok (.ifCond .eq 20, 3) := by decide +kernel
theorem dX4_goOn_127 : decode cX4_goOn 127 = .ok (.aload_n 0, 1) := by decide +kernel
theorem dX4_goOn_128 : decode cX4_goOn 128 = .ok (.iload 18, 2) := by decide +kernel
theorem dX4_goOn_130 : decode cX4_goOn 130 = .ok (.iload 10, 2) := by decide +kernel
theorem dX4_goOn_132 : decode cX4_goOn 132 = .ok (.lload 12, 2) := by decide +kernel
theorem dX4_goOn_134 : decode cX4_goOn 134 = .ok (.lload 14, 2) := by decide +kernel
theorem dX4_goOn_136 : decode cX4_goOn 136 = .ok (.lload 16, 2) := by decide +kernel
theorem dX4_goOn_138 : decode cX4_goOn 138 = .ok (.iload 11, 2) := by decide +kernel
theorem dX4_goOn_140 : decode cX4_goOn 140 = .ok (.invokevirtual 78, 3) := by decide +kernel
theorem dX4_goOn_143 : decode cX4_goOn 143 = .ok (.return_, 1) := by decide +kernel
theorem dX4_goOn_144 : decode cX4_goOn 144 = .ok (.iload 18, 2) := by decide +kernel
theorem dX4_goOn_146 : decode cX4_goOn 146 = .ok (.aload_n 0, 1) := by decide +kernel
theorem dX4_goOn_147 : decode cX4_goOn 147 = .ok (.getfield 18, 3) := by decide +kernel
theorem dX4_goOn_150 : decode cX4_goOn 150 = .ok (.iload 18, 2) := by decide +kernel
theorem dX4_goOn_152 : decode cX4_goOn 152 = .ok (.iaload, 1) := by decide +kernel
theorem dX4_goOn_153 : decode cX4_goOn 153 = .ok (.iadd, 1) := by decide +kernel
theorem dX4_goOn_154 : decode cX4_goOn 154 = .ok (.aload_n 0, 1) := by decide +kernel
theorem dX4_goOn_155 : decode cX4_goOn 155 = .ok (.getfield 34, 3) := by decide +kernel
theorem dX4_goOn_158 : decode cX4_goOn 158 = .ok (.if_icmp .ge 23, 3) := by decide +kernel
theorem dX4_goOn_161 : decode cX4_goOn 161 = .ok (.lload 12, 2) := by decide +kernel
theorem dX4_goOn_163 : decode cX4_goOn 163 = .ok (.lconst 1, 1) := by decide +kernel
theorem dX4_goOn_164 : decode cX4_goOn 164 = .ok (.iload 18, 2) := by decide +kernel
theorem dX4_goOn_166 : decode cX4_goOn 166 = .ok (.aload_n 0, 1) := by decide +kernel
theorem dX4_goOn_167 : decode cX4_goOn 167 = .ok (.getfield 18, 3) := by decide +kernel
theorem dX4_goOn_170 : decode cX4_goOn 170 = .ok (.iload 18, 2) := by decide +kernel
theorem dX4_goOn_172 : decode cX4_goOn 172 = .ok (.iaload, 1) := by decide +kernel
theorem dX4_goOn_173 : decode cX4_goOn 173 = .ok (.iadd, 1) := by decide +kernel
theorem dX4_goOn_174 : decode cX4_goOn 174 = .ok (.lshl, 1) := by decide +kernel
theorem dX4_goOn_175 : decode cX4_goOn 175 = .ok (.lor, 1) := by decide +kernel
theorem dX4_goOn_176 : decode cX4_goOn 176 = .ok (.lstore 12, 2) := by decide +kernel
theorem dX4_goOn_178 : decode cX4_goOn 178 = .ok (.goto 12, 3) := by decide +kernel
theorem dX4_goOn_181 : decode cX4_goOn 181 = .ok (.lload 14, 2) := by decide +kernel
theorem dX4_goOn_183 : decode cX4_goOn 183 = .ok (.lconst 1, 1) := by decide +kernel
theorem dX4_goOn_184 : decode cX4_goOn 184 = .ok (.iload 18, 2) := by decide +kernel
theorem dX4_goOn_186 : decode cX4_goOn 186 = .ok (.lshl, 1) := by decide +kernel
theorem dX4_goOn_187 : decode cX4_goOn 187 = .ok (.lor, 1) := by decide +kernel
theorem dX4_goOn_188 : decode cX4_goOn 188 = .ok (.lstore 14, 2) := by decide +kernel
theorem dX4_goOn_190 : decode cX4_goOn 190 = .ok (.iinc 18 1, 3) := by decide +kernel
theorem dX4_goOn_193 : decode cX4_goOn 193 = .ok (.goto (-172), 3) := by decide +kernel
theorem dX4_goOn_196 : decode cX4_goOn 196 = .ok (.aload_n 0, 1) := by decide +kernel
theorem dX4_goOn_197 : decode cX4_goOn 197 = .ok (.lload 14, 2) := by decide +kernel
theorem dX4_goOn_199 : decode cX4_goOn 199 = .ok (.lload 16, 2) := by decide +kernel
theorem dX4_goOn_201 : decode cX4_goOn 201 = .ok (.iload 11, 2) := by decide +kernel
theorem dX4_goOn_203 : decode cX4_goOn 203 = .ok (.invokevirtual 81, 3) := by decide +kernel
theorem dX4_goOn_206 : decode cX4_goOn 206 = .ok (.return_, 1) := by decide +kernel
theorem dX4_tryCounts_0 : decode cX4_tryCounts 0 = .ok (.iconst 1, 1) := by decide +kernel
theorem dX4_tryCounts_1 : decode cX4_tryCounts 1 = .ok (.istore 10, 2) := by decide +kernel
theorem dX4_tryCounts_3 : decode cX4_tryCounts 3 = .ok (.iload 10, 2) := by decide +kernel
theorem dX4_tryCounts_5 : decode cX4_tryCounts 5 = .ok (.bipush 10, 2) := by decide +kernel
theorem dX4_tryCounts_7 : decode cX4_tryCounts 7 = .ok (.if_icmp .gt 91, 3) := by decide +kernel
theorem dX4_tryCounts_10 : decode cX4_tryCounts 10 = .ok (.aload_n 0, 1) := by decide +kernel
theorem dX4_tryCounts_11 : decode cX4_tryCounts 11 = .ok (.getfield 39, 3) := by decide +kernel
theorem dX4_tryCounts_14 : decode cX4_tryCounts 14 = .ok (.iload 10, 2) := by decide +kernel
theorem dX4_tryCounts_16 : decode cX4_tryCounts 16 = .ok (.ishr, 1) := by decide +kernel
theorem dX4_tryCounts_17 : decode cX4_tryCounts 17 = .ok (.iconst 1, 1) := by decide +kernel
theorem dX4_tryCounts_18 : decode cX4_tryCounts 18 = .ok (.iand, 1) := by decide +kernel
theorem dX4_tryCounts_19 : decode cX4_tryCounts 19 = .ok (.ifCond .ne 6, 3) := by decide +kernel
theorem dX4_tryCounts_22 : decode cX4_tryCounts 22 = .ok (.goto 70, 3) := by decide +kernel
theorem dX4_tryCounts_25 : decode cX4_tryCounts 25 = .ok (.aload_n 0, 1) := by decide +kernel
theorem dX4_tryCounts_26 : decode cX4_tryCounts 26 = .ok (.getfield 15, 3) := by decide +kernel
theorem dX4_tryCounts_29 : decode cX4_tryCounts 29 = .ok (.iload_n 2, 1) := by decide +kernel
theorem dX4_tryCounts_30 : decode cX4_tryCounts 30 = .ok (.iload 10, 2) := by decide +kernel
theorem dX4_tryCounts_32 : decode cX4_tryCounts 32 = .ok (.iastore, 1) := by decide +kernel
theorem dX4_tryCounts_33 : decode cX4_tryCounts 33 = .ok (.iload_n 1, 1) := by decide +kernel
theorem dX4_tryCounts_34 : decode cX4_tryCounts 34 = .ok (.iload 10, 2) := by decide +kernel
theorem dX4_tryCounts_36 : decode cX4_tryCounts 36 = .ok (.iadd, 1) := by decide +kernel
theorem dX4_tryCounts_37 : decode cX4_tryCounts 37 = .ok (.aload_n 0, 1) := by decide +kernel
theorem dX4_tryCounts_38 : decode cX4_tryCounts 38 = .ok (.getfield 34, 3) := by decide +kernel
theorem dX4_tryCounts_41 : decode cX4_tryCounts 41 = .ok (.if_icmp .ge 30, 3) := by decide +kernel
theorem dX4_tryCounts_44 : decode cX4_tryCounts 44 = .ok (.aload_n 0, 1) := by decide +kernel
theorem dX4_tryCounts_45 : decode cX4_tryCounts 45 = .ok (.iload_n 1, 1) := by decide +kernel
theorem dX4_tryCounts_46 : decode cX4_tryCounts 46 = .ok (.iconst 1, 1) := by decide +kernel
theorem dX4_tryCounts_47 : decode cX4_tryCounts 47 = .ok (.iadd, 1) := by decide +kernel
theorem dX4_tryCounts_48 : decode cX4_tryCounts 48 = .ok (.iload_n 2, 1) := by decide +kernel
theorem dX4_tryCounts_49 : decode cX4_tryCounts 49 = .ok (.iconst 1, 1) := by decide +kernel
theorem dX4_tryCounts_50 : decode cX4_tryCounts 50 = .ok (.iadd, 1) := by decide +kernel
theorem dX4_tryCounts_51 : decode cX4_tryCounts 51 = .ok (.lload_n 3, 1) := by decide +kernel
theorem dX4_tryCounts_52 : decode cX4_tryCounts 52 = .ok (.lconst 1, 1) := by decide +kernel
theorem dX4_tryCounts_53 : decode cX4_tryCounts 53 = .ok (.iload_n 1, 1) := by decide +kernel
theorem dX4_tryCounts_54 : decode cX4_tryCounts 54 = .ok (.iload 10, 2) := by decide +kernel
theorem dX4_tryCounts_56 : decode cX4_tryCounts 56 = .ok (.iadd, 1) := by decide +kernel
theorem dX4_tryCounts_57 : decode cX4_tryCounts 57 = .ok (.lshl, 1) := by decide +kernel
theorem dX4_tryCounts_58 : decode cX4_tryCounts 58 = .ok (.lor, 1) := by decide +kernel
theorem dX4_tryCounts_59 : decode cX4_tryCounts 59 = .ok (.lload 5, 2) := by decide +kernel
theorem dX4_tryCounts_61 : decode cX4_tryCounts 61 = .ok (.lload 7, 2) := by decide +kernel
theorem dX4_tryCounts_63 : decode cX4_tryCounts 63 = .ok (.iload 9, 2) := by decide +kernel
theorem dX4_tryCounts_65 : decode cX4_tryCounts 65 = .ok (.invokevirtual 74, 3) := by decide +kernel
theorem dX4_tryCounts_68 : decode cX4_tryCounts 68 = .ok (.goto 24, 3) := by decide +kernel
theorem dX4_tryCounts_71 : decode cX4_tryCounts 71 = .ok (.aload_n 0, 1) := by decide +kernel
theorem dX4_tryCounts_72 : decode cX4_tryCounts 72 = .ok (.iload_n 1, 1) := by decide +kernel
theorem dX4_tryCounts_73 : decode cX4_tryCounts 73 = .ok (.iconst 1, 1) := by decide +kernel
theorem dX4_tryCounts_74 : decode cX4_tryCounts 74 = .ok (.iadd, 1) := by decide +kernel
theorem dX4_tryCounts_75 : decode cX4_tryCounts 75 = .ok (.iload_n 2, 1) := by decide +kernel
theorem dX4_tryCounts_76 : decode cX4_tryCounts 76 = .ok (.iconst 1, 1) := by decide +kernel
theorem dX4_tryCounts_77 : decode cX4_tryCounts 77 = .ok (.iadd, 1) := by decide +kernel
theorem dX4_tryCounts_78 : decode cX4_tryCounts 78 = .ok (.lload_n 3, 1) := by decide +kernel
theorem dX4_tryCounts_79 : decode cX4_tryCounts 79 = .ok (.lload 5, 2) := by decide +kernel
theorem dX4_tryCounts_81 : decode cX4_tryCounts 81 = .ok (.lconst 1, 1) := by decide +kernel
theorem dX4_tryCounts_82 : decode cX4_tryCounts 82 = .ok (.iload_n 1, 1) := by decide +kernel
theorem dX4_tryCounts_83 : decode cX4_tryCounts 83 = .ok (.lshl, 1) := by decide +kernel
theorem dX4_tryCounts_84 : decode cX4_tryCounts 84 = .ok (.lor, 1) := by decide +kernel
theorem dX4_tryCounts_85 : decode cX4_tryCounts 85 = .ok (.lload 7, 2) := by decide +kernel
theorem dX4_tryCounts_87 : decode cX4_tryCounts 87 = .ok (.iload 9, 2) := by decide +kernel
theorem dX4_tryCounts_89 : decode cX4_tryCounts 89 = .ok (.invokevirtual 74, 3) := by decide +kernel
theorem dX4_tryCounts_92 : decode cX4_tryCounts 92 = .ok (.iinc 10 1, 3) := by decide +kernel
theorem dX4_tryCounts_95 : decode cX4_tryCounts 95 = .ok (.goto (-92), 3) := by decide +kernel
theorem dX4_tryCounts_98 : decode cX4_tryCounts 98 = .ok (.return_, 1) := by decide +kernel
theorem dX4_weigh_0 : decode cX4_weigh 0 = .ok (.aload_n 0, 1) := by decide +kernel
theorem dX4_weigh_1 : decode cX4_weigh 1 = .ok (.lload_n 1, 1) := by decide +kernel
theorem dX4_weigh_2 : decode cX4_weigh 2 = .ok (.invokestatic 85, 3) := by decide +kernel
theorem dX4_weigh_5 : decode cX4_weigh 5 = .ok (.lload_n 3, 1) := by decide +kernel
theorem dX4_weigh_6 : decode cX4_weigh 6 = .ok (.invokevirtual 89, 3) := by decide +kernel
theorem dX4_weigh_9 : decode cX4_weigh 9 = .ok (.ifCond .ne 4, 3) := by decide +kernel
theorem dX4_weigh_12 : decode cX4_weigh 12 = .ok (.return_, 1) := by decide +kernel
theorem dX4_weigh_13 : decode cX4_weigh 13 = .ok (.aload_n 0, 1) := by decide +kernel
theorem dX4_weigh_14 : decode cX4_weigh 14 = .ok (.dup, 1) := by decide +kernel
theorem dX4_weigh_15 : decode cX4_weigh 15 = .ok (.getfield 68, 3) := by decide +kernel
theorem dX4_weigh_18 : decode cX4_weigh 18 = .ok (.iload 5, 2) := by decide +kernel
theorem dX4_weigh_20 : decode cX4_weigh 20 = .ok (.iadd, 1) := by decide +kernel
theorem dX4_weigh_21 : decode cX4_weigh 21 = .ok (.putfield 68, 3) := by decide +kernel
theorem dX4_weigh_24 : decode cX4_weigh 24 = .ok (.aload_n 0, 1) := by decide +kernel
theorem dX4_weigh_25 : decode cX4_weigh 25 = .ok (.getfield 64, 3) := by decide +kernel
theorem dX4_weigh_28 : decode cX4_weigh 28 = .ok (.ifCond .eq 10, 3) := by decide +kernel
theorem dX4_weigh_31 : decode cX4_weigh 31 = .ok (.lload_n 3, 1) := by decide +kernel
theorem dX4_weigh_32 : decode cX4_weigh 32 = .ok (.invokestatic 42, 3) := by decide +kernel
theorem dX4_weigh_35 : decode cX4_weigh 35 = .ok (.goto 4, 3) := by decide +kernel
theorem dX4_weigh_38 : decode cX4_weigh 38 = .ok (.iconst 0, 1) := by decide +kernel
theorem dX4_weigh_39 : decode cX4_weigh 39 = .ok (.istore 6, 2) := by decide +kernel
theorem dX4_weigh_41 : decode cX4_weigh 41 = .ok (.iload 6, 2) := by decide +kernel
theorem dX4_weigh_43 : decode cX4_weigh 43 = .ok (.aload_n 0, 1) := by decide +kernel
theorem dX4_weigh_44 : decode cX4_weigh 44 = .ok (.getfield 71, 3) := by decide +kernel
theorem dX4_weigh_47 : decode cX4_weigh 47 = .ok (.if_icmp .ge 23, 3) := by decide +kernel
theorem dX4_weigh_50 : decode cX4_weigh 50 = .ok (.aload_n 0, 1) := by decide +kernel
theorem dX4_weigh_51 : decode cX4_weigh 51 = .ok (.iload 6, 2) := by decide +kernel
theorem dX4_weigh_53 : decode cX4_weigh 53 = .ok (.putfield 71, 3) := by decide +kernel
theorem dX4_weigh_56 : decode cX4_weigh 56 = .ok (.aload_n 0, 1) := by decide +kernel
theorem dX4_weigh_57 : decode cX4_weigh 57 = .ok (.getfield 15, 3) := by decide +kernel
theorem dX4_weigh_60 : decode cX4_weigh 60 = .ok (.iconst 0, 1) := by decide +kernel
theorem dX4_weigh_61 : decode cX4_weigh 61 = .ok (.aload_n 0, 1) := by decide +kernel
theorem dX4_weigh_62 : decode cX4_weigh 62 = .ok (.getfield 9, 3) := by decide +kernel
theorem dX4_weigh_65 : decode cX4_weigh 65 = .ok (.iconst 0, 1) := by decide +kernel
theorem dX4_weigh_66 : decode cX4_weigh 66 = .ok (.iconst 4, 1) := by decide +kernel
theorem dX4_weigh_67 : decode cX4_weigh 67 = .ok (.invokestatic 24, 3) := by decide +kernel
theorem dX4_weigh_70 : decode cX4_weigh 70 = .ok (.return_, 1) := by decide +kernel
theorem dX4_holds_0 : decode cX4_holds 0 = .ok (.aload_n 0, 1) := by decide +kernel
theorem dX4_holds_1 : decode cX4_holds 1 = .ok (.getfield 58, 3) := by decide +kernel
theorem dX4_holds_4 : decode cX4_holds 4 = .ok (.tableswitch 64 0 2 #[28, 39, 53], 28) := by decide +kernel
theorem dX4_holds_32 : decode cX4_holds 32 = .ok (.iload_n 1, 1) := by decide +kernel
theorem dX4_holds_33 : decode cX4_holds 33 = .ok (.iconst 1, 1) := by decide +kernel
theorem dX4_holds_34 : decode cX4_holds 34 = .ok (.if_icmp .ne 7, 3) := by decide +kernel
theorem dX4_holds_37 : decode cX4_holds 37 = .ok (.iconst 1, 1) := by decide +kernel
theorem dX4_holds_38 : decode cX4_holds 38 = .ok (.goto 4, 3) := by decide +kernel
theorem dX4_holds_41 : decode cX4_holds 41 = .ok (.iconst 0, 1) := by decide +kernel
theorem dX4_holds_42 : decode cX4_holds 42 = .ok (.ireturn, 1) := by decide +kernel
theorem dX4_holds_43 : decode cX4_holds 43 = .ok (.iload_n 1, 1) := by decide +kernel
theorem dX4_holds_44 : decode cX4_holds 44 = .ok (.aload_n 0, 1) := by decide +kernel
theorem dX4_holds_45 : decode cX4_holds 45 = .ok (.getfield 38, 3) := by decide +kernel
theorem dX4_holds_48 : decode cX4_holds 48 = .ok (.if_icmp .ne 7, 3) := by decide +kernel
theorem dX4_holds_51 : decode cX4_holds 51 = .ok (.iconst 1, 1) := by decide +kernel
theorem dX4_holds_52 : decode cX4_holds 52 = .ok (.goto 4, 3) := by decide +kernel
theorem dX4_holds_55 : decode cX4_holds 55 = .ok (.iconst 0, 1) := by decide +kernel
theorem dX4_holds_56 : decode cX4_holds 56 = .ok (.ireturn, 1) := by decide +kernel
theorem dX4_holds_57 : decode cX4_holds 57 = .ok (.iload_n 1, 1) := by decide +kernel
theorem dX4_holds_58 : decode cX4_holds 58 = .ok (.iconst 2, 1) := by decide +kernel
theorem dX4_holds_59 : decode cX4_holds 59 = .ok (.if_icmp .ne 7, 3) := by decide +kernel
theorem dX4_holds_62 : decode cX4_holds 62 = .ok (.iconst 1, 1) := by decide +kernel
theorem dX4_holds_63 : decode cX4_holds 63 = .ok (.goto 4, 3) := by decide +kernel
theorem dX4_holds_66 : decode cX4_holds 66 = .ok (.iconst 0, 1) := by decide +kernel
theorem dX4_holds_67 : decode cX4_holds 67 = .ok (.ireturn, 1) := by decide +kernel
theorem dX4_holds_68 : decode cX4_holds 68 = .ok (.lload_n 2, 1) := by decide +kernel
theorem dX4_holds_69 : decode cX4_holds 69 = .ok (.aload_n 0, 1) := by decide +kernel
theorem dX4_holds_70 : decode cX4_holds 70 = .ok (.getfield 61, 3) := by decide +kernel
theorem dX4_holds_73 : decode cX4_holds 73 = .ok (.lushr, 1) := by decide +kernel
theorem dX4_holds_74 : decode cX4_holds 74 = .ok (.lconst 1, 1) := by decide +kernel
theorem dX4_holds_75 : decode cX4_holds 75 = .ok (.land, 1) := by decide +kernel
theorem dX4_holds_76 : decode cX4_holds 76 = .ok (.lconst 0, 1) := by decide +kernel
theorem dX4_holds_77 : decode cX4_holds 77 = .ok (.lcmp, 1) := by decide +kernel
theorem dX4_holds_78 : decode cX4_holds 78 = .ok (.ifCond .eq 7, 3) := by decide +kernel
theorem dX4_holds_81 : decode cX4_holds 81 = .ok (.iconst 1, 1) := by decide +kernel
theorem dX4_holds_82 : decode cX4_holds 82 = .ok (.goto 4, 3) := by decide +kernel
theorem dX4_holds_85 : decode cX4_holds 85 = .ok (.iconst 0, 1) := by decide +kernel
theorem dX4_holds_86 : decode cX4_holds 86 = .ok (.ireturn, 1) := by decide +kernel
theorem dJ6_bitCount_0f7a4_0 : decode cJ6_bitCount_0f7a4 0 = .ok (.iload_n 0, 1) := by decide +kernel
theorem dJ6_bitCount_0f7a4_1 : decode cJ6_bitCount_0f7a4 1 = .ok (.iload_n 0, 1) := by decide +kernel
theorem dJ6_bitCount_0f7a4_2 : decode cJ6_bitCount_0f7a4 2 = .ok (.iconst 1, 1) := by decide +kernel
theorem dJ6_bitCount_0f7a4_3 : decode cJ6_bitCount_0f7a4 3 = .ok (.iushr, 1) := by decide +kernel
theorem dJ6_bitCount_0f7a4_4 : decode cJ6_bitCount_0f7a4 4 = .ok (.ldc_w 265, 3) := by decide +kernel
theorem dJ6_bitCount_0f7a4_7 : decode cJ6_bitCount_0f7a4 7 = .ok (.iand, 1) := by decide +kernel
theorem dJ6_bitCount_0f7a4_8 : decode cJ6_bitCount_0f7a4 8 = .ok (.isub, 1) := by decide +kernel
theorem dJ6_bitCount_0f7a4_9 : decode cJ6_bitCount_0f7a4 9 = .ok (.istore_n 0, 1) := by decide +kernel
theorem dJ6_bitCount_0f7a4_10 : decode cJ6_bitCount_0f7a4 10 = .ok (.iload_n 0, 1) := by decide +kernel
theorem dJ6_bitCount_0f7a4_11 : decode cJ6_bitCount_0f7a4 11 = .ok (.ldc_w 266, 3) := by decide +kernel
theorem dJ6_bitCount_0f7a4_14 : decode cJ6_bitCount_0f7a4 14 = .ok (.iand, 1) := by decide +kernel
theorem dJ6_bitCount_0f7a4_15 : decode cJ6_bitCount_0f7a4 15 = .ok (.iload_n 0, 1) := by decide +kernel
theorem dJ6_bitCount_0f7a4_16 : decode cJ6_bitCount_0f7a4 16 = .ok (.iconst 2, 1) := by decide +kernel
theorem dJ6_bitCount_0f7a4_17 : decode cJ6_bitCount_0f7a4 17 = .ok (.iushr, 1) := by decide +kernel
theorem dJ6_bitCount_0f7a4_18 : decode cJ6_bitCount_0f7a4 18 = .ok (.ldc_w 266, 3) := by decide +kernel
theorem dJ6_bitCount_0f7a4_21 : decode cJ6_bitCount_0f7a4 21 = .ok (.iand, 1) := by decide +kernel
theorem dJ6_bitCount_0f7a4_22 : decode cJ6_bitCount_0f7a4 22 = .ok (.iadd, 1) := by decide +kernel
theorem dJ6_bitCount_0f7a4_23 : decode cJ6_bitCount_0f7a4 23 = .ok (.istore_n 0, 1) := by decide +kernel
theorem dJ6_bitCount_0f7a4_24 : decode cJ6_bitCount_0f7a4 24 = .ok (.iload_n 0, 1) := by decide +kernel
theorem dJ6_bitCount_0f7a4_25 : decode cJ6_bitCount_0f7a4 25 = .ok (.iload_n 0, 1) := by decide +kernel
theorem dJ6_bitCount_0f7a4_26 : decode cJ6_bitCount_0f7a4 26 = .ok (.iconst 4, 1) := by decide +kernel
theorem dJ6_bitCount_0f7a4_27 : decode cJ6_bitCount_0f7a4 27 = .ok (.iushr, 1) := by decide +kernel
theorem dJ6_bitCount_0f7a4_28 : decode cJ6_bitCount_0f7a4 28 = .ok (.iadd, 1) := by decide +kernel
theorem dJ6_bitCount_0f7a4_29 : decode cJ6_bitCount_0f7a4 29 = .ok (.ldc_w 267, 3) := by decide +kernel
theorem dJ6_bitCount_0f7a4_32 : decode cJ6_bitCount_0f7a4 32 = .ok (.iand, 1) := by decide +kernel
theorem dJ6_bitCount_0f7a4_33 : decode cJ6_bitCount_0f7a4 33 = .ok (.istore_n 0, 1) := by decide +kernel
theorem dJ6_bitCount_0f7a4_34 : decode cJ6_bitCount_0f7a4 34 = .ok (.iload_n 0, 1) := by decide +kernel
theorem dJ6_bitCount_0f7a4_35 : decode cJ6_bitCount_0f7a4 35 = .ok (.iload_n 0, 1) := by decide +kernel
theorem dJ6_bitCount_0f7a4_36 : decode cJ6_bitCount_0f7a4 36 = .ok (.bipush 8, 2) := by decide +kernel
theorem dJ6_bitCount_0f7a4_38 : decode cJ6_bitCount_0f7a4 38 = .ok (.iushr, 1) := by decide +kernel
theorem dJ6_bitCount_0f7a4_39 : decode cJ6_bitCount_0f7a4 39 = .ok (.iadd, 1) := by decide +kernel
theorem dJ6_bitCount_0f7a4_40 : decode cJ6_bitCount_0f7a4 40 = .ok (.istore_n 0, 1) := by decide +kernel
theorem dJ6_bitCount_0f7a4_41 : decode cJ6_bitCount_0f7a4 41 = .ok (.iload_n 0, 1) := by decide +kernel
theorem dJ6_bitCount_0f7a4_42 : decode cJ6_bitCount_0f7a4 42 = .ok (.iload_n 0, 1) := by decide +kernel
theorem dJ6_bitCount_0f7a4_43 : decode cJ6_bitCount_0f7a4 43 = .ok (.bipush 16, 2) := by decide +kernel
theorem dJ6_bitCount_0f7a4_45 : decode cJ6_bitCount_0f7a4 45 = .ok (.iushr, 1) := by decide +kernel
theorem dJ6_bitCount_0f7a4_46 : decode cJ6_bitCount_0f7a4 46 = .ok (.iadd, 1) := by decide +kernel
theorem dJ6_bitCount_0f7a4_47 : decode cJ6_bitCount_0f7a4 47 = .ok (.istore_n 0, 1) := by decide +kernel
theorem dJ6_bitCount_0f7a4_48 : decode cJ6_bitCount_0f7a4 48 = .ok (.iload_n 0, 1) := by decide +kernel
theorem dJ6_bitCount_0f7a4_49 : decode cJ6_bitCount_0f7a4 49 = .ok (.bipush 63, 2) := by decide +kernel
theorem dJ6_bitCount_0f7a4_51 : decode cJ6_bitCount_0f7a4 51 = .ok (.iand, 1) := by decide +kernel
theorem dJ6_bitCount_0f7a4_52 : decode cJ6_bitCount_0f7a4 52 = .ok (.ireturn, 1) := by decide +kernel
theorem dJ13_bitCount_95d88_0 : decode cJ13_bitCount_95d88 0 = .ok (.lload_n 0, 1) := by decide +kernel
theorem dJ13_bitCount_95d88_1 : decode cJ13_bitCount_95d88 1 = .ok (.lload_n 0, 1) := by decide +kernel
theorem dJ13_bitCount_95d88_2 : decode cJ13_bitCount_95d88 2 = .ok (.iconst 1, 1) := by decide +kernel
theorem dJ13_bitCount_95d88_3 : decode cJ13_bitCount_95d88 3 = .ok (.lushr, 1) := by decide +kernel
theorem dJ13_bitCount_95d88_4 : decode cJ13_bitCount_95d88 4 = .ok (.ldc2_w 314, 3) := by decide +kernel
theorem dJ13_bitCount_95d88_7 : decode cJ13_bitCount_95d88 7 = .ok (.land, 1) := by decide +kernel
theorem dJ13_bitCount_95d88_8 : decode cJ13_bitCount_95d88 8 = .ok (.lsub, 1) := by decide +kernel
theorem dJ13_bitCount_95d88_9 : decode cJ13_bitCount_95d88 9 = .ok (.lstore_n 0, 1) := by decide +kernel
theorem dJ13_bitCount_95d88_10 : decode cJ13_bitCount_95d88 10 = .ok (.lload_n 0, 1) := by decide +kernel
theorem dJ13_bitCount_95d88_11 : decode cJ13_bitCount_95d88 11 = .ok (.ldc2_w 316, 3) := by decide +kernel
theorem dJ13_bitCount_95d88_14 : decode cJ13_bitCount_95d88 14 = .ok (.land, 1) := by decide +kernel
theorem dJ13_bitCount_95d88_15 : decode cJ13_bitCount_95d88 15 = .ok (.lload_n 0, 1) := by decide +kernel
theorem dJ13_bitCount_95d88_16 : decode cJ13_bitCount_95d88 16 = .ok (.iconst 2, 1) := by decide +kernel
theorem dJ13_bitCount_95d88_17 : decode cJ13_bitCount_95d88 17 = .ok (.lushr, 1) := by decide +kernel
theorem dJ13_bitCount_95d88_18 : decode cJ13_bitCount_95d88 18 = .ok (.ldc2_w 316, 3) := by decide +kernel
theorem dJ13_bitCount_95d88_21 : decode cJ13_bitCount_95d88 21 = .ok (.land, 1) := by decide +kernel
theorem dJ13_bitCount_95d88_22 : decode cJ13_bitCount_95d88 22 = .ok (.ladd, 1) := by decide +kernel
theorem dJ13_bitCount_95d88_23 : decode cJ13_bitCount_95d88 23 = .ok (.lstore_n 0, 1) := by decide +kernel
theorem dJ13_bitCount_95d88_24 : decode cJ13_bitCount_95d88 24 = .ok (.lload_n 0, 1) := by decide +kernel
theorem dJ13_bitCount_95d88_25 : decode cJ13_bitCount_95d88 25 = .ok (.lload_n 0, 1) := by decide +kernel
theorem dJ13_bitCount_95d88_26 : decode cJ13_bitCount_95d88 26 = .ok (.iconst 4, 1) := by decide +kernel
theorem dJ13_bitCount_95d88_27 : decode cJ13_bitCount_95d88 27 = .ok (.lushr, 1) := by decide +kernel
theorem dJ13_bitCount_95d88_28 : decode cJ13_bitCount_95d88 28 = .ok (.ladd, 1) := by decide +kernel
theorem dJ13_bitCount_95d88_29 : decode cJ13_bitCount_95d88 29 = .ok (.ldc2_w 318, 3) := by decide +kernel
theorem dJ13_bitCount_95d88_32 : decode cJ13_bitCount_95d88 32 = .ok (.land, 1) := by decide +kernel
theorem dJ13_bitCount_95d88_33 : decode cJ13_bitCount_95d88 33 = .ok (.lstore_n 0, 1) := by decide +kernel
theorem dJ13_bitCount_95d88_34 : decode cJ13_bitCount_95d88 34 = .ok (.lload_n 0, 1) := by decide +kernel
theorem dJ13_bitCount_95d88_35 : decode cJ13_bitCount_95d88 35 = .ok (.lload_n 0, 1) := by decide +kernel
theorem dJ13_bitCount_95d88_36 : decode cJ13_bitCount_95d88 36 = .ok (.bipush 8, 2) := by decide +kernel
theorem dJ13_bitCount_95d88_38 : decode cJ13_bitCount_95d88 38 = .ok (.lushr, 1) := by decide +kernel
theorem dJ13_bitCount_95d88_39 : decode cJ13_bitCount_95d88 39 = .ok (.ladd, 1) := by decide +kernel
theorem dJ13_bitCount_95d88_40 : decode cJ13_bitCount_95d88 40 = .ok (.lstore_n 0, 1) := by decide +kernel
theorem dJ13_bitCount_95d88_41 : decode cJ13_bitCount_95d88 41 = .ok (.lload_n 0, 1) := by decide +kernel
theorem dJ13_bitCount_95d88_42 : decode cJ13_bitCount_95d88 42 = .ok (.lload_n 0, 1) := by decide +kernel
theorem dJ13_bitCount_95d88_43 : decode cJ13_bitCount_95d88 43 = .ok (.bipush 16, 2) := by decide +kernel
theorem dJ13_bitCount_95d88_45 : decode cJ13_bitCount_95d88 45 = .ok (.lushr, 1) := by decide +kernel
theorem dJ13_bitCount_95d88_46 : decode cJ13_bitCount_95d88 46 = .ok (.ladd, 1) := by decide +kernel
theorem dJ13_bitCount_95d88_47 : decode cJ13_bitCount_95d88 47 = .ok (.lstore_n 0, 1) := by decide +kernel
theorem dJ13_bitCount_95d88_48 : decode cJ13_bitCount_95d88 48 = .ok (.lload_n 0, 1) := by decide +kernel
theorem dJ13_bitCount_95d88_49 : decode cJ13_bitCount_95d88 49 = .ok (.lload_n 0, 1) := by decide +kernel
theorem dJ13_bitCount_95d88_50 : decode cJ13_bitCount_95d88 50 = .ok (.bipush 32, 2) := by decide +kernel
theorem dJ13_bitCount_95d88_52 : decode cJ13_bitCount_95d88 52 = .ok (.lushr, 1) := by decide +kernel
theorem dJ13_bitCount_95d88_53 : decode cJ13_bitCount_95d88 53 = .ok (.ladd, 1) := by decide +kernel
theorem dJ13_bitCount_95d88_54 : decode cJ13_bitCount_95d88 54 = .ok (.lstore_n 0, 1) := by decide +kernel
theorem dJ13_bitCount_95d88_55 : decode cJ13_bitCount_95d88 55 = .ok (.lload_n 0, 1) := by decide +kernel
theorem dJ13_bitCount_95d88_56 : decode cJ13_bitCount_95d88 56 = .ok (.l2i, 1) := by decide +kernel
theorem dJ13_bitCount_95d88_57 : decode cJ13_bitCount_95d88 57 = .ok (.bipush 127, 2) := by decide +kernel
theorem dJ13_bitCount_95d88_59 : decode cJ13_bitCount_95d88 59 = .ok (.iand, 1) := by decide +kernel
theorem dJ13_bitCount_95d88_60 : decode cJ13_bitCount_95d88 60 = .ok (.ireturn, 1) := by decide +kernel
theorem dJ9_max_7cf53_0 : decode cJ9_max_7cf53 0 = .ok (.iload_n 0, 1) := by decide +kernel
theorem dJ9_max_7cf53_1 : decode cJ9_max_7cf53 1 = .ok (.iload_n 1, 1) := by decide +kernel
theorem dJ9_max_7cf53_2 : decode cJ9_max_7cf53 2 = .ok (.if_icmp .lt 7, 3) := by decide +kernel
theorem dJ9_max_7cf53_5 : decode cJ9_max_7cf53 5 = .ok (.iload_n 0, 1) := by decide +kernel
theorem dJ9_max_7cf53_6 : decode cJ9_max_7cf53 6 = .ok (.goto 4, 3) := by decide +kernel
theorem dJ9_max_7cf53_9 : decode cJ9_max_7cf53 9 = .ok (.iload_n 1, 1) := by decide +kernel
theorem dJ9_max_7cf53_10 : decode cJ9_max_7cf53 10 = .ok (.ireturn, 1) := by decide +kernel
theorem dJ9_min_7cf53_0 : decode cJ9_min_7cf53 0 = .ok (.iload_n 0, 1) := by decide +kernel
theorem dJ9_min_7cf53_1 : decode cJ9_min_7cf53 1 = .ok (.iload_n 1, 1) := by decide +kernel
theorem dJ9_min_7cf53_2 : decode cJ9_min_7cf53 2 = .ok (.if_icmp .gt 7, 3) := by decide +kernel
theorem dJ9_min_7cf53_5 : decode cJ9_min_7cf53 5 = .ok (.iload_n 0, 1) := by decide +kernel
theorem dJ9_min_7cf53_6 : decode cJ9_min_7cf53 6 = .ok (.goto 4, 3) := by decide +kernel
theorem dJ9_min_7cf53_9 : decode cJ9_min_7cf53 9 = .ok (.iload_n 1, 1) := by decide +kernel
theorem dJ9_min_7cf53_10 : decode cJ9_min_7cf53 10 = .ok (.ireturn, 1) := by decide +kernel
theorem dJ7_fill_d0a16_0 : decode cJ7_fill_d0a16 0 = .ok (.iconst 0, 1) := by decide +kernel
theorem dJ7_fill_d0a16_1 : decode cJ7_fill_d0a16 1 = .ok (.istore_n 3, 1) := by decide +kernel
theorem dJ7_fill_d0a16_2 : decode cJ7_fill_d0a16 2 = .ok (.aload_n 0, 1) := by decide +kernel
theorem dJ7_fill_d0a16_3 : decode cJ7_fill_d0a16 3 = .ok (.arraylength, 1) := by decide +kernel
theorem dJ7_fill_d0a16_4 : decode cJ7_fill_d0a16 4 = .ok (.istore 4, 2) := by decide +kernel
theorem dJ7_fill_d0a16_6 : decode cJ7_fill_d0a16 6 = .ok (.iload_n 3, 1) := by decide +kernel
theorem dJ7_fill_d0a16_7 : decode cJ7_fill_d0a16 7 = .ok (.iload 4, 2) := by decide +kernel
theorem dJ7_fill_d0a16_9 : decode cJ7_fill_d0a16 9 = .ok (.if_icmp .ge 13, 3) := by decide +kernel
theorem dJ7_fill_d0a16_12 : decode cJ7_fill_d0a16 12 = .ok (.aload_n 0, 1) := by decide +kernel
theorem dJ7_fill_d0a16_13 : decode cJ7_fill_d0a16 13 = .ok (.iload_n 3, 1) := by decide +kernel
theorem dJ7_fill_d0a16_14 : decode cJ7_fill_d0a16 14 = .ok (.lload_n 1, 1) := by decide +kernel
theorem dJ7_fill_d0a16_15 : decode cJ7_fill_d0a16 15 = .ok (.lastore, 1) := by decide +kernel
theorem dJ7_fill_d0a16_16 : decode cJ7_fill_d0a16 16 = .ok (.iinc 3 1, 3) := by decide +kernel
theorem dJ7_fill_d0a16_19 : decode cJ7_fill_d0a16 19 = .ok (.goto (-13), 3) := by decide +kernel
theorem dJ7_fill_d0a16_22 : decode cJ7_fill_d0a16 22 = .ok (.return_, 1) := by decide +kernel
