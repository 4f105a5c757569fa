theorem dX6_init_0 : decode cX6_init 0 = .ok (.aload_n 0, 1) := by decide +kernel
theorem dX6_init_1 : decode cX6_init 1 = .ok (.invokespecial 1, 3) := by decide +kernel
theorem dX6_init_4 : decode cX6_init 4 = .ok (.aload_n 0, 1) := by decide +kernel
theorem dX6_init_5 : decode cX6_init 5 = .ok (.bipush 48, 2) := by decide +kernel
theorem dX6_init_7 : decode cX6_init 7 = .ok (.newarray .int, 2) := by decide +kernel
theorem dX6_init_9 : decode cX6_init 9 = .ok (.putfield 7, 3) := by decide +kernel
theorem dX6_init_12 : decode cX6_init 12 = .ok (.aload_n 0, 1) := by decide +kernel
theorem dX6_init_13 : decode cX6_init 13 = .ok (.iconst 1, 1) := by decide +kernel
theorem dX6_init_14 : decode cX6_init 14 = .ok (.putfield 13, 3) := by decide +kernel
theorem dX6_init_17 : decode cX6_init 17 = .ok (.aload_n 0, 1) := by decide +kernel
theorem dX6_init_18 : decode cX6_init 18 = .ok (.bipush 40, 2) := by decide +kernel
theorem dX6_init_20 : decode cX6_init 20 = .ok (.newarray .int, 2) := by decide +kernel
theorem dX6_init_22 : decode cX6_init 22 = .ok (.putfield 17, 3) := by decide +kernel
theorem dX6_init_25 : decode cX6_init 25 = .ok (.aload_n 0, 1) := by decide +kernel
theorem dX6_init_26 : decode cX6_init 26 = .ok (.iconst 1, 1) := by decide +kernel
theorem dX6_init_27 : decode cX6_init 27 = .ok (.putfield 20, 3) := by decide +kernel
theorem dX6_init_30 : decode cX6_init 30 = .ok (.aload_n 0, 1) := by decide +kernel
theorem dX6_init_31 : decode cX6_init 31 = .ok (.iconst 5, 1) := by decide +kernel
theorem dX6_init_32 : decode cX6_init 32 = .ok (.putfield 23, 3) := by decide +kernel
theorem dX6_init_35 : decode cX6_init 35 = .ok (.aload_n 0, 1) := by decide +kernel
theorem dX6_init_36 : decode cX6_init 36 = .ok (.sipush 1022, 3) := by decide +kernel
theorem dX6_init_39 : decode cX6_init 39 = .ok (.putfield 26, 3) := by decide +kernel
theorem dX6_init_42 : decode cX6_init 42 = .ok (.aload_n 0, 1) := by decide +kernel
theorem dX6_init_43 : decode cX6_init 43 = .ok (.bipush 11, 2) := by decide +kernel
theorem dX6_init_45 : decode cX6_init 45 = .ok (.newarray .int, 2) := by decide +kernel
theorem dX6_init_47 : decode cX6_init 47 = .ok (.putfield 29, 3) := by decide +kernel
theorem dX6_init_50 : decode cX6_init 50 = .ok (.aload_n 0, 1) := by decide +kernel
theorem dX6_init_51 : decode cX6_init 51 = .ok (.bipush 12, 2) := by decide +kernel
theorem dX6_init_53 : decode cX6_init 53 = .ok (.newarray .int, 2) := by decide +kernel
theorem dX6_init_55 : decode cX6_init 55 = .ok (.putfield 32, 3) := by decide +kernel
theorem dX6_init_58 : decode cX6_init 58 = .ok (.aload_n 0, 1) := by decide +kernel
theorem dX6_init_59 : decode cX6_init 59 = .ok (.bipush 40, 2) := by decide +kernel
theorem dX6_init_61 : decode cX6_init 61 = .ok (.newarray .int, 2) := by decide +kernel
theorem dX6_init_63 : decode cX6_init 63 = .ok (.putfield 35, 3) := by decide +kernel
theorem dX6_init_66 : decode cX6_init 66 = .ok (.aload_n 0, 1) := by decide +kernel
theorem dX6_init_67 : decode cX6_init 67 = .ok (.iconst 5, 1) := by decide +kernel
theorem dX6_init_68 : decode cX6_init 68 = .ok (.newarray .int, 2) := by decide +kernel
theorem dX6_init_70 : decode cX6_init 70 = .ok (.putfield 38, 3) := by decide +kernel
theorem dX6_init_73 : decode cX6_init 73 = .ok (.aload_n 0, 1) := by decide +kernel
theorem dX6_init_74 : decode cX6_init 74 = .ok (.bipush 40, 2) := by decide +kernel
theorem dX6_init_76 : decode cX6_init 76 = .ok (.newarray .int, 2) := by decide +kernel
theorem dX6_init_78 : decode cX6_init 78 = .ok (.putfield 41, 3) := by decide +kernel
theorem dX6_init_81 : decode cX6_init 81 = .ok (.aload_n 0, 1) := by decide +kernel
theorem dX6_init_82 : decode cX6_init 82 = .ok (.bipush 10, 2) := by decide +kernel
theorem dX6_init_84 : decode cX6_init 84 = .ok (.newarray .int, 2) := by decide +kernel
theorem dX6_init_86 : decode cX6_init 86 = .ok (.putfield 44, 3) := by decide +kernel
theorem dX6_init_89 : decode cX6_init 89 = .ok (.aload_n 0, 1) := by decide +kernel
theorem dX6_init_90 : decode cX6_init 90 = .ok (.bipush 40, 2) := by decide +kernel
theorem dX6_init_92 : decode cX6_init 92 = .ok (.newarray .int, 2) := by decide +kernel
theorem dX6_init_94 : decode cX6_init 94 = .ok (.putfield 47, 3) := by decide +kernel
theorem dX6_init_97 : decode cX6_init 97 = .ok (.aload_n 0, 1) := by decide +kernel
theorem dX6_init_98 : decode cX6_init 98 = .ok (.sipush 136, 3) := by decide +kernel
theorem dX6_init_101 : decode cX6_init 101 = .ok (.newarray .int, 2) := by decide +kernel
theorem dX6_init_103 : decode cX6_init 103 = .ok (.putfield 50, 3) := by decide +kernel
theorem dX6_init_106 : decode cX6_init 106 = .ok (.aload_n 0, 1) := by decide +kernel
theorem dX6_init_107 : decode cX6_init 107 = .ok (.iconst 2, 1) := by decide +kernel
theorem dX6_init_108 : decode cX6_init 108 = .ok (.newarray .boolean, 2) := by decide +kernel
theorem dX6_init_110 : decode cX6_init 110 = .ok (.putfield 53, 3) := by decide +kernel
theorem dX6_init_113 : decode cX6_init 113 = .ok (.aload_n 0, 1) := by decide +kernel
theorem dX6_init_114 : decode cX6_init 114 = .ok (.getfield 17, 3) := by decide +kernel
theorem dX6_init_117 : decode cX6_init 117 = .ok (.iconst 0, 1) := by decide +kernel
theorem dX6_init_118 : decode cX6_init 118 = .ok (.bipush 49, 2) := by decide +kernel
theorem dX6_init_120 : decode cX6_init 120 = .ok (.iastore, 1) := by decide +kernel
theorem dX6_init_121 : decode cX6_init 121 = .ok (.aload_n 0, 1) := by decide +kernel
theorem dX6_init_122 : decode cX6_init 122 = .ok (.getfield 29, 3) := by decide +kernel
theorem dX6_init_125 : decode cX6_init 125 = .ok (.iconst 1, 1) := by decide +kernel
theorem dX6_init_126 : decode cX6_init 126 = .ok (.iconst 1, 1) := by decide +kernel
theorem dX6_init_127 : decode cX6_init 127 = .ok (.iastore, 1) := by decide +kernel
theorem dX6_init_128 : decode cX6_init 128 = .ok (.aload_n 0, 1) := by decide +kernel
theorem dX6_init_129 : decode cX6_init 129 = .ok (.getfield 29, 3) := by decide +kernel
theorem dX6_init_132 : decode cX6_init 132 = .ok (.iconst 2, 1) := by decide +kernel
theorem dX6_init_133 : decode cX6_init 133 = .ok (.iconst 1, 1) := by decide +kernel
theorem dX6_init_134 : decode cX6_init 134 = .ok (.iastore, 1) := by decide +kernel
theorem dX6_init_135 : decode cX6_init 135 = .ok (.aload_n 0, 1) := by decide +kernel
theorem dX6_init_136 : decode cX6_init 136 = .ok (.getfield 29, 3) := by decide +kernel
theorem dX6_init_139 : decode cX6_init 139 = .ok (.iconst 3, 1) := by decide +kernel
theorem dX6_init_140 : decode cX6_init 140 = .ok (.iconst 1, 1) := by decide +kernel
theorem dX6_init_141 : decode cX6_init 141 = .ok (.iastore, 1) := by decide +kernel
theorem dX6_init_142 : decode cX6_init 142 = .ok (.return_, 1) := by decide +kernel
theorem dX6_in_0 : decode cX6_in 0 = .ok (.iload_n 0, 1) := by decide +kernel
theorem dX6_in_1 : decode cX6_in 1 = .ok (.iload_n 1, 1) := by decide +kernel
theorem dX6_in_2 : decode cX6_in 2 = .ok (.if_icmp .lt 12, 3) := by decide +kernel
theorem dX6_in_5 : decode cX6_in 5 = .ok (.iload_n 0, 1) := by decide +kernel
theorem dX6_in_6 : decode cX6_in 6 = .ok (.iload_n 2, 1) := by decide +kernel
theorem dX6_in_7 : decode cX6_in 7 = .ok (.if_icmp .gt 7, 3) := by decide +kernel
theorem dX6_in_10 : decode cX6_in 10 = .ok (.iconst 1, 1) := by decide +kernel
theorem dX6_in_11 : decode cX6_in 11 = .ok (.goto 4, 3) := by decide +kernel
theorem dX6_in_14 : decode cX6_in 14 = .ok (.iconst 0, 1) := by decide +kernel
theorem dX6_in_15 : decode cX6_in 15 = .ok (.ireturn, 1) := by decide +kernel
theorem dX6_isPlace_0 : decode cX6_isPlace 0 = .ok (.iload_n 1, 1) := by decide +kernel
theorem dX6_isPlace_1 : decode cX6_isPlace 1 = .ok (.iconst 0, 1) := by decide +kernel
theorem dX6_isPlace_2 : decode cX6_isPlace 2 = .ok (.aload_n 0, 1) := by decide +kernel
theorem dX6_isPlace_3 : decode cX6_isPlace 3 = .ok (.getfield 13, 3) := by decide +kernel
theorem dX6_isPlace_6 : decode cX6_isPlace 6 = .ok (.iconst 1, 1) := by decide +kernel
theorem dX6_isPlace_7 : decode cX6_isPlace 7 = .ok (.isub, 1) := by decide +kernel
theorem dX6_isPlace_8 : decode cX6_isPlace 8 = .ok (.invokestatic 57, 3) := by decide +kernel
theorem dX6_isPlace_11 : decode cX6_isPlace 11 = .ok (.ireturn, 1) := by decide +kernel
theorem dX6_isCourt_0 : decode cX6_isCourt 0 = .ok (.iload_n 0, 1) := by decide +kernel
theorem dX6_isCourt_1 : decode cX6_isCourt 1 = .ok (.bipush 74, 2) := by decide +kernel
theorem dX6_isCourt_3 : decode cX6_isCourt 3 = .ok (.if_icmp .eq 15, 3) := by decide +kernel
theorem dX6_isCourt_6 : decode cX6_isCourt 6 = .ok (.iload_n 0, 1) := by decide +kernel
theorem dX6_isCourt_7 : decode cX6_isCourt 7 = .ok (.bipush 81, 2) := by decide +kernel
theorem dX6_isCourt_9 : decode cX6_isCourt 9 = .ok (.if_icmp .eq 9, 3) := by decide +kernel
theorem dX6_isCourt_12 : decode cX6_isCourt 12 = .ok (.iload_n 0, 1) := by decide +kernel
theorem dX6_isCourt_13 : decode cX6_isCourt 13 = .ok (.bipush 75, 2) := by decide +kernel
theorem dX6_isCourt_15 : decode cX6_isCourt 15 = .ok (.if_icmp .ne 7, 3) := by decide +kernel
theorem dX6_isCourt_18 : decode cX6_isCourt 18 = .ok (.iconst 1, 1) := by decide +kernel
theorem dX6_isCourt_19 : decode cX6_isCourt 19 = .ok (.goto 4, 3) := by decide +kernel
theorem dX6_isCourt_22 : decode cX6_isCourt 22 = .ok (.iconst 0, 1) := by decide +kernel
theorem dX6_isCourt_23 : decode cX6_isCourt 23 = .ok (.ireturn, 1) := by decide +kernel
theorem dX6_say_0 : decode cX6_say 0 = .ok (.iload_n 1, 1) := by decide +kernel
theorem dX6_say_1 : decode cX6_say 1 = .ok (.bipush 33, 2) := by decide +kernel
theorem dX6_say_3 : decode cX6_say 3 = .ok (.bipush 126, 2) := by decide +kernel
theorem dX6_say_5 : decode cX6_say 5 = .ok (.invokestatic 57, 3) := by decide +kernel
theorem dX6_say_8 : decode cX6_say 8 = .ok (.ifCond .ne 6, 3) := by decide +kernel
theorem dX6_say_11 : decode cX6_say 11 = .ok (.bipush (-2), 2) := by decide +kernel
theorem dX6_say_13 : decode cX6_say 13 = .ok (.ireturn, 1) := by decide +kernel
theorem dX6_say_14 : decode cX6_say 14 = .ok (.aload_n 0, 1) := by decide +kernel
theorem dX6_say_15 : decode cX6_say 15 = .ok (.getfield 61, 3) := by decide +kernel
theorem dX6_say_18 : decode cX6_say 18 = .ok (.bipush 48, 2) := by decide +kernel
theorem dX6_say_20 : decode cX6_say 20 = .ok (.if_icmp .ne 6, 3) := by decide +kernel
theorem dX6_say_23 : decode cX6_say 23 = .ok (.bipush (-4), 2) := by decide +kernel
theorem dX6_say_25 : decode cX6_say 25 = .ok (.ireturn, 1) := by decide +kernel
theorem dX6_say_26 : decode cX6_say 26 = .ok (.aload_n 0, 1) := by decide +kernel
theorem dX6_say_27 : decode cX6_say 27 = .ok (.getfield 7, 3) := by decide +kernel
theorem dX6_say_30 : decode cX6_say 30 = .ok (.aload_n 0, 1) := by decide +kernel
theorem dX6_say_31 : decode cX6_say 31 = .ok (.getfield 61, 3) := by decide +kernel
theorem dX6_say_34 : decode cX6_say 34 = .ok (.iload_n 1, 1) := by decide +kernel
theorem dX6_say_35 : decode cX6_say 35 = .ok (.iastore, 1) := by decide +kernel
theorem dX6_say_36 : decode cX6_say 36 = .ok (.aload_n 0, 1) := by decide +kernel
theorem dX6_say_37 : decode cX6_say 37 = .ok (.dup, 1) := by decide +kernel
theorem dX6_say_38 : decode cX6_say 38 = .ok (.getfield 61, 3) := by decide +kernel
theorem dX6_say_41 : decode cX6_say 41 = .ok (.iconst 1, 1) := by decide +kernel
theorem dX6_say_42 : decode cX6_say 42 = .ok (.iadd, 1) := by decide +kernel
theorem dX6_say_43 : decode cX6_say 43 = .ok (.putfield 61, 3) := by decide +kernel
theorem dX6_say_46 : decode cX6_say 46 = .ok (.aload_n 0, 1) := by decide +kernel
theorem dX6_say_47 : decode cX6_say 47 = .ok (.getfield 61, 3) := by decide +kernel
theorem dX6_say_50 : decode cX6_say 50 = .ok (.ireturn, 1) := by decide +kernel
theorem dX6_wipe_0 : decode cX6_wipe 0 = .ok (.aload_n 0, 1) := by decide +kernel
theorem dX6_wipe_1 : decode cX6_wipe 1 = .ok (.getfield 61, 3) := by decide +kernel
theorem dX6_wipe_4 : decode cX6_wipe 4 = .ok (.istore_n 1, 1) := by decide +kernel
theorem dX6_wipe_5 : decode cX6_wipe 5 = .ok (.aload_n 0, 1) := by decide +kernel
theorem dX6_wipe_6 : decode cX6_wipe 6 = .ok (.iconst 0, 1) := by decide +kernel
theorem dX6_wipe_7 : decode cX6_wipe 7 = .ok (.putfield 61, 3) := by decide +kernel
theorem dX6_wipe_10 : decode cX6_wipe 10 = .ok (.iload_n 1, 1) := by decide +kernel
theorem dX6_wipe_11 : decode cX6_wipe 11 = .ok (.ireturn, 1) := by decide +kernel
theorem dX6_faultOf_0 : decode cX6_faultOf 0 = .ok (.iconst 0, 1) := by decide +kernel
theorem dX6_faultOf_1 : decode cX6_faultOf 1 = .ok (.istore_n 1, 1) := by decide +kernel
theorem dX6_faultOf_2 : decode cX6_faultOf 2 = .ok (.iconst 0, 1) := by decide +kernel
theorem dX6_faultOf_3 : decode cX6_faultOf 3 = .ok (.istore_n 2, 1) := by decide +kernel
theorem dX6_faultOf_4 : decode cX6_faultOf 4 = .ok (.iconst 0, 1) := by decide +kernel
theorem dX6_faultOf_5 : decode cX6_faultOf 5 = .ok (.istore_n 3, 1) := by decide +kernel
theorem dX6_faultOf_6 : decode cX6_faultOf 6 = .ok (.iload_n 3, 1) := by decide +kernel
theorem dX6_faultOf_7 : decode cX6_faultOf 7 = .ok (.aload_n 0, 1) := by decide +kernel
theorem dX6_faultOf_8 : decode cX6_faultOf 8 = .ok (.getfield 61, 3) := by decide +kernel
theorem dX6_faultOf_11 : decode cX6_faultOf 11 = .ok (.if_icmp .ge 125, 3) := by decide +kernel
theorem dX6_faultOf_14 : decode cX6_faultOf 14 = .ok (.aload_n 0, 1) := by decide +kernel
theorem dX6_faultOf_15 : decode cX6_faultOf 15 = .ok (.getfield 7, 3) := by decide +kernel
theorem dX6_faultOf_18 : decode cX6_faultOf 18 = .ok (.iload_n 3, 1) := by decide +kernel
theorem dX6_faultOf_19 : decode cX6_faultOf 19 = .ok (.iaload, 1) := by decide +kernel
theorem dX6_faultOf_20 : decode cX6_faultOf 20 = .ok (.istore 4, 2) := by decide +kernel
theorem dX6_faultOf_22 : decode cX6_faultOf 22 = .ok (.iload_n 1, 1) := by decide +kernel
theorem dX6_faultOf_23 : decode cX6_faultOf 23 = .ok (.iload 4, 2) := by decide +kernel
theorem dX6_faultOf_25 : decode cX6_faultOf 25 = .ok (.bipush 42, 2) := by decide +kernel
theorem dX6_faultOf_27 : decode cX6_faultOf 27 = .ok (.if_icmp .ne 7, 3) := by decide +kernel
theorem dX6_faultOf_30 : decode cX6_faultOf 30 = .ok (.iconst 1, 1) := by decide +kernel
theorem dX6_faultOf_31 : decode cX6_faultOf 31 = .ok (.goto 4, 3) := by decide +kernel
theorem dX6_faultOf_34 : decode cX6_faultOf 34 = .ok (.iconst 0, 1) := by decide +kernel
theorem dX6_faultOf_35 : decode cX6_faultOf 35 = .ok (.iadd, 1) := by decide +kernel
theorem dX6_faultOf_36 : decode cX6_faultOf 36 = .ok (.istore_n 1, 1) := by decide +kernel
theorem dX6_faultOf_37 : decode cX6_faultOf 37 = .ok (.iload_n 2, 1) := by decide +kernel
theorem dX6_faultOf_38 : decode cX6_faultOf 38 = .ok (.iload 4, 2) := by decide +kernel
theorem dX6_faultOf_40 : decode cX6_faultOf 40 = .ok (.bipush 63, 2) := by decide +kernel
theorem dX6_faultOf_42 : decode cX6_faultOf 42 = .ok (.if_icmp .ne 7, 3) := by decide +kernel
theorem dX6_faultOf_45 : decode cX6_faultOf 45 = .ok (.iconst 1, 1) := by decide +kernel
theorem dX6_faultOf_46 : decode cX6_faultOf 46 = .ok (.goto 4, 3) := by decide +kernel
theorem dX6_faultOf_49 : decode cX6_faultOf 49 = .ok (.iconst 0, 1) := by decide +kernel
theorem dX6_faultOf_50 : decode cX6_faultOf 50 = .ok (.iadd, 1) := by decide +kernel
theorem dX6_faultOf_51 : decode cX6_faultOf 51 = .ok (.istore_n 2, 1) := by decide +kernel
theorem dX6_faultOf_52 : decode cX6_faultOf 52 = .ok (.iload 4, 2) := by decide +kernel
theorem dX6_faultOf_54 : decode cX6_faultOf 54 = .ok (.bipush 49, 2) := by decide +kernel
theorem dX6_faultOf_56 : decode cX6_faultOf 56 = .ok (.bipush 57, 2) := by decide +kernel
theorem dX6_faultOf_58 : decode cX6_faultOf 58 = .ok (.invokestatic 57, 3) := by decide +kernel
theorem dX6_faultOf_61 : decode cX6_faultOf 61 = .ok (.ifCond .ne 39, 3) := by decide +kernel
theorem dX6_faultOf_64 : decode cX6_faultOf 64 = .ok (.iload 4, 2) := by decide +kernel
theorem dX6_faultOf_66 : decode cX6_faultOf 66 = .ok (.bipush 84, 2) := by decide +kernel
theorem dX6_faultOf_68 : decode cX6_faultOf 68 = .ok (.if_icmp .eq 32, 3) := by decide +kernel
theorem dX6_faultOf_71 : decode cX6_faultOf 71 = .ok (.iload 4, 2) := by decide +kernel
theorem dX6_faultOf_73 : decode cX6_faultOf 73 = .ok (.bipush 65, 2) := by decide +kernel
theorem dX6_faultOf_75 : decode cX6_faultOf 75 = .ok (.if_icmp .eq 25, 3) := by decide +kernel
theorem dX6_faultOf_78 : decode cX6_faultOf 78 = .ok (.iload 4, 2) := by decide +kernel
theorem dX6_faultOf_80 : decode cX6_faultOf 80 = .ok (.invokestatic 64, 3) := by decide +kernel
theorem dX6_faultOf_83 : decode cX6_faultOf 83 = .ok (.ifCond .ne 17, 3) := by decide +kernel
theorem dX6_faultOf_86 : decode cX6_faultOf 86 = .ok (.iload 4, 2) := by decide +kernel
theorem dX6_faultOf_88 : decode cX6_faultOf 88 = .ok (.bipush 42, 2) := by decide +kernel
theorem dX6_faultOf_90 : decode cX6_faultOf 90 = .ok (.if_icmp .eq 10, 3) := by decide +kernel
theorem dX6_faultOf_93 : decode cX6_faultOf 93 = .ok (.iload 4, 2) := by decide +kernel
theorem dX6_faultOf_95 : decode cX6_faultOf 95 = .ok (.bipush 63, 2) := by decide +kernel
theorem dX6_faultOf_97 : decode cX6_faultOf 97 = .ok (.if_icmp .ne 7, 3) := by decide +kernel
theorem dX6_faultOf_100 : decode cX6_faultOf 100 = .ok (.iconst 1, 1) := by decide +kernel
theorem dX6_faultOf_101 : decode cX6_faultOf 101 = .ok (.goto 4, 3) := by decide +kernel
theorem dX6_faultOf_104 : decode cX6_faultOf 104 = .ok (.iconst 0, 1) := by decide +kernel
theorem dX6_faultOf_105 : decode cX6_faultOf 105 = .ok (.istore 5, 2) := by decide +kernel
theorem dX6_faultOf_107 : decode cX6_faultOf 107 = .ok (.iload 5, 2) := by decide +kernel
theorem dX6_faultOf_109 : decode cX6_faultOf 109 = .ok (.ifCond .eq 19, 3) := by decide +kernel
theorem dX6_faultOf_112 : decode cX6_faultOf 112 = .ok (.iload_n 3, 1) := by decide +kernel
theorem dX6_faultOf_113 : decode cX6_faultOf 113 = .ok (.bipush 40, 2) := by decide +kernel
theorem dX6_faultOf_115 : decode cX6_faultOf 115 = .ok (.if_icmp .eq 13, 3) := by decide +kernel
theorem dX6_faultOf_118 : decode cX6_faultOf 118 = .ok (.iload_n 1, 1) := by decide +kernel
theorem dX6_faultOf_119 : decode cX6_faultOf 119 = .ok (.iconst 4, 1) := by decide +kernel
theorem dX6_faultOf_120 : decode cX6_faultOf 120 = .ok (.if_icmp .gt 8, 3) := by decide +kernel
theorem dX6_faultOf_123 : decode cX6_faultOf 123 = .ok (.iload_n 2, 1) := by decide +kernel
theorem dX6_faultOf_124 : decode cX6_faultOf 124 = .ok (.iconst 5, 1) := by decide +kernel
theorem dX6_faultOf_125 : decode cX6_faultOf 125 = .ok (.if_icmp .le 5, 3) := by decide +kernel
theorem dX6_faultOf_128 : decode cX6_faultOf 128 = .ok (.iload_n 3, 1) := by decide +kernel
theorem dX6_faultOf_129 : decode cX6_faultOf 129 = .ok (.ireturn, 1) := by decide +kernel
theorem dX6_faultOf_130 : decode cX6_faultOf 130 = .ok (.iinc 3 1, 3) := by decide +kernel
theorem dX6_faultOf_133 : decode cX6_faultOf 133 = .ok (.goto (-127), 3) := by decide +kernel
theorem dX6_faultOf_136 : decode cX6_faultOf 136 = .ok (.aload_n 0, 1) := by decide +kernel
theorem dX6_faultOf_137 : decode cX6_faultOf 137 = .ok (.getfield 61, 3) := by decide +kernel
theorem dX6_faultOf_140 : decode cX6_faultOf 140 = .ok (.ifCond .ne 7, 3) := by decide +kernel
theorem dX6_faultOf_143 : decode cX6_faultOf 143 = .ok (.iconst 0, 1) := by decide +kernel
theorem dX6_faultOf_144 : decode cX6_faultOf 144 = .ok (.goto 5, 3) := by decide +kernel
theorem dX6_faultOf_147 : decode cX6_faultOf 147 = .ok (.bipush (-6), 2) := by decide +kernel
theorem dX6_faultOf_149 : decode cX6_faultOf 149 = .ok (.ireturn, 1) := by decide +kernel
theorem dX6_fault_0 : decode cX6_fault 0 = .ok (.aload_n 0, 1) := by decide +kernel
theorem dX6_fault_1 : decode cX6_fault 1 = .ok (.invokevirtual 68, 3) := by decide +kernel
theorem dX6_fault_4 : decode cX6_fault 4 = .ok (.ireturn, 1) := by decide +kernel
theorem dX6_page_0 : decode cX6_page 0 = .ok (.aload_n 0, 1) := by decide +kernel
theorem dX6_page_1 : decode cX6_page 1 = .ok (.invokevirtual 68, 3) := by decide +kernel
theorem dX6_page_4 : decode cX6_page 4 = .ok (.ifCond .lt 6, 3) := by decide +kernel
theorem dX6_page_7 : decode cX6_page 7 = .ok (.bipush (-5), 2) := by decide +kernel
theorem dX6_page_9 : decode cX6_page 9 = .ok (.ireturn, 1) := by decide +kernel
theorem dX6_page_10 : decode cX6_page 10 = .ok (.aload_n 0, 1) := by decide +kernel
theorem dX6_page_11 : decode cX6_page 11 = .ok (.aload_n 0, 1) := by decide +kernel
theorem dX6_page_12 : decode cX6_page 12 = .ok (.getfield 61, 3) := by decide +kernel
theorem dX6_page_15 : decode cX6_page 15 = .ok (.putfield 13, 3) := by decide +kernel
theorem dX6_page_18 : decode cX6_page 18 = .ok (.iconst 0, 1) := by decide +kernel
theorem dX6_page_19 : decode cX6_page 19 = .ok (.istore_n 1, 1) := by decide +kernel
theorem dX6_page_20 : decode cX6_page 20 = .ok (.iload_n 1, 1) := by decide +kernel
theorem dX6_page_21 : decode cX6_page 21 = .ok (.aload_n 0, 1) := by decide +kernel
theorem dX6_page_22 : decode cX6_page 22 = .ok (.getfield 61, 3) := by decide +kernel
theorem dX6_page_25 : decode cX6_page 25 = .ok (.if_icmp .ge 21, 3) := by decide +kernel
theorem dX6_page_28 : decode cX6_page 28 = .ok (.aload_n 0, 1) := by decide +kernel
theorem dX6_page_29 : decode cX6_page 29 = .ok (.getfield 17, 3) := by decide +kernel
theorem dX6_page_32 : decode cX6_page 32 = .ok (.iload_n 1, 1) := by decide +kernel
theorem dX6_page_33 : decode cX6_page 33 = .ok (.aload_n 0, 1) := by decide +kernel
theorem dX6_page_34 : decode cX6_page 34 = .ok (.getfield 7, 3) := by decide +kernel
theorem dX6_page_37 : decode cX6_page 37 = .ok (.iload_n 1, 1) := by decide +kernel
theorem dX6_page_38 : decode cX6_page 38 = .ok (.iaload, 1) := by decide +kernel
theorem dX6_page_39 : decode cX6_page 39 = .ok (.iastore, 1) := by decide +kernel
theorem dX6_page_40 : decode cX6_page 40 = .ok (.iinc 1 1, 3) := by decide +kernel
theorem dX6_page_43 : decode cX6_page 43 = .ok (.goto (-23), 3) := by decide +kernel
theorem dX6_page_46 : decode cX6_page 46 = .ok (.aload_n 0, 1) := by decide +kernel
theorem dX6_page_47 : decode cX6_page 47 = .ok (.iconst 0, 1) := by decide +kernel
theorem dX6_page_48 : decode cX6_page 48 = .ok (.putfield 61, 3) := by decide +kernel
theorem dX6_page_51 : decode cX6_page 51 = .ok (.aload_n 0, 1) := by decide +kernel
theorem dX6_page_52 : decode cX6_page 52 = .ok (.iconst 0, 1) := by decide +kernel
theorem dX6_page_53 : decode cX6_page 53 = .ok (.putfield 72, 3) := by decide +kernel
theorem dX6_page_56 : decode cX6_page 56 = .ok (.aload_n 0, 1) := by decide +kernel
theorem dX6_page_57 : decode cX6_page 57 = .ok (.iconst 1, 1) := by decide +kernel
theorem dX6_page_58 : decode cX6_page 58 = .ok (.putfield 20, 3) := by decide +kernel
theorem dX6_page_61 : decode cX6_page 61 = .ok (.aload_n 0, 1) := by decide +kernel
theorem dX6_page_62 : decode cX6_page 62 = .ok (.getfield 13, 3) := by decide +kernel
theorem dX6_page_65 : decode cX6_page 65 = .ok (.ireturn, 1) := by decide +kernel
theorem dX6_begin_0 : decode cX6_begin 0 = .ok (.iload_n 1, 1) := by decide +kernel
theorem dX6_begin_1 : decode cX6_begin 1 = .ok (.iconst 1, 1) := by decide +kernel
theorem dX6_begin_2 : decode cX6_begin 2 = .ok (.aload_n 0, 1) := by decide +kernel
theorem dX6_begin_3 : decode cX6_begin 3 = .ok (.getfield 13, 3) := by decide +kernel
theorem dX6_begin_6 : decode cX6_begin 6 = .ok (.bipush 10, 2) := by decide +kernel
theorem dX6_begin_8 : decode cX6_begin 8 = .ok (.if_icmp .ge 10, 3) := by decide +kernel
theorem dX6_begin_11 : decode cX6_begin 11 = .ok (.aload_n 0, 1) := by decide +kernel
theorem dX6_begin_12 : decode cX6_begin 12 = .ok (.getfield 13, 3) := by decide +kernel
theorem dX6_begin_15 : decode cX6_begin 15 = .ok (.goto 5, 3) := by decide +kernel
theorem dX6_begin_18 : decode cX6_begin 18 = .ok (.bipush 10, 2) := by decide +kernel
theorem dX6_begin_20 : decode cX6_begin 20 = .ok (.invokestatic 57, 3) := by decide +kernel
theorem dX6_begin_23 : decode cX6_begin 23 = .ok (.ifCond .ne 6, 3) := by decide +kernel
theorem dX6_begin_26 : decode cX6_begin 26 = .ok (.bipush (-2), 2) := by decide +kernel
theorem dX6_begin_28 : decode cX6_begin 28 = .ok (.ireturn, 1) := by decide +kernel
theorem dX6_begin_29 : decode cX6_begin 29 = .ok (.aload_n 0, 1) := by decide +kernel
theorem dX6_begin_30 : decode cX6_begin 30 = .ok (.getfield 20, 3) := by decide +kernel
theorem dX6_begin_33 : decode cX6_begin 33 = .ok (.istore_n 2, 1) := by decide +kernel
theorem dX6_begin_34 : decode cX6_begin 34 = .ok (.aload_n 0, 1) := by decide +kernel
theorem dX6_begin_35 : decode cX6_begin 35 = .ok (.iload_n 1, 1) := by decide +kernel
theorem dX6_begin_36 : decode cX6_begin 36 = .ok (.putfield 20, 3) := by decide +kernel
theorem dX6_begin_39 : decode cX6_begin 39 = .ok (.iload_n 2, 1) := by decide +kernel
theorem dX6_begin_40 : decode cX6_begin 40 = .ok (.ireturn, 1) := by decide +kernel
theorem dX6_court_0 : decode cX6_court 0 = .ok (.iload_n 1, 1) := by decide +kernel
theorem dX6_court_1 : decode cX6_court 1 = .ok (.iconst 1, 1) := by decide +kernel
theorem dX6_court_2 : decode cX6_court 2 = .ok (.bipush 10, 2) := by decide +kernel
theorem dX6_court_4 : decode cX6_court 4 = .ok (.invokestatic 57, 3) := by decide +kernel
theorem dX6_court_7 : decode cX6_court 7 = .ok (.ifCond .ne 6, 3) := by decide +kernel
theorem dX6_court_10 : decode cX6_court 10 = .ok (.bipush (-2), 2) := by decide +kernel
theorem dX6_court_12 : decode cX6_court 12 = .ok (.ireturn, 1) := by decide +kernel
theorem dX6_court_13 : decode cX6_court 13 = .ok (.aload_n 0, 1) := by decide +kernel
theorem dX6_court_14 : decode cX6_court 14 = .ok (.getfield 23, 3) := by decide +kernel
theorem dX6_court_17 : decode cX6_court 17 = .ok (.istore_n 2, 1) := by decide +kernel
theorem dX6_court_18 : decode cX6_court 18 = .ok (.aload_n 0, 1) := by decide +kernel
theorem dX6_court_19 : decode cX6_court 19 = .ok (.iload_n 1, 1) := by decide +kernel
theorem dX6_court_20 : decode cX6_court 20 = .ok (.putfield 23, 3) := by decide +kernel
theorem dX6_court_23 : decode cX6_court 23 = .ok (.iload_n 2, 1) := by decide +kernel
theorem dX6_court_24 : decode cX6_court 24 = .ok (.ireturn, 1) := by decide +kernel
theorem dX6_allow_0 : decode cX6_allow 0 = .ok (.iload_n 1, 1) := by decide +kernel
theorem dX6_allow_1 : decode cX6_allow 1 = .ok (.ifCond .eq 11, 3) := by decide +kernel
theorem dX6_allow_4 : decode cX6_allow 4 = .ok (.iload_n 1, 1) := by decide +kernel
theorem dX6_allow_5 : decode cX6_allow 5 = .ok (.sipush (-2047), 3) := by decide +kernel
theorem dX6_allow_8 : decode cX6_allow 8 = .ok (.iand, 1) := by decide +kernel
theorem dX6_allow_9 : decode cX6_allow 9 = .ok (.ifCond .eq 6, 3) := by decide +kernel
theorem dX6_allow_12 : decode cX6_allow 12 = .ok (.bipush (-2), 2) := by decide +kernel
theorem dX6_allow_14 : decode cX6_allow 14 = .ok (.ireturn, 1) := by decide +kernel
theorem dX6_allow_15 : decode cX6_allow 15 = .ok (.aload_n 0, 1) := by decide +kernel
theorem dX6_allow_16 : decode cX6_allow 16 = .ok (.getfield 26, 3) := by decide +kernel
theorem dX6_allow_19 : decode cX6_allow 19 = .ok (.istore_n 2, 1) := by decide +kernel
theorem dX6_allow_20 : decode cX6_allow 20 = .ok (.aload_n 0, 1) := by decide +kernel
theorem dX6_allow_21 : decode cX6_allow 21 = .ok (.iload_n 1, 1) := by decide +kernel
theorem dX6_allow_22 : decode cX6_allow 22 = .ok (.putfield 26, 3) := by decide +kernel
theorem dX6_allow_25 : decode cX6_allow 25 = .ok (.iload_n 2, 1) := by decide +kernel
theorem dX6_allow_26 : decode cX6_allow 26 = .ok (.ireturn, 1) := by decide +kernel
theorem dX6_allWeights_0 : decode cX6_allWeights 0 = .ok (.iconst 0, 1) := by decide +kernel
theorem dX6_allWeights_1 : decode cX6_allWeights 1 = .ok (.istore_n 1, 1) := by decide +kernel
theorem dX6_allWeights_2 : decode cX6_allWeights 2 = .ok (.iconst 1, 1) := by decide +kernel
theorem dX6_allWeights_3 : decode cX6_allWeights 3 = .ok (.istore_n 2, 1) := by decide +kernel
theorem dX6_allWeights_4 : decode cX6_allWeights 4 = .ok (.iload_n 2, 1) := by decide +kernel
theorem dX6_allWeights_5 : decode cX6_allWeights 5 = .ok (.bipush 10, 2) := by decide +kernel
theorem dX6_allWeights_7 : decode cX6_allWeights 7 = .ok (.if_icmp .gt 18, 3) := by decide +kernel
theorem dX6_allWeights_10 : decode cX6_allWeights 10 = .ok (.iload_n 1, 1) := by decide +kernel
theorem dX6_allWeights_11 : decode cX6_allWeights 11 = .ok (.aload_n 0, 1) := by decide +kernel
theorem dX6_allWeights_12 : decode cX6_allWeights 12 = .ok (.getfield 29, 3) := by decide +kernel
theorem dX6_allWeights_15 : decode cX6_allWeights 15 = .ok (.iload_n 2, 1) := by decide +kernel
theorem dX6_allWeights_16 : decode cX6_allWeights 16 = .ok (.iaload, 1) := by decide +kernel
theorem dX6_allWeights_17 : decode cX6_allWeights 17 = .ok (.iadd, 1) := by decide +kernel
theorem dX6_allWeights_18 : decode cX6_allWeights 18 = .ok (.istore_n 1, 1) := by decide +kernel
theorem dX6_allWeights_19 : decode cX6_allWeights 19 = .ok (.iinc 2 1, 3) := by decide +kernel
theorem dX6_allWeights_22 : decode cX6_allWeights 22 = .ok (.goto (-18), 3) := by decide +kernel
theorem dX6_allWeights_25 : decode cX6_allWeights 25 = .ok (.iload_n 1, 1) := by decide +kernel
theorem dX6_allWeights_26 : decode cX6_allWeights 26 = .ok (.ireturn, 1) := by decide +kernel
theorem dX6_weight_0 : decode cX6_weight 0 = .ok (.iload_n 1, 1) := by decide +kernel
theorem dX6_weight_1 : decode cX6_weight 1 = .ok (.iconst 1, 1) := by decide +kernel
theorem dX6_weight_2 : decode cX6_weight 2 = .ok (.bipush 10, 2) := by decide +kernel
theorem dX6_weight_4 : decode cX6_weight 4 = .ok (.invokestatic 57, 3) := by decide +kernel
theorem dX6_weight_7 : decode cX6_weight 7 = .ok (.ifCond .ne 5, 3) := by decide +kernel
theorem dX6_weight_10 : decode cX6_weight 10 = .ok (.iconst (-1), 1) := by decide +kernel
theorem dX6_weight_11 : decode cX6_weight 11 = .ok (.ireturn, 1) := by decide +kernel
theorem dX6_weight_12 : decode cX6_weight 12 = .ok (.iload_n 2, 1) := by decide +kernel
theorem dX6_weight_13 : decode cX6_weight 13 = .ok (.iconst 0, 1) := by decide +kernel
theorem dX6_weight_14 : decode cX6_weight 14 = .ok (.bipush 9, 2) := by decide +kernel
theorem dX6_weight_16 : decode cX6_weight 16 = .ok (.invokestatic 57, 3) := by decide +kernel
theorem dX6_weight_19 : decode cX6_weight 19 = .ok (.ifCond .eq 25, 3) := by decide +kernel
theorem dX6_weight_22 : decode cX6_weight 22 = .ok (.aload_n 0, 1) := by decide +kernel
theorem dX6_weight_23 : decode cX6_weight 23 = .ok (.invokevirtual 75, 3) := by decide +kernel
theorem dX6_weight_26 : decode cX6_weight 26 = .ok (.aload_n 0, 1) := by decide +kernel
theorem dX6_weight_27 : decode cX6_weight 27 = .ok (.getfield 29, 3) := by decide +kernel
theorem dX6_weight_30 : decode cX6_weight 30 = .ok (.iload_n 1, 1) := by decide +kernel
theorem dX6_weight_31 : decode cX6_weight 31 = .ok (.iaload, 1) := by decide +kernel
theorem dX6_weight_32 : decode cX6_weight 32 = .ok (.isub, 1) := by decide +kernel
theorem dX6_weight_33 : decode cX6_weight 33 = .ok (.iload_n 2, 1) := by decide +kernel
theorem dX6_weight_34 : decode cX6_weight 34 = .ok (.iadd, 1) := by decide +kernel
theorem dX6_weight_35 : decode cX6_weight 35 = .ok (.iconst 1, 1) := by decide +kernel
theorem dX6_weight_36 : decode cX6_weight 36 = .ok (.bipush 12, 2) := by decide +kernel
theorem dX6_weight_38 : decode cX6_weight 38 = .ok (.invokestatic 57, 3) := by decide +kernel
theorem dX6_weight_41 : decode cX6_weight 41 = .ok (.ifCond .ne 6, 3) := by decide +kernel
theorem dX6_weight_44 : decode cX6_weight 44 = .ok (.bipush (-2), 2) := by decide +kernel
theorem dX6_weight_46 : decode cX6_weight 46 = .ok (.ireturn, 1) := by decide +kernel
theorem dX6_weight_47 : decode cX6_weight 47 = .ok (.aload_n 0, 1) := by decide +kernel
theorem dX6_weight_48 : decode cX6_weight 48 = .ok (.getfield 29, 3) := by decide +kernel
theorem dX6_weight_51 : decode cX6_weight 51 = .ok (.iload_n 1, 1) := by decide +kernel
theorem dX6_weight_52 : decode cX6_weight 52 = .ok (.iaload, 1) := by decide +kernel
theorem dX6_weight_53 : decode cX6_weight 53 = .ok (.istore_n 3, 1) := by decide +kernel
theorem dX6_weight_54 : decode cX6_weight 54 = .ok (.aload_n 0, 1) := by decide +kernel
theorem dX6_weight_55 : decode cX6_weight 55 = .ok (.getfield 29, 3) := by decide +kernel
theorem dX6_weight_58 : decode cX6_weight 58 = .ok (.iload_n 1, 1) := by decide +kernel
theorem dX6_weight_59 : decode cX6_weight 59 = .ok (.iload_n 2, 1) := by decide +kernel
theorem dX6_weight_60 : decode cX6_weight 60 = .ok (.iastore, 1) := by decide +kernel
theorem dX6_weight_61 : decode cX6_weight 61 = .ok (.iload_n 3, 1) := by decide +kernel
theorem dX6_weight_62 : decode cX6_weight 62 = .ok (.ireturn, 1) := by decide +kernel
theorem dX6_countOf_0 : decode cX6_countOf 0 = .ok (.iload_n 0, 1) := by decide +kernel
theorem dX6_countOf_1 : decode cX6_countOf 1 = .ok (.bipush 49, 2) := by decide +kernel
theorem dX6_countOf_3 : decode cX6_countOf 3 = .ok (.bipush 57, 2) := by decide +kernel
theorem dX6_countOf_5 : decode cX6_countOf 5 = .ok (.invokestatic 57, 3) := by decide +kernel
theorem dX6_countOf_8 : decode cX6_countOf 8 = .ok (.ifCond .eq 10, 3) := by decide +kernel
theorem dX6_countOf_11 : decode cX6_countOf 11 = .ok (.iload_n 0, 1) := by decide +kernel
theorem dX6_countOf_12 : decode cX6_countOf 12 = .ok (.bipush 48, 2) := by decide +kernel
theorem dX6_countOf_14 : decode cX6_countOf 14 = .ok (.isub, 1) := by decide +kernel
theorem dX6_countOf_15 : decode cX6_countOf 15 = .ok (.goto 36, 3) := by decide +kernel
theorem dX6_countOf_18 : decode cX6_countOf 18 = .ok (.iload_n 0, 1) := by decide +kernel
theorem dX6_countOf_19 : decode cX6_countOf 19 = .ok (.bipush 84, 2) := by decide +kernel
theorem dX6_countOf_21 : decode cX6_countOf 21 = .ok (.if_icmp .ne 8, 3) := by decide +kernel
theorem dX6_countOf_24 : decode cX6_countOf 24 = .ok (.bipush 10, 2) := by decide +kernel
theorem dX6_countOf_26 : decode cX6_countOf 26 = .ok (.goto 25, 3) := by decide +kernel
theorem dX6_countOf_29 : decode cX6_countOf 29 = .ok (.iload_n 0, 1) := by decide +kernel
theorem dX6_countOf_30 : decode cX6_countOf 30 = .ok (.bipush 65, 2) := by decide +kernel
theorem dX6_countOf_32 : decode cX6_countOf 32 = .ok (.if_icmp .ne 7, 3) := by decide +kernel
theorem dX6_countOf_35 : decode cX6_countOf 35 = .ok (.iconst 1, 1) := by decide +kernel
theorem dX6_countOf_36 : decode cX6_countOf 36 = .ok (.goto 15, 3) := by decide +kernel
theorem dX6_countOf_39 : decode cX6_countOf 39 = .ok (.iload_n 0, 1) := by decide +kernel
theorem dX6_countOf_40 : decode cX6_countOf 40 = .ok (.invokestatic 64, 3) := by decide +kernel
theorem dX6_countOf_43 : decode cX6_countOf 43 = .ok (.ifCond .eq 7, 3) := by decide +kernel
theorem dX6_countOf_46 : decode cX6_countOf 46 = .ok (.iload_n 1, 1) := by decide +kernel
theorem dX6_countOf_47 : decode cX6_countOf 47 = .ok (.goto 4, 3) := by decide +kernel
theorem dX6_countOf_50 : decode cX6_countOf 50 = .ok (.iconst 0, 1) := by decide +kernel
theorem dX6_countOf_51 : decode cX6_countOf 51 = .ok (.ireturn, 1) := by decide +kernel
theorem dX6_place_0 : decode cX6_place 0 = .ok (.aload_n 0, 1) := by decide +kernel
theorem dX6_place_1 : decode cX6_place 1 = .ok (.iload_n 1, 1) := by decide +kernel
theorem dX6_place_2 : decode cX6_place 2 = .ok (.invokevirtual 78, 3) := by decide +kernel
theorem dX6_place_5 : decode cX6_place 5 = .ok (.ifCond .ne 5, 3) := by decide +kernel
theorem dX6_place_8 : decode cX6_place 8 = .ok (.iconst (-1), 1) := by decide +kernel
theorem dX6_place_9 : decode cX6_place 9 = .ok (.ireturn, 1) := by decide +kernel
theorem dX6_place_10 : decode cX6_place 10 = .ok (.aload_n 0, 1) := by decide +kernel
theorem dX6_place_11 : decode cX6_place 11 = .ok (.getfield 17, 3) := by decide +kernel
theorem dX6_place_14 : decode cX6_place 14 = .ok (.iload_n 1, 1) := by decide +kernel
theorem dX6_place_15 : decode cX6_place 15 = .ok (.iaload, 1) := by decide +kernel
theorem dX6_place_16 : decode cX6_place 16 = .ok (.aload_n 0, 1) := by decide +kernel
theorem dX6_place_17 : decode cX6_place 17 = .ok (.getfield 23, 3) := by decide +kernel
theorem dX6_place_20 : decode cX6_place 20 = .ok (.invokestatic 81, 3) := by decide +kernel
theorem dX6_place_23 : decode cX6_place 23 = .ok (.istore_n 3, 1) := by decide +kernel
theorem dX6_place_24 : decode cX6_place 24 = .ok (.iload_n 2, 1) := by decide +kernel
theorem dX6_place_25 : decode cX6_place 25 = .ok (.ifCond .ne 12, 3) := by decide +kernel
theorem dX6_place_28 : decode cX6_place 28 = .ok (.aload_n 0, 1) := by decide +kernel
theorem dX6_place_29 : decode cX6_place 29 = .ok (.getfield 17, 3) := by decide +kernel
theorem dX6_place_32 : decode cX6_place 32 = .ok (.iload_n 1, 1) := by decide +kernel
theorem dX6_place_33 : decode cX6_place 33 = .ok (.iaload, 1) := by decide +kernel
theorem dX6_place_34 : decode cX6_place 34 = .ok (.goto 23, 3) := by decide +kernel
theorem dX6_place_37 : decode cX6_place 37 = .ok (.iload_n 2, 1) := by decide +kernel
theorem dX6_place_38 : decode cX6_place 38 = .ok (.iconst 1, 1) := by decide +kernel
theorem dX6_place_39 : decode cX6_place 39 = .ok (.if_icmp .ne 16, 3) := by decide +kernel
theorem dX6_place_42 : decode cX6_place 42 = .ok (.iload_n 3, 1) := by decide +kernel
theorem dX6_place_43 : decode cX6_place 43 = .ok (.ifCond .ne 8, 3) := by decide +kernel
theorem dX6_place_46 : decode cX6_place 46 = .ok (.bipush (-6), 2) := by decide +kernel
theorem dX6_place_48 : decode cX6_place 48 = .ok (.goto 9, 3) := by decide +kernel
theorem dX6_place_51 : decode cX6_place 51 = .ok (.iload_n 3, 1) := by decide +kernel
theorem dX6_place_52 : decode cX6_place 52 = .ok (.goto 5, 3) := by decide +kernel
theorem dX6_place_55 : decode cX6_place 55 = .ok (.bipush (-2), 2) := by decide +kernel
theorem dX6_place_57 : decode cX6_place 57 = .ok (.ireturn, 1) := by decide +kernel
theorem dX6_many_0 : decode cX6_many 0 = .ok (.iconst 0, 1) := by decide +kernel
theorem dX6_many_1 : decode cX6_many 1 = .ok (.istore_n 2, 1) := by decide +kernel
theorem dX6_many_2 : decode cX6_many 2 = .ok (.iconst 0, 1) := by decide +kernel
theorem dX6_many_3 : decode cX6_many 3 = .ok (.istore_n 3, 1) := by decide +kernel
theorem dX6_many_4 : decode cX6_many 4 = .ok (.iload_n 3, 1) := by decide +kernel
theorem dX6_many_5 : decode cX6_many 5 = .ok (.aload_n 0, 1) := by decide +kernel
theorem dX6_many_6 : decode cX6_many 6 = .ok (.getfield 13, 3) := by decide +kernel
theorem dX6_many_9 : decode cX6_many 9 = .ok (.if_icmp .ge 27, 3) := by decide +kernel
theorem dX6_many_12 : decode cX6_many 12 = .ok (.iload_n 2, 1) := by decide +kernel
theorem dX6_many_13 : decode cX6_many 13 = .ok (.aload_n 0, 1) := by decide +kernel
theorem dX6_many_14 : decode cX6_many 14 = .ok (.getfield 17, 3) := by decide +kernel
theorem dX6_many_17 : decode cX6_many 17 = .ok (.iload_n 3, 1) := by decide +kernel
theorem dX6_many_18 : decode cX6_many 18 = .ok (.iaload, 1) := by decide +kernel
theorem dX6_many_19 : decode cX6_many 19 = .ok (.iload_n 1, 1) := by decide +kernel
theorem dX6_many_20 : decode cX6_many 20 = .ok (.if_icmp .ne 7, 3) := by decide +kernel
theorem dX6_many_23 : decode cX6_many 23 = .ok (.iconst 1, 1) := by decide +kernel
theorem dX6_many_24 : decode cX6_many 24 = .ok (.goto 4, 3) := by decide +kernel
theorem dX6_many_27 : decode cX6_many 27 = .ok (.iconst 0, 1) := by decide +kernel
theorem dX6_many_28 : decode cX6_many 28 = .ok (.iadd, 1) := by decide +kernel
theorem dX6_many_29 : decode cX6_many 29 = .ok (.istore_n 2, 1) := by decide +kernel
theorem dX6_many_30 : decode cX6_many 30 = .ok (.iinc 3 1, 3) := by decide +kernel
theorem dX6_many_33 : decode cX6_many 33 = .ok (.goto (-29), 3) := by decide +kernel
theorem dX6_many_36 : decode cX6_many 36 = .ok (.iload_n 2, 1) := by decide +kernel
theorem dX6_many_37 : decode cX6_many 37 = .ok (.ireturn, 1) := by decide +kernel
theorem dX6_isWhole_0 : decode cX6_isWhole 0 = .ok (.aload_n 0, 1) := by decide +kernel
theorem dX6_isWhole_1 : decode cX6_isWhole 1 = .ok (.bipush 42, 2) := by decide +kernel
theorem dX6_isWhole_3 : decode cX6_isWhole 3 = .ok (.invokevirtual 85, 3) := by decide +kernel
theorem dX6_isWhole_6 : decode cX6_isWhole 6 = .ok (.ifCond .ne 16, 3) := by decide +kernel
theorem dX6_isWhole_9 : decode cX6_isWhole 9 = .ok (.aload_n 0, 1) := by decide +kernel
theorem dX6_isWhole_10 : decode cX6_isWhole 10 = .ok (.bipush 63, 2) := by decide +kernel
theorem dX6_isWhole_12 : decode cX6_isWhole 12 = .ok (.invokevirtual 85, 3) := by decide +kernel
theorem dX6_isWhole_15 : decode cX6_isWhole 15 = .ok (.ifCond .ne 7, 3) := by decide +kernel
theorem dX6_isWhole_18 : decode cX6_isWhole 18 = .ok (.iconst 1, 1) := by decide +kernel
theorem dX6_isWhole_19 : decode cX6_isWhole 19 = .ok (.goto 4, 3) := by decide +kernel
theorem dX6_isWhole_22 : decode cX6_isWhole 22 = .ok (.iconst 0, 1) := by decide +kernel
theorem dX6_isWhole_23 : decode cX6_isWhole 23 = .ok (.ireturn, 1) := by decide +kernel
theorem dX6_lay_0 : decode cX6_lay 0 = .ok (.aload_n 0, 1) := by decide +kernel
theorem dX6_lay_1 : decode cX6_lay 1 = .ok (.iconst 0, 1) := by decide +kernel
theorem dX6_lay_2 : decode cX6_lay 2 = .ok (.putfield 89, 3) := by decide +kernel
theorem dX6_lay_5 : decode cX6_lay 5 = .ok (.iconst 0, 1) := by decide +kernel
theorem dX6_lay_6 : decode cX6_lay 6 = .ok (.istore_n 2, 1) := by decide +kernel
theorem dX6_lay_7 : decode cX6_lay 7 = .ok (.iload_n 2, 1) := by decide +kernel
theorem dX6_lay_8 : decode cX6_lay 8 = .ok (.aload_n 0, 1) := by decide +kernel
theorem dX6_lay_9 : decode cX6_lay 9 = .ok (.getfield 13, 3) := by decide +kernel
theorem dX6_lay_12 : decode cX6_lay 12 = .ok (.if_icmp .ge 54, 3) := by decide +kernel
theorem dX6_lay_15 : decode cX6_lay 15 = .ok (.aload_n 0, 1) := by decide +kernel
theorem dX6_lay_16 : decode cX6_lay 16 = .ok (.getfield 35, 3) := by decide +kernel
theorem dX6_lay_19 : decode cX6_lay 19 = .ok (.iload_n 2, 1) := by decide +kernel
theorem dX6_lay_20 : decode cX6_lay 20 = .ok (.aload_n 0, 1) := by decide +kernel
theorem dX6_lay_21 : decode cX6_lay 21 = .ok (.getfield 17, 3) := by decide +kernel
theorem dX6_lay_24 : decode cX6_lay 24 = .ok (.iload_n 2, 1) := by decide +kernel
theorem dX6_lay_25 : decode cX6_lay 25 = .ok (.iaload, 1) := by decide +kernel
theorem dX6_lay_26 : decode cX6_lay 26 = .ok (.iload_n 1, 1) := by decide +kernel
theorem dX6_lay_27 : decode cX6_lay 27 = .ok (.invokestatic 81, 3) := by decide +kernel
theorem dX6_lay_30 : decode cX6_lay 30 = .ok (.iastore, 1) := by decide +kernel
theorem dX6_lay_31 : decode cX6_lay 31 = .ok (.aload_n 0, 1) := by decide +kernel
theorem dX6_lay_32 : decode cX6_lay 32 = .ok (.getfield 35, 3) := by decide +kernel
theorem dX6_lay_35 : decode cX6_lay 35 = .ok (.iload_n 2, 1) := by decide +kernel
theorem dX6_lay_36 : decode cX6_lay 36 = .ok (.iaload, 1) := by decide +kernel
theorem dX6_lay_37 : decode cX6_lay 37 = .ok (.ifCond .ne 23, 3) := by decide +kernel
theorem dX6_lay_40 : decode cX6_lay 40 = .ok (.aload_n 0, 1) := by decide +kernel
theorem dX6_lay_41 : decode cX6_lay 41 = .ok (.getfield 38, 3) := by decide +kernel
theorem dX6_lay_44 : decode cX6_lay 44 = .ok (.aload_n 0, 1) := by decide +kernel
theorem dX6_lay_45 : decode cX6_lay 45 = .ok (.getfield 89, 3) := by decide +kernel
theorem dX6_lay_48 : decode cX6_lay 48 = .ok (.iload_n 2, 1) := by decide +kernel
theorem dX6_lay_49 : decode cX6_lay 49 = .ok (.iastore, 1) := by decide +kernel
theorem dX6_lay_50 : decode cX6_lay 50 = .ok (.aload_n 0, 1) := by decide +kernel
theorem dX6_lay_51 : decode cX6_lay 51 = .ok (.dup, 1) := by decide +kernel
theorem dX6_lay_52 : decode cX6_lay 52 = .ok (.getfield 89, 3) := by decide +kernel
theorem dX6_lay_55 : decode cX6_lay 55 = .ok (.iconst 1, 1) := by decide +kernel
theorem dX6_lay_56 : decode cX6_lay 56 = .ok (.iadd, 1) := by decide +kernel
theorem dX6_lay_57 : decode cX6_lay 57 = .ok (.putfield 89, 3) := by decide +kernel
theorem dX6_lay_60 : decode cX6_lay 60 = .ok (.iinc 2 1, 3) := by decide +kernel
theorem dX6_lay_63 : decode cX6_lay 63 = .ok (.goto (-56), 3) := by decide +kernel
theorem dX6_lay_66 : decode cX6_lay 66 = .ok (.return_, 1) := by decide +kernel
theorem dX6_outOf_0 : decode cX6_outOf 0 = .ok (.iload_n 1, 1) := by decide +kernel
theorem dX6_outOf_1 : decode cX6_outOf 1 = .ok (.istore_n 2, 1) := by decide +kernel
theorem dX6_outOf_2 : decode cX6_outOf 2 = .ok (.iload_n 2, 1) := by decide +kernel
theorem dX6_outOf_3 : decode cX6_outOf 3 = .ok (.aload_n 0, 1) := by decide +kernel
theorem dX6_outOf_4 : decode cX6_outOf 4 = .ok (.getfield 35, 3) := by decide +kernel
theorem dX6_outOf_7 : decode cX6_outOf 7 = .ok (.iload_n 2, 1) := by decide +kernel
theorem dX6_outOf_8 : decode cX6_outOf 8 = .ok (.iaload, 1) := by decide +kernel
theorem dX6_outOf_9 : decode cX6_outOf 9 = .ok (.iadd, 1) := by decide +kernel
theorem dX6_outOf_10 : decode cX6_outOf 10 = .ok (.aload_n 0, 1) := by decide +kernel
theorem dX6_outOf_11 : decode cX6_outOf 11 = .ok (.getfield 13, 3) := by decide +kernel
theorem dX6_outOf_14 : decode cX6_outOf 14 = .ok (.if_icmp .ge 15, 3) := by decide +kernel
theorem dX6_outOf_17 : decode cX6_outOf 17 = .ok (.iload_n 2, 1) := by decide +kernel
theorem dX6_outOf_18 : decode cX6_outOf 18 = .ok (.aload_n 0, 1) := by decide +kernel
theorem dX6_outOf_19 : decode cX6_outOf 19 = .ok (.getfield 35, 3) := by decide +kernel
theorem dX6_outOf_22 : decode cX6_outOf 22 = .ok (.iload_n 2, 1) := by decide +kernel
theorem dX6_outOf_23 : decode cX6_outOf 23 = .ok (.iaload, 1) := by decide +kernel
theorem dX6_outOf_24 : decode cX6_outOf 24 = .ok (.iadd, 1) := by decide +kernel
theorem dX6_outOf_25 : decode cX6_outOf 25 = .ok (.istore_n 2, 1) := by decide +kernel
theorem dX6_outOf_26 : decode cX6_outOf 26 = .ok (.goto (-24), 3) := by decide +kernel
theorem dX6_outOf_29 : decode cX6_outOf 29 = .ok (.iload_n 2, 1) := by decide +kernel
theorem dX6_outOf_30 : decode cX6_outOf 30 = .ok (.ireturn, 1) := by decide +kernel
theorem dX6_comesTo_0 : decode cX6_comesTo 0 = .ok (.iload_n 1, 1) := by decide +kernel
theorem dX6_comesTo_1 : decode cX6_comesTo 1 = .ok (.istore_n 3, 1) := by decide +kernel
theorem dX6_comesTo_2 : decode cX6_comesTo 2 = .ok (.iload_n 3, 1) := by decide +kernel
theorem dX6_comesTo_3 : decode cX6_comesTo 3 = .ok (.iload_n 2, 1) := by decide +kernel
theorem dX6_comesTo_4 : decode cX6_comesTo 4 = .ok (.if_icmp .ge 30, 3) := by decide +kernel
theorem dX6_comesTo_7 : decode cX6_comesTo 7 = .ok (.iload_n 3, 1) := by decide +kernel
theorem dX6_comesTo_8 : decode cX6_comesTo 8 = .ok (.aload_n 0, 1) := by decide +kernel
theorem dX6_comesTo_9 : decode cX6_comesTo 9 = .ok (.getfield 35, 3) := by decide +kernel
theorem dX6_comesTo_12 : decode cX6_comesTo 12 = .ok (.iload_n 3, 1) := by decide +kernel
theorem dX6_comesTo_13 : decode cX6_comesTo 13 = .ok (.iaload, 1) := by decide +kernel
theorem dX6_comesTo_14 : decode cX6_comesTo 14 = .ok (.iadd, 1) := by decide +kernel
theorem dX6_comesTo_15 : decode cX6_comesTo 15 = .ok (.aload_n 0, 1) := by decide +kernel
theorem dX6_comesTo_16 : decode cX6_comesTo 16 = .ok (.getfield 13, 3) := by decide +kernel
theorem dX6_comesTo_19 : decode cX6_comesTo 19 = .ok (.if_icmp .ge 15, 3) := by decide +kernel
theorem dX6_comesTo_22 : decode cX6_comesTo 22 = .ok (.iload_n 3, 1) := by decide +kernel
theorem dX6_comesTo_23 : decode cX6_comesTo 23 = .ok (.aload_n 0, 1) := by decide +kernel
theorem dX6_comesTo_24 : decode cX6_comesTo 24 = .ok (.getfield 35, 3) := by decide +kernel
theorem dX6_comesTo_27 : decode cX6_comesTo 27 = .ok (.iload_n 3, 1) := by decide +kernel
theorem dX6_comesTo_28 : decode cX6_comesTo 28 = .ok (.iaload, 1) := by decide +kernel
theorem dX6_comesTo_29 : decode cX6_comesTo 29 = .ok (.iadd, 1) := by decide +kernel
theorem dX6_comesTo_30 : decode cX6_comesTo 30 = .ok (.istore_n 3, 1) := by decide +kernel
theorem dX6_comesTo_31 : decode cX6_comesTo 31 = .ok (.goto (-29), 3) := by decide +kernel
theorem dX6_comesTo_34 : decode cX6_comesTo 34 = .ok (.iload_n 3, 1) := by decide +kernel
theorem dX6_comesTo_35 : decode cX6_comesTo 35 = .ok (.iload_n 2, 1) := by decide +kernel
theorem dX6_comesTo_36 : decode cX6_comesTo 36 = .ok (.if_icmp .ne 7, 3) := by decide +kernel
theorem dX6_comesTo_39 : decode cX6_comesTo 39 = .ok (.iconst 1, 1) := by decide +kernel
theorem dX6_comesTo_40 : decode cX6_comesTo 40 = .ok (.goto 4, 3) := by decide +kernel
theorem dX6_comesTo_43 : decode cX6_comesTo 43 = .ok (.iconst 0, 1) := by decide +kernel
theorem dX6_comesTo_44 : decode cX6_comesTo 44 = .ok (.ireturn, 1) := by decide +kernel
theorem dX6_out_0 : decode cX6_out 0 = .ok (.aload_n 0, 1) := by decide +kernel
theorem dX6_out_1 : decode cX6_out 1 = .ok (.iload_n 1, 1) := by decide +kernel
theorem dX6_out_2 : decode cX6_out 2 = .ok (.invokevirtual 78, 3) := by decide +kernel
theorem dX6_out_5 : decode cX6_out 5 = .ok (.ifCond .ne 5, 3) := by decide +kernel
theorem dX6_out_8 : decode cX6_out 8 = .ok (.iconst (-1), 1) := by decide +kernel
theorem dX6_out_9 : decode cX6_out 9 = .ok (.ireturn, 1) := by decide +kernel
theorem dX6_out_10 : decode cX6_out 10 = .ok (.aload_n 0, 1) := by decide +kernel
theorem dX6_out_11 : decode cX6_out 11 = .ok (.invokevirtual 92, 3) := by decide +kernel
theorem dX6_out_14 : decode cX6_out 14 = .ok (.ifCond .ne 6, 3) := by decide +kernel
theorem dX6_out_17 : decode cX6_out 17 = .ok (.bipush (-3), 2) := by decide +kernel
theorem dX6_out_19 : decode cX6_out 19 = .ok (.ireturn, 1) := by decide +kernel
theorem dX6_out_20 : decode cX6_out 20 = .ok (.aload_n 0, 1) := by decide +kernel
theorem dX6_out_21 : decode cX6_out 21 = .ok (.aload_n 0, 1) := by decide +kernel
theorem dX6_out_22 : decode cX6_out 22 = .ok (.getfield 23, 3) := by decide +kernel
theorem dX6_out_25 : decode cX6_out 25 = .ok (.invokevirtual 96, 3) := by decide +kernel
theorem dX6_out_28 : decode cX6_out 28 = .ok (.aload_n 0, 1) := by decide +kernel
theorem dX6_out_29 : decode cX6_out 29 = .ok (.iload_n 1, 1) := by decide +kernel
theorem dX6_out_30 : decode cX6_out 30 = .ok (.invokevirtual 100, 3) := by decide +kernel
theorem dX6_out_33 : decode cX6_out 33 = .ok (.ireturn, 1) := by decide +kernel
theorem dX6_outsOfAll_0 : decode cX6_outsOfAll 0 = .ok (.iconst 0, 1) := by decide +kernel
theorem dX6_outsOfAll_1 : decode cX6_outsOfAll 1 = .ok (.istore_n 1, 1) := by decide +kernel
theorem dX6_outsOfAll_2 : decode cX6_outsOfAll 2 = .ok (.iconst 0, 1) := by decide +kernel
theorem dX6_outsOfAll_3 : decode cX6_outsOfAll 3 = .ok (.istore_n 2, 1) := by decide +kernel
theorem dX6_outsOfAll_4 : decode cX6_outsOfAll 4 = .ok (.iload_n 2, 1) := by decide +kernel
theorem dX6_outsOfAll_5 : decode cX6_outsOfAll 5 = .ok (.aload_n 0, 1) := by decide +kernel
theorem dX6_outsOfAll_6 : decode cX6_outsOfAll 6 = .ok (.getfield 20, 3) := by decide +kernel
theorem dX6_outsOfAll_9 : decode cX6_outsOfAll 9 = .ok (.if_icmp .ge 62, 3) := by decide +kernel
theorem dX6_outsOfAll_12 : decode cX6_outsOfAll 12 = .ok (.iconst 1, 1) := by decide +kernel
theorem dX6_outsOfAll_13 : decode cX6_outsOfAll 13 = .ok (.istore_n 3, 1) := by decide +kernel
theorem dX6_outsOfAll_14 : decode cX6_outsOfAll 14 = .ok (.iconst 0, 1) := by decide +kernel
theorem dX6_outsOfAll_15 : decode cX6_outsOfAll 15 = .ok (.istore 4, 2) := by decide +kernel
theorem dX6_outsOfAll_17 : decode cX6_outsOfAll 17 = .ok (.iload 4, 2) := by decide +kernel
theorem dX6_outsOfAll_19 : decode cX6_outsOfAll 19 = .ok (.iload_n 2, 1) := by decide +kernel
theorem dX6_outsOfAll_20 : decode cX6_outsOfAll 20 = .ok (.if_icmp .ge 33, 3) := by decide +kernel
theorem dX6_outsOfAll_23 : decode cX6_outsOfAll 23 = .ok (.iload_n 3, 1) := by decide +kernel
theorem dX6_outsOfAll_24 : decode cX6_outsOfAll 24 = .ok (.ifCond .eq 21, 3) := by decide +kernel
theorem dX6_outsOfAll_27 : decode cX6_outsOfAll 27 = .ok (.aload_n 0, 1) := by decide +kernel
theorem dX6_outsOfAll_28 : decode cX6_outsOfAll 28 = .ok (.iload 4, 2) := by decide +kernel
theorem dX6_outsOfAll_30 : decode cX6_outsOfAll 30 = .ok (.invokevirtual 100, 3) := by decide +kernel
theorem dX6_outsOfAll_33 : decode cX6_outsOfAll 33 = .ok (.aload_n 0, 1) := by decide +kernel
theorem dX6_outsOfAll_34 : decode cX6_outsOfAll 34 = .ok (.iload_n 2, 1) := by decide +kernel
theorem dX6_outsOfAll_35 : decode cX6_outsOfAll 35 = .ok (.invokevirtual 100, 3) := by decide +kernel
theorem dX6_outsOfAll_38 : decode cX6_outsOfAll 38 = .ok (.if_icmp .eq 7, 3) := by decide +kernel
theorem dX6_outsOfAll_41 : decode cX6_outsOfAll 41 = .ok (.iconst 1, 1) := by decide +kernel
theorem dX6_outsOfAll_42 : decode cX6_outsOfAll 42 = .ok (.goto 4, 3) := by decide +kernel
theorem dX6_outsOfAll_45 : decode cX6_outsOfAll 45 = .ok (.iconst 0, 1) := by decide +kernel
theorem dX6_outsOfAll_46 : decode cX6_outsOfAll 46 = .ok (.istore_n 3, 1) := by decide +kernel
theorem dX6_outsOfAll_47 : decode cX6_outsOfAll 47 = .ok (.iinc 4 1, 3) := by decide +kernel
theorem dX6_outsOfAll_50 : decode cX6_outsOfAll 50 = .ok (.goto (-33), 3) := by decide +kernel
theorem dX6_outsOfAll_53 : decode cX6_outsOfAll 53 = .ok (.iload_n 1, 1) := by decide +kernel
theorem dX6_outsOfAll_54 : decode cX6_outsOfAll 54 = .ok (.iload_n 3, 1) := by decide +kernel
theorem dX6_outsOfAll_55 : decode cX6_outsOfAll 55 = .ok (.ifCond .eq 7, 3) := by decide +kernel
theorem dX6_outsOfAll_58 : decode cX6_outsOfAll 58 = .ok (.iconst 1, 1) := by decide +kernel
theorem dX6_outsOfAll_59 : decode cX6_outsOfAll 59 = .ok (.goto 4, 3) := by decide +kernel
theorem dX6_outsOfAll_62 : decode cX6_outsOfAll 62 = .ok (.iconst 0, 1) := by decide +kernel
theorem dX6_outsOfAll_63 : decode cX6_outsOfAll 63 = .ok (.iadd, 1) := by decide +kernel
theorem dX6_outsOfAll_64 : decode cX6_outsOfAll 64 = .ok (.istore_n 1, 1) := by decide +kernel
theorem dX6_outsOfAll_65 : decode cX6_outsOfAll 65 = .ok (.iinc 2 1, 3) := by decide +kernel
theorem dX6_outsOfAll_68 : decode cX6_outsOfAll 68 = .ok (.goto (-64), 3) := by decide +kernel
theorem dX6_outsOfAll_71 : decode cX6_outsOfAll 71 = .ok (.iload_n 1, 1) := by decide +kernel
theorem dX6_outsOfAll_72 : decode cX6_outsOfAll 72 = .ok (.ireturn, 1) := by decide +kernel
theorem dX6_streams_0 : decode cX6_streams 0 = .ok (.aload_n 0, 1) := by decide +kernel
theorem dX6_streams_1 : decode cX6_streams 1 = .ok (.invokevirtual 92, 3) := by decide +kernel
theorem dX6_streams_4 : decode cX6_streams 4 = .ok (.ifCond .ne 6, 3) := by decide +kernel
theorem dX6_streams_7 : decode cX6_streams 7 = .ok (.bipush (-3), 2) := by decide +kernel
theorem dX6_streams_9 : decode cX6_streams 9 = .ok (.ireturn, 1) := by decide +kernel
theorem dX6_streams_10 : decode cX6_streams 10 = .ok (.aload_n 0, 1) := by decide +kernel
theorem dX6_streams_11 : decode cX6_streams 11 = .ok (.aload_n 0, 1) := by decide +kernel
theorem dX6_streams_12 : decode cX6_streams 12 = .ok (.getfield 23, 3) := by decide +kernel
theorem dX6_streams_15 : decode cX6_streams 15 = .ok (.invokevirtual 96, 3) := by decide +kernel
theorem dX6_streams_18 : decode cX6_streams 18 = .ok (.aload_n 0, 1) := by decide +kernel
theorem dX6_streams_19 : decode cX6_streams 19 = .ok (.invokevirtual 103, 3) := by decide +kernel
theorem dX6_streams_22 : decode cX6_streams 22 = .ok (.ireturn, 1) := by decide +kernel
theorem dX6_meetOf_0 : decode cX6_meetOf 0 = .ok (.iload_n 1, 1) := by decide +kernel
theorem dX6_meetOf_1 : decode cX6_meetOf 1 = .ok (.istore_n 3, 1) := by decide +kernel
theorem dX6_meetOf_2 : decode cX6_meetOf 2 = .ok (.iload_n 2, 1) := by decide +kernel
theorem dX6_meetOf_3 : decode cX6_meetOf 3 = .ok (.istore 4, 2) := by decide +kernel
theorem dX6_meetOf_5 : decode cX6_meetOf 5 = .ok (.iload_n 3, 1) := by decide +kernel
theorem dX6_meetOf_6 : decode cX6_meetOf 6 = .ok (.iload 4, 2) := by decide +kernel
theorem dX6_meetOf_8 : decode cX6_meetOf 8 = .ok (.if_icmp .eq 60, 3) := by decide +kernel
theorem dX6_meetOf_11 : decode cX6_meetOf 11 = .ok (.iload_n 3, 1) := by decide +kernel
theorem dX6_meetOf_12 : decode cX6_meetOf 12 = .ok (.iload 4, 2) := by decide +kernel
theorem dX6_meetOf_14 : decode cX6_meetOf 14 = .ok (.if_icmp .ge 7, 3) := by decide +kernel
theorem dX6_meetOf_17 : decode cX6_meetOf 17 = .ok (.iload_n 3, 1) := by decide +kernel
theorem dX6_meetOf_18 : decode cX6_meetOf 18 = .ok (.goto 5, 3) := by decide +kernel
theorem dX6_meetOf_21 : decode cX6_meetOf 21 = .ok (.iload 4, 2) := by decide +kernel
theorem dX6_meetOf_23 : decode cX6_meetOf 23 = .ok (.istore 5, 2) := by decide +kernel
theorem dX6_meetOf_25 : decode cX6_meetOf 25 = .ok (.iload 5, 2) := by decide +kernel
theorem dX6_meetOf_27 : decode cX6_meetOf 27 = .ok (.aload_n 0, 1) := by decide +kernel
theorem dX6_meetOf_28 : decode cX6_meetOf 28 = .ok (.getfield 35, 3) := by decide +kernel
theorem dX6_meetOf_31 : decode cX6_meetOf 31 = .ok (.iload 5, 2) := by decide +kernel
theorem dX6_meetOf_33 : decode cX6_meetOf 33 = .ok (.iaload, 1) := by decide +kernel
theorem dX6_meetOf_34 : decode cX6_meetOf 34 = .ok (.iadd, 1) := by decide +kernel
theorem dX6_meetOf_35 : decode cX6_meetOf 35 = .ok (.istore 6, 2) := by decide +kernel
theorem dX6_meetOf_37 : decode cX6_meetOf 37 = .ok (.iload 6, 2) := by decide +kernel
theorem dX6_meetOf_39 : decode cX6_meetOf 39 = .ok (.aload_n 0, 1) := by decide +kernel
theorem dX6_meetOf_40 : decode cX6_meetOf 40 = .ok (.getfield 13, 3) := by decide +kernel
theorem dX6_meetOf_43 : decode cX6_meetOf 43 = .ok (.if_icmp .lt 6, 3) := by decide +kernel
theorem dX6_meetOf_46 : decode cX6_meetOf 46 = .ok (.bipush (-6), 2) := by decide +kernel
theorem dX6_meetOf_48 : decode cX6_meetOf 48 = .ok (.ireturn, 1) := by decide +kernel
theorem dX6_meetOf_49 : decode cX6_meetOf 49 = .ok (.iload_n 3, 1) := by decide +kernel
theorem dX6_meetOf_50 : decode cX6_meetOf 50 = .ok (.iload 4, 2) := by decide +kernel
theorem dX6_meetOf_52 : decode cX6_meetOf 52 = .ok (.if_icmp .ge 9, 3) := by decide +kernel
theorem dX6_meetOf_55 : decode cX6_meetOf 55 = .ok (.iload 6, 2) := by decide +kernel
theorem dX6_meetOf_57 : decode cX6_meetOf 57 = .ok (.istore_n 3, 1) := by decide +kernel
theorem dX6_meetOf_58 : decode cX6_meetOf 58 = .ok (.goto 7, 3) := by decide +kernel
theorem dX6_meetOf_61 : decode cX6_meetOf 61 = .ok (.iload 6, 2) := by decide +kernel
theorem dX6_meetOf_63 : decode cX6_meetOf 63 = .ok (.istore 4, 2) := by decide +kernel
theorem dX6_meetOf_65 : decode cX6_meetOf 65 = .ok (.goto (-60), 3) := by decide +kernel
theorem dX6_meetOf_68 : decode cX6_meetOf 68 = .ok (.iload_n 3, 1) := by decide +kernel
theorem dX6_meetOf_69 : decode cX6_meetOf 69 = .ok (.ireturn, 1) := by decide +kernel
theorem dX6_meet_0 : decode cX6_meet 0 = .ok (.aload_n 0, 1) := by decide +kernel
theorem dX6_meet_1 : decode cX6_meet 1 = .ok (.iload_n 1, 1) := by decide +kernel
theorem dX6_meet_2 : decode cX6_meet 2 = .ok (.invokevirtual 78, 3) := by decide +kernel
theorem dX6_meet_5 : decode cX6_meet 5 = .ok (.ifCond .eq 11, 3) := by decide +kernel
theorem dX6_meet_8 : decode cX6_meet 8 = .ok (.aload_n 0, 1) := by decide +kernel
theorem dX6_meet_9 : decode cX6_meet 9 = .ok (.iload_n 2, 1) := by decide +kernel
theorem dX6_meet_10 : decode cX6_meet 10 = .ok (.invokevirtual 78, 3) := by decide +kernel
theorem dX6_meet_13 : decode cX6_meet 13 = .ok (.ifCond .ne 5, 3) := by decide +kernel
theorem dX6_meet_16 : decode cX6_meet 16 = .ok (.iconst (-1), 1) := by decide +kernel
theorem dX6_meet_17 : decode cX6_meet 17 = .ok (.ireturn, 1) := by decide +kernel
theorem dX6_meet_18 : decode cX6_meet 18 = .ok (.aload_n 0, 1) := by decide +kernel
theorem dX6_meet_19 : decode cX6_meet 19 = .ok (.invokevirtual 92, 3) := by decide +kernel
theorem dX6_meet_22 : decode cX6_meet 22 = .ok (.ifCond .ne 6, 3) := by decide +kernel
theorem dX6_meet_25 : decode cX6_meet 25 = .ok (.bipush (-3), 2) := by decide +kernel
theorem dX6_meet_27 : decode cX6_meet 27 = .ok (.ireturn, 1) := by decide +kernel
theorem dX6_meet_28 : decode cX6_meet 28 = .ok (.aload_n 0, 1) := by decide +kernel
theorem dX6_meet_29 : decode cX6_meet 29 = .ok (.aload_n 0, 1) := by decide +kernel
theorem dX6_meet_30 : decode cX6_meet 30 = .ok (.getfield 23, 3) := by decide +kernel
theorem dX6_meet_33 : decode cX6_meet 33 = .ok (.invokevirtual 96, 3) := by decide +kernel
theorem dX6_meet_36 : decode cX6_meet 36 = .ok (.aload_n 0, 1) := by decide +kernel
theorem dX6_meet_37 : decode cX6_meet 37 = .ok (.iload_n 1, 1) := by decide +kernel
theorem dX6_meet_38 : decode cX6_meet 38 = .ok (.iload_n 2, 1) := by decide +kernel
theorem dX6_meet_39 : decode cX6_meet 39 = .ok (.invokevirtual 106, 3) := by decide +kernel
theorem dX6_meet_42 : decode cX6_meet 42 = .ok (.ireturn, 1) := by decide +kernel
theorem dX6_isPassed_0 : decode cX6_isPassed 0 = .ok (.iconst 1, 1) := by decide +kernel
theorem dX6_isPassed_1 : decode cX6_isPassed 1 = .ok (.istore_n 2, 1) := by decide +kernel
theorem dX6_isPassed_2 : decode cX6_isPassed 2 = .ok (.iconst 0, 1) := by decide +kernel
theorem dX6_isPassed_3 : decode cX6_isPassed 3 = .ok (.istore_n 3, 1) := by decide +kernel
theorem dX6_isPassed_4 : decode cX6_isPassed 4 = .ok (.iload_n 3, 1) := by decide +kernel
theorem dX6_isPassed_5 : decode cX6_isPassed 5 = .ok (.aload_n 0, 1) := by decide +kernel
theorem dX6_isPassed_6 : decode cX6_isPassed 6 = .ok (.getfield 20, 3) := by decide +kernel
theorem dX6_isPassed_9 : decode cX6_isPassed 9 = .ok (.if_icmp .ge 28, 3) := by decide +kernel
theorem dX6_isPassed_12 : decode cX6_isPassed 12 = .ok (.iload_n 2, 1) := by decide +kernel
theorem dX6_isPassed_13 : decode cX6_isPassed 13 = .ok (.ifCond .eq 16, 3) := by decide +kernel
theorem dX6_isPassed_16 : decode cX6_isPassed 16 = .ok (.aload_n 0, 1) := by decide +kernel
theorem dX6_isPassed_17 : decode cX6_isPassed 17 = .ok (.iload_n 3, 1) := by decide +kernel
theorem dX6_isPassed_18 : decode cX6_isPassed 18 = .ok (.iload_n 1, 1) := by decide +kernel
theorem dX6_isPassed_19 : decode cX6_isPassed 19 = .ok (.invokevirtual 109, 3) := by decide +kernel
theorem dX6_isPassed_22 : decode cX6_isPassed 22 = .ok (.ifCond .eq 7, 3) := by decide +kernel
theorem dX6_isPassed_25 : decode cX6_isPassed 25 = .ok (.iconst 1, 1) := by decide +kernel
theorem dX6_isPassed_26 : decode cX6_isPassed 26 = .ok (.goto 4, 3) := by decide +kernel
theorem dX6_isPassed_29 : decode cX6_isPassed 29 = .ok (.iconst 0, 1) := by decide +kernel
theorem dX6_isPassed_30 : decode cX6_isPassed 30 = .ok (.istore_n 2, 1) := by decide +kernel
theorem dX6_isPassed_31 : decode cX6_isPassed 31 = .ok (.iinc 3 1, 3) := by decide +kernel
theorem dX6_isPassed_34 : decode cX6_isPassed 34 = .ok (.goto (-30), 3) := by decide +kernel
theorem dX6_isPassed_37 : decode cX6_isPassed 37 = .ok (.iload_n 2, 1) := by decide +kernel
theorem dX6_isPassed_38 : decode cX6_isPassed 38 = .ok (.ireturn, 1) := by decide +kernel
theorem dX6_pass_0 : decode cX6_pass 0 = .ok (.aload_n 0, 1) := by decide +kernel
theorem dX6_pass_1 : decode cX6_pass 1 = .ok (.invokevirtual 92, 3) := by decide +kernel
theorem dX6_pass_4 : decode cX6_pass 4 = .ok (.ifCond .ne 6, 3) := by decide +kernel
theorem dX6_pass_7 : decode cX6_pass 7 = .ok (.bipush (-3), 2) := by decide +kernel
theorem dX6_pass_9 : decode cX6_pass 9 = .ok (.ireturn, 1) := by decide +kernel
theorem dX6_pass_10 : decode cX6_pass 10 = .ok (.aload_n 0, 1) := by decide +kernel
theorem dX6_pass_11 : decode cX6_pass 11 = .ok (.aload_n 0, 1) := by decide +kernel
theorem dX6_pass_12 : decode cX6_pass 12 = .ok (.getfield 23, 3) := by decide +kernel
theorem dX6_pass_15 : decode cX6_pass 15 = .ok (.invokevirtual 96, 3) := by decide +kernel
theorem dX6_pass_18 : decode cX6_pass 18 = .ok (.iconst 0, 1) := by decide +kernel
theorem dX6_pass_19 : decode cX6_pass 19 = .ok (.istore_n 2, 1) := by decide +kernel
theorem dX6_pass_20 : decode cX6_pass 20 = .ok (.iconst 0, 1) := by decide +kernel
theorem dX6_pass_21 : decode cX6_pass 21 = .ok (.istore_n 3, 1) := by decide +kernel
theorem dX6_pass_22 : decode cX6_pass 22 = .ok (.iload_n 3, 1) := by decide +kernel
theorem dX6_pass_23 : decode cX6_pass 23 = .ok (.aload_n 0, 1) := by decide +kernel
theorem dX6_pass_24 : decode cX6_pass 24 = .ok (.getfield 13, 3) := by decide +kernel
theorem dX6_pass_27 : decode cX6_pass 27 = .ok (.if_icmp .ge 27, 3) := by decide +kernel
theorem dX6_pass_30 : decode cX6_pass 30 = .ok (.aload_n 0, 1) := by decide +kernel
theorem dX6_pass_31 : decode cX6_pass 31 = .ok (.iload_n 3, 1) := by decide +kernel
theorem dX6_pass_32 : decode cX6_pass 32 = .ok (.invokevirtual 113, 3) := by decide +kernel
theorem dX6_pass_35 : decode cX6_pass 35 = .ok (.ifCond .eq 13, 3) := by decide +kernel
theorem dX6_pass_38 : decode cX6_pass 38 = .ok (.iload_n 2, 1) := by decide +kernel
theorem dX6_pass_39 : decode cX6_pass 39 = .ok (.iload_n 1, 1) := by decide +kernel
theorem dX6_pass_40 : decode cX6_pass 40 = .ok (.if_icmp .ne 5, 3) := by decide +kernel
theorem dX6_pass_43 : decode cX6_pass 43 = .ok (.iload_n 3, 1) := by decide +kernel
theorem dX6_pass_44 : decode cX6_pass 44 = .ok (.ireturn, 1) := by decide +kernel
theorem dX6_pass_45 : decode cX6_pass 45 = .ok (.iinc 2 1, 3) := by decide +kernel
theorem dX6_pass_48 : decode cX6_pass 48 = .ok (.iinc 3 1, 3) := by decide +kernel
theorem dX6_pass_51 : decode cX6_pass 51 = .ok (.goto (-29), 3) := by decide +kernel
theorem dX6_pass_54 : decode cX6_pass 54 = .ok (.iload_n 1, 1) := by decide +kernel
theorem dX6_pass_55 : decode cX6_pass 55 = .ok (.iconst (-1), 1) := by decide +kernel
theorem dX6_pass_56 : decode cX6_pass 56 = .ok (.if_icmp .ne 7, 3) := by decide +kernel
theorem dX6_pass_59 : decode cX6_pass 59 = .ok (.iload_n 2, 1) := by decide +kernel
theorem dX6_pass_60 : decode cX6_pass 60 = .ok (.goto 5, 3) := by decide +kernel
theorem dX6_pass_63 : decode cX6_pass 63 = .ok (.bipush (-6), 2) := by decide +kernel
theorem dX6_pass_65 : decode cX6_pass 65 = .ok (.ireturn, 1) := by decide +kernel
theorem dX6_layBehind_0 : decode cX6_layBehind 0 = .ok (.iconst 0, 1) := by decide +kernel
theorem dX6_layBehind_1 : decode cX6_layBehind 1 = .ok (.istore_n 1, 1) := by decide +kernel
theorem dX6_layBehind_2 : decode cX6_layBehind 2 = .ok (.iload_n 1, 1) := by decide +kernel
theorem dX6_layBehind_3 : decode cX6_layBehind 3 = .ok (.aload_n 0, 1) := by decide +kernel
theorem dX6_layBehind_4 : decode cX6_layBehind 4 = .ok (.getfield 13, 3) := by decide +kernel
theorem dX6_layBehind_7 : decode cX6_layBehind 7 = .ok (.if_icmp .ge 16, 3) := by decide +kernel
theorem dX6_layBehind_10 : decode cX6_layBehind 10 = .ok (.aload_n 0, 1) := by decide +kernel
theorem dX6_layBehind_11 : decode cX6_layBehind 11 = .ok (.getfield 41, 3) := by decide +kernel
theorem dX6_layBehind_14 : decode cX6_layBehind 14 = .ok (.iload_n 1, 1) := by decide +kernel
theorem dX6_layBehind_15 : decode cX6_layBehind 15 = .ok (.iconst 0, 1) := by decide +kernel
theorem dX6_layBehind_16 : decode cX6_layBehind 16 = .ok (.iastore, 1) := by decide +kernel
theorem dX6_layBehind_17 : decode cX6_layBehind 17 = .ok (.iinc 1 1, 3) := by decide +kernel
theorem dX6_layBehind_20 : decode cX6_layBehind 20 = .ok (.goto (-18), 3) := by decide +kernel
theorem dX6_layBehind_23 : decode cX6_layBehind 23 = .ok (.iconst 0, 1) := by decide +kernel
theorem dX6_layBehind_24 : decode cX6_layBehind 24 = .ok (.istore_n 1, 1) := by decide +kernel
theorem dX6_layBehind_25 : decode cX6_layBehind 25 = .ok (.iload_n 1, 1) := by decide +kernel
theorem dX6_layBehind_26 : decode cX6_layBehind 26 = .ok (.aload_n 0, 1) := by decide +kernel
theorem dX6_layBehind_27 : decode cX6_layBehind 27 = .ok (.getfield 13, 3) := by decide +kernel
theorem dX6_layBehind_30 : decode cX6_layBehind 30 = .ok (.if_icmp .ge 57, 3) := by decide +kernel
theorem dX6_layBehind_33 : decode cX6_layBehind 33 = .ok (.iload_n 1, 1) := by decide +kernel
theorem dX6_layBehind_34 : decode cX6_layBehind 34 = .ok (.aload_n 0, 1) := by decide +kernel
theorem dX6_layBehind_35 : decode cX6_layBehind 35 = .ok (.getfield 35, 3) := by decide +kernel
theorem dX6_layBehind_38 : decode cX6_layBehind 38 = .ok (.iload_n 1, 1) := by decide +kernel
theorem dX6_layBehind_39 : decode cX6_layBehind 39 = .ok (.iaload, 1) := by decide +kernel
theorem dX6_layBehind_40 : decode cX6_layBehind 40 = .ok (.iadd, 1) := by decide +kernel
theorem dX6_layBehind_41 : decode cX6_layBehind 41 = .ok (.istore_n 2, 1) := by decide +kernel
theorem dX6_layBehind_42 : decode cX6_layBehind 42 = .ok (.iload_n 2, 1) := by decide +kernel
theorem dX6_layBehind_43 : decode cX6_layBehind 43 = .ok (.aload_n 0, 1) := by decide +kernel
theorem dX6_layBehind_44 : decode cX6_layBehind 44 = .ok (.getfield 13, 3) := by decide +kernel
theorem dX6_layBehind_47 : decode cX6_layBehind 47 = .ok (.if_icmp .ge 34, 3) := by decide +kernel
theorem dX6_layBehind_50 : decode cX6_layBehind 50 = .ok (.aload_n 0, 1) := by decide +kernel
theorem dX6_layBehind_51 : decode cX6_layBehind 51 = .ok (.getfield 41, 3) := by decide +kernel
theorem dX6_layBehind_54 : decode cX6_layBehind 54 = .ok (.iload_n 1, 1) := by decide +kernel
theorem dX6_layBehind_55 : decode cX6_layBehind 55 = .ok (.iaload, 1) := by decide +kernel
theorem dX6_layBehind_56 : decode cX6_layBehind 56 = .ok (.iconst 1, 1) := by decide +kernel
theorem dX6_layBehind_57 : decode cX6_layBehind 57 = .ok (.iadd, 1) := by decide +kernel
theorem dX6_layBehind_58 : decode cX6_layBehind 58 = .ok (.aload_n 0, 1) := by decide +kernel
theorem dX6_layBehind_59 : decode cX6_layBehind 59 = .ok (.getfield 41, 3) := by decide +kernel
theorem dX6_layBehind_62 : decode cX6_layBehind 62 = .ok (.iload_n 2, 1) := by decide +kernel
theorem dX6_layBehind_63 : decode cX6_layBehind 63 = .ok (.iaload, 1) := by decide +kernel
theorem dX6_layBehind_64 : decode cX6_layBehind 64 = .ok (.if_icmp .le 17, 3) := by decide +kernel
theorem dX6_layBehind_67 : decode cX6_layBehind 67 = .ok (.aload_n 0, 1) := by decide +kernel
theorem dX6_layBehind_68 : decode cX6_layBehind 68 = .ok (.getfield 41, 3) := by decide +kernel
theorem dX6_layBehind_71 : decode cX6_layBehind 71 = .ok (.iload_n 2, 1) := by decide +kernel
theorem dX6_layBehind_72 : decode cX6_layBehind 72 = .ok (.aload_n 0, 1) := by decide +kernel
theorem dX6_layBehind_73 : decode cX6_layBehind 73 = .ok (.getfield 41, 3) := by decide +kernel
theorem dX6_layBehind_76 : decode cX6_layBehind 76 = .ok (.iload_n 1, 1) := by decide +kernel
theorem dX6_layBehind_77 : decode cX6_layBehind 77 = .ok (.iaload, 1) := by decide +kernel
theorem dX6_layBehind_78 : decode cX6_layBehind 78 = .ok (.iconst 1, 1) := by decide +kernel
theorem dX6_layBehind_79 : decode cX6_layBehind 79 = .ok (.iadd, 1) := by decide +kernel
theorem dX6_layBehind_80 : decode cX6_layBehind 80 = .ok (.iastore, 1) := by decide +kernel
theorem dX6_layBehind_81 : decode cX6_layBehind 81 = .ok (.iinc 1 1, 3) := by decide +kernel
theorem dX6_layBehind_84 : decode cX6_layBehind 84 = .ok (.goto (-59), 3) := by decide +kernel
theorem dX6_layBehind_87 : decode cX6_layBehind 87 = .ok (.return_, 1) := by decide +kernel
theorem dX6_tree_0 : decode cX6_tree 0 = .ok (.aload_n 0, 1) := by decide +kernel
theorem dX6_tree_1 : decode cX6_tree 1 = .ok (.iload_n 1, 1) := by decide +kernel
theorem dX6_tree_2 : decode cX6_tree 2 = .ok (.invokevirtual 78, 3) := by decide +kernel
theorem dX6_tree_5 : decode cX6_tree 5 = .ok (.ifCond .ne 5, 3) := by decide +kernel
theorem dX6_tree_8 : decode cX6_tree 8 = .ok (.iconst (-1), 1) := by decide +kernel
theorem dX6_tree_9 : decode cX6_tree 9 = .ok (.ireturn, 1) := by decide +kernel
theorem dX6_tree_10 : decode cX6_tree 10 = .ok (.iload_n 2, 1) := by decide +kernel
theorem dX6_tree_11 : decode cX6_tree 11 = .ok (.iconst 0, 1) := by decide +kernel
theorem dX6_tree_12 : decode cX6_tree 12 = .ok (.iconst 2, 1) := by decide +kernel
theorem dX6_tree_13 : decode cX6_tree 13 = .ok (.invokestatic 57, 3) := by decide +kernel
theorem dX6_tree_16 : decode cX6_tree 16 = .ok (.ifCond .ne 6, 3) := by decide +kernel
theorem dX6_tree_19 : decode cX6_tree 19 = .ok (.bipush (-2), 2) := by decide +kernel
theorem dX6_tree_21 : decode cX6_tree 21 = .ok (.ireturn, 1) := by decide +kernel
theorem dX6_tree_22 : decode cX6_tree 22 = .ok (.aload_n 0, 1) := by decide +kernel
theorem dX6_tree_23 : decode cX6_tree 23 = .ok (.invokevirtual 92, 3) := by decide +kernel
theorem dX6_tree_26 : decode cX6_tree 26 = .ok (.ifCond .ne 6, 3) := by decide +kernel
theorem dX6_tree_29 : decode cX6_tree 29 = .ok (.bipush (-3), 2) := by decide +kernel
theorem dX6_tree_31 : decode cX6_tree 31 = .ok (.ireturn, 1) := by decide +kernel
theorem dX6_tree_32 : decode cX6_tree 32 = .ok (.aload_n 0, 1) := by decide +kernel
theorem dX6_tree_33 : decode cX6_tree 33 = .ok (.aload_n 0, 1) := by decide +kernel
theorem dX6_tree_34 : decode cX6_tree 34 = .ok (.getfield 23, 3) := by decide +kernel
theorem dX6_tree_37 : decode cX6_tree 37 = .ok (.invokevirtual 96, 3) := by decide +kernel
theorem dX6_tree_40 : decode cX6_tree 40 = .ok (.aload_n 0, 1) := by decide +kernel
theorem dX6_tree_41 : decode cX6_tree 41 = .ok (.invokevirtual 116, 3) := by decide +kernel
theorem dX6_tree_44 : decode cX6_tree 44 = .ok (.iconst 0, 1) := by decide +kernel
theorem dX6_tree_45 : decode cX6_tree 45 = .ok (.istore_n 3, 1) := by decide +kernel
theorem dX6_tree_46 : decode cX6_tree 46 = .ok (.iconst 0, 1) := by decide +kernel
theorem dX6_tree_47 : decode cX6_tree 47 = .ok (.istore 4, 2) := by decide +kernel
theorem dX6_tree_49 : decode cX6_tree 49 = .ok (.iconst 0, 1) := by decide +kernel
theorem dX6_tree_50 : decode cX6_tree 50 = .ok (.istore 5, 2) := by decide +kernel
theorem dX6_tree_52 : decode cX6_tree 52 = .ok (.iload 5, 2) := by decide +kernel
theorem dX6_tree_54 : decode cX6_tree 54 = .ok (.aload_n 0, 1) := by decide +kernel
theorem dX6_tree_55 : decode cX6_tree 55 = .ok (.getfield 13, 3) := by decide +kernel
theorem dX6_tree_58 : decode cX6_tree 58 = .ok (.if_icmp .ge 60, 3) := by decide +kernel
theorem dX6_tree_61 : decode cX6_tree 61 = .ok (.iload_n 3, 1) := by decide +kernel
theorem dX6_tree_62 : decode cX6_tree 62 = .ok (.iload 5, 2) := by decide +kernel
theorem dX6_tree_64 : decode cX6_tree 64 = .ok (.aload_n 0, 1) := by decide +kernel
theorem dX6_tree_65 : decode cX6_tree 65 = .ok (.getfield 20, 3) := by decide +kernel
theorem dX6_tree_68 : decode cX6_tree 68 = .ok (.if_icmp .ge 17, 3) := by decide +kernel
theorem dX6_tree_71 : decode cX6_tree 71 = .ok (.aload_n 0, 1) := by decide +kernel
theorem dX6_tree_72 : decode cX6_tree 72 = .ok (.iload 5, 2) := by decide +kernel
theorem dX6_tree_74 : decode cX6_tree 74 = .ok (.iload_n 1, 1) := by decide +kernel
theorem dX6_tree_75 : decode cX6_tree 75 = .ok (.invokevirtual 109, 3) := by decide +kernel
theorem dX6_tree_78 : decode cX6_tree 78 = .ok (.ifCond .eq 7, 3) := by decide +kernel
theorem dX6_tree_81 : decode cX6_tree 81 = .ok (.iconst 1, 1) := by decide +kernel
theorem dX6_tree_82 : decode cX6_tree 82 = .ok (.goto 4, 3) := by decide +kernel
theorem dX6_tree_85 : decode cX6_tree 85 = .ok (.iconst 0, 1) := by decide +kernel
theorem dX6_tree_86 : decode cX6_tree 86 = .ok (.iadd, 1) := by decide +kernel
theorem dX6_tree_87 : decode cX6_tree 87 = .ok (.istore_n 3, 1) := by decide +kernel
theorem dX6_tree_88 : decode cX6_tree 88 = .ok (.iload 4, 2) := by decide +kernel
theorem dX6_tree_90 : decode cX6_tree 90 = .ok (.iload 5, 2) := by decide +kernel
theorem dX6_tree_92 : decode cX6_tree 92 = .ok (.aload_n 0, 1) := by decide +kernel
theorem dX6_tree_93 : decode cX6_tree 93 = .ok (.getfield 35, 3) := by decide +kernel
theorem dX6_tree_96 : decode cX6_tree 96 = .ok (.iload 5, 2) := by decide +kernel
theorem dX6_tree_98 : decode cX6_tree 98 = .ok (.iaload, 1) := by decide +kernel
theorem dX6_tree_99 : decode cX6_tree 99 = .ok (.iadd, 1) := by decide +kernel
theorem dX6_tree_100 : decode cX6_tree 100 = .ok (.iload_n 1, 1) := by decide +kernel
theorem dX6_tree_101 : decode cX6_tree 101 = .ok (.if_icmp .ne 7, 3) := by decide +kernel
theorem dX6_tree_104 : decode cX6_tree 104 = .ok (.iconst 1, 1) := by decide +kernel
theorem dX6_tree_105 : decode cX6_tree 105 = .ok (.goto 4, 3) := by decide +kernel
theorem dX6_tree_108 : decode cX6_tree 108 = .ok (.iconst 0, 1) := by decide +kernel
theorem dX6_tree_109 : decode cX6_tree 109 = .ok (.iadd, 1) := by decide +kernel
theorem dX6_tree_110 : decode cX6_tree 110 = .ok (.istore 4, 2) := by decide +kernel
theorem dX6_tree_112 : decode cX6_tree 112 = .ok (.iinc 5 1, 3) := by decide +kernel
theorem dX6_tree_115 : decode cX6_tree 115 = .ok (.goto (-63), 3) := by decide +kernel
theorem dX6_tree_118 : decode cX6_tree 118 = .ok (.iload_n 2, 1) := by decide +kernel
theorem dX6_tree_119 : decode cX6_tree 119 = .ok (.ifCond .ne 7, 3) := by decide +kernel
theorem dX6_tree_122 : decode cX6_tree 122 = .ok (.iload_n 3, 1) := by decide +kernel
theorem dX6_tree_123 : decode cX6_tree 123 = .ok (.goto 19, 3) := by decide +kernel
theorem dX6_tree_126 : decode cX6_tree 126 = .ok (.iload_n 2, 1) := by decide +kernel
theorem dX6_tree_127 : decode cX6_tree 127 = .ok (.iconst 1, 1) := by decide +kernel
theorem dX6_tree_128 : decode cX6_tree 128 = .ok (.if_icmp .ne 8, 3) := by decide +kernel
theorem dX6_tree_131 : decode cX6_tree 131 = .ok (.iload 4, 2) := by decide +kernel
theorem dX6_tree_133 : decode cX6_tree 133 = .ok (.goto 9, 3) := by decide +kernel
theorem dX6_tree_136 : decode cX6_tree 136 = .ok (.aload_n 0, 1) := by decide +kernel
theorem dX6_tree_137 : decode cX6_tree 137 = .ok (.getfield 41, 3) := by decide +kernel
theorem dX6_tree_140 : decode cX6_tree 140 = .ok (.iload_n 1, 1) := by decide +kernel
theorem dX6_tree_141 : decode cX6_tree 141 = .ok (.iaload, 1) := by decide +kernel
theorem dX6_tree_142 : decode cX6_tree 142 = .ok (.ireturn, 1) := by decide +kernel
theorem dX6_nowhere_0 : decode cX6_nowhere 0 = .ok (.aload_n 0, 1) := by decide +kernel
theorem dX6_nowhere_1 : decode cX6_nowhere 1 = .ok (.invokevirtual 92, 3) := by decide +kernel
theorem dX6_nowhere_4 : decode cX6_nowhere 4 = .ok (.ifCond .ne 6, 3) := by decide +kernel
theorem dX6_nowhere_7 : decode cX6_nowhere 7 = .ok (.bipush (-3), 2) := by decide +kernel
theorem dX6_nowhere_9 : decode cX6_nowhere 9 = .ok (.ireturn, 1) := by decide +kernel
theorem dX6_nowhere_10 : decode cX6_nowhere 10 = .ok (.aload_n 0, 1) := by decide +kernel
theorem dX6_nowhere_11 : decode cX6_nowhere 11 = .ok (.aload_n 0, 1) := by decide +kernel
theorem dX6_nowhere_12 : decode cX6_nowhere 12 = .ok (.getfield 23, 3) := by decide +kernel
theorem dX6_nowhere_15 : decode cX6_nowhere 15 = .ok (.invokevirtual 96, 3) := by decide +kernel
theorem dX6_nowhere_18 : decode cX6_nowhere 18 = .ok (.aload_n 0, 1) := by decide +kernel
theorem dX6_nowhere_19 : decode cX6_nowhere 19 = .ok (.invokevirtual 116, 3) := by decide +kernel
theorem dX6_nowhere_22 : decode cX6_nowhere 22 = .ok (.iconst 0, 1) := by decide +kernel
theorem dX6_nowhere_23 : decode cX6_nowhere 23 = .ok (.istore_n 1, 1) := by decide +kernel
theorem dX6_nowhere_24 : decode cX6_nowhere 24 = .ok (.iconst 0, 1) := by decide +kernel
theorem dX6_nowhere_25 : decode cX6_nowhere 25 = .ok (.istore_n 2, 1) := by decide +kernel
theorem dX6_nowhere_26 : decode cX6_nowhere 26 = .ok (.iload_n 2, 1) := by decide +kernel
theorem dX6_nowhere_27 : decode cX6_nowhere 27 = .ok (.aload_n 0, 1) := by decide +kernel
theorem dX6_nowhere_28 : decode cX6_nowhere 28 = .ok (.getfield 13, 3) := by decide +kernel
theorem dX6_nowhere_31 : decode cX6_nowhere 31 = .ok (.if_icmp .ge 26, 3) := by decide +kernel
theorem dX6_nowhere_34 : decode cX6_nowhere 34 = .ok (.iload_n 1, 1) := by decide +kernel
theorem dX6_nowhere_35 : decode cX6_nowhere 35 = .ok (.aload_n 0, 1) := by decide +kernel
theorem dX6_nowhere_36 : decode cX6_nowhere 36 = .ok (.getfield 41, 3) := by decide +kernel
theorem dX6_nowhere_39 : decode cX6_nowhere 39 = .ok (.iload_n 2, 1) := by decide +kernel
theorem dX6_nowhere_40 : decode cX6_nowhere 40 = .ok (.iaload, 1) := by decide +kernel
theorem dX6_nowhere_41 : decode cX6_nowhere 41 = .ok (.ifCond .ne 7, 3) := by decide +kernel
theorem dX6_nowhere_44 : decode cX6_nowhere 44 = .ok (.iconst 1, 1) := by decide +kernel
theorem dX6_nowhere_45 : decode cX6_nowhere 45 = .ok (.goto 4, 3) := by decide +kernel
theorem dX6_nowhere_48 : decode cX6_nowhere 48 = .ok (.iconst 0, 1) := by decide +kernel
theorem dX6_nowhere_49 : decode cX6_nowhere 49 = .ok (.iadd, 1) := by decide +kernel
theorem dX6_nowhere_50 : decode cX6_nowhere 50 = .ok (.istore_n 1, 1) := by decide +kernel
theorem dX6_nowhere_51 : decode cX6_nowhere 51 = .ok (.iinc 2 1, 3) := by decide +kernel
theorem dX6_nowhere_54 : decode cX6_nowhere 54 = .ok (.goto (-28), 3) := by decide +kernel
theorem dX6_nowhere_57 : decode cX6_nowhere 57 = .ok (.iload_n 1, 1) := by decide +kernel
theorem dX6_nowhere_58 : decode cX6_nowhere 58 = .ok (.ireturn, 1) := by decide +kernel
theorem dX6_keepOuts_0 : decode cX6_keepOuts 0 = .ok (.iconst 0, 1) := by decide +kernel
theorem dX6_keepOuts_1 : decode cX6_keepOuts 1 = .ok (.istore_n 1, 1) := by decide +kernel
theorem dX6_keepOuts_2 : decode cX6_keepOuts 2 = .ok (.iload_n 1, 1) := by decide +kernel
theorem dX6_keepOuts_3 : decode cX6_keepOuts 3 = .ok (.aload_n 0, 1) := by decide +kernel
theorem dX6_keepOuts_4 : decode cX6_keepOuts 4 = .ok (.getfield 20, 3) := by decide +kernel
theorem dX6_keepOuts_7 : decode cX6_keepOuts 7 = .ok (.if_icmp .ge 20, 3) := by decide +kernel
theorem dX6_keepOuts_10 : decode cX6_keepOuts 10 = .ok (.aload_n 0, 1) := by decide +kernel
theorem dX6_keepOuts_11 : decode cX6_keepOuts 11 = .ok (.getfield 44, 3) := by decide +kernel
theorem dX6_keepOuts_14 : decode cX6_keepOuts 14 = .ok (.iload_n 1, 1) := by decide +kernel
theorem dX6_keepOuts_15 : decode cX6_keepOuts 15 = .ok (.aload_n 0, 1) := by decide +kernel
theorem dX6_keepOuts_16 : decode cX6_keepOuts 16 = .ok (.iload_n 1, 1) := by decide +kernel
theorem dX6_keepOuts_17 : decode cX6_keepOuts 17 = .ok (.invokevirtual 100, 3) := by decide +kernel
theorem dX6_keepOuts_20 : decode cX6_keepOuts 20 = .ok (.iastore, 1) := by decide +kernel
theorem dX6_keepOuts_21 : decode cX6_keepOuts 21 = .ok (.iinc 1 1, 3) := by decide +kernel
theorem dX6_keepOuts_24 : decode cX6_keepOuts 24 = .ok (.goto (-22), 3) := by decide +kernel
theorem dX6_keepOuts_27 : decode cX6_keepOuts 27 = .ok (.return_, 1) := by decide +kernel
theorem dX6_mindsBy_0 : decode cX6_mindsBy 0 = .ok (.aload_n 0, 1) := by decide +kernel
theorem dX6_mindsBy_1 : decode cX6_mindsBy 1 = .ok (.getfield 35, 3) := by decide +kernel
theorem dX6_mindsBy_4 : decode cX6_mindsBy 4 = .ok (.iload_n 1, 1) := by decide +kernel
theorem dX6_mindsBy_5 : decode cX6_mindsBy 5 = .ok (.iaload, 1) := by decide +kernel
theorem dX6_mindsBy_6 : decode cX6_mindsBy 6 = .ok (.istore_n 3, 1) := by decide +kernel
theorem dX6_mindsBy_7 : decode cX6_mindsBy 7 = .ok (.aload_n 0, 1) := by decide +kernel
theorem dX6_mindsBy_8 : decode cX6_mindsBy 8 = .ok (.getfield 35, 3) := by decide +kernel
theorem dX6_mindsBy_11 : decode cX6_mindsBy 11 = .ok (.iload_n 1, 1) := by decide +kernel
theorem dX6_mindsBy_12 : decode cX6_mindsBy 12 = .ok (.iload_n 2, 1) := by decide +kernel
theorem dX6_mindsBy_13 : decode cX6_mindsBy 13 = .ok (.iastore, 1) := by decide +kernel
theorem dX6_mindsBy_14 : decode cX6_mindsBy 14 = .ok (.iconst 0, 1) := by decide +kernel
theorem dX6_mindsBy_15 : decode cX6_mindsBy 15 = .ok (.istore 4, 2) := by decide +kernel
theorem dX6_mindsBy_17 : decode cX6_mindsBy 17 = .ok (.iconst 0, 1) := by decide +kernel
theorem dX6_mindsBy_18 : decode cX6_mindsBy 18 = .ok (.istore 5, 2) := by decide +kernel
theorem dX6_mindsBy_20 : decode cX6_mindsBy 20 = .ok (.iload 5, 2) := by decide +kernel
theorem dX6_mindsBy_22 : decode cX6_mindsBy 22 = .ok (.aload_n 0, 1) := by decide +kernel
theorem dX6_mindsBy_23 : decode cX6_mindsBy 23 = .ok (.getfield 20, 3) := by decide +kernel
theorem dX6_mindsBy_26 : decode cX6_mindsBy 26 = .ok (.if_icmp .ge 35, 3) := by decide +kernel
theorem dX6_mindsBy_29 : decode cX6_mindsBy 29 = .ok (.iload 4, 2) := by decide +kernel
theorem dX6_mindsBy_31 : decode cX6_mindsBy 31 = .ok (.aload_n 0, 1) := by decide +kernel
theorem dX6_mindsBy_32 : decode cX6_mindsBy 32 = .ok (.iload 5, 2) := by decide +kernel
theorem dX6_mindsBy_34 : decode cX6_mindsBy 34 = .ok (.invokevirtual 100, 3) := by decide +kernel
theorem dX6_mindsBy_37 : decode cX6_mindsBy 37 = .ok (.aload_n 0, 1) := by decide +kernel
theorem dX6_mindsBy_38 : decode cX6_mindsBy 38 = .ok (.getfield 44, 3) := by decide +kernel
theorem dX6_mindsBy_41 : decode cX6_mindsBy 41 = .ok (.iload 5, 2) := by decide +kernel
theorem dX6_mindsBy_43 : decode cX6_mindsBy 43 = .ok (.iaload, 1) := by decide +kernel
theorem dX6_mindsBy_44 : decode cX6_mindsBy 44 = .ok (.if_icmp .eq 7, 3) := by decide +kernel
theorem dX6_mindsBy_47 : decode cX6_mindsBy 47 = .ok (.iconst 1, 1) := by decide +kernel
theorem dX6_mindsBy_48 : decode cX6_mindsBy 48 = .ok (.goto 4, 3) := by decide +kernel
theorem dX6_mindsBy_51 : decode cX6_mindsBy 51 = .ok (.iconst 0, 1) := by decide +kernel
theorem dX6_mindsBy_52 : decode cX6_mindsBy 52 = .ok (.iadd, 1) := by decide +kernel
theorem dX6_mindsBy_53 : decode cX6_mindsBy 53 = .ok (.istore 4, 2) := by decide +kernel
theorem dX6_mindsBy_55 : decode cX6_mindsBy 55 = .ok (.iinc 5 1, 3) := by decide +kernel
theorem dX6_mindsBy_58 : decode cX6_mindsBy 58 = .ok (.goto (-38), 3) := by decide +kernel
theorem dX6_mindsBy_61 : decode cX6_mindsBy 61 = .ok (.aload_n 0, 1) := by decide +kernel
theorem dX6_mindsBy_62 : decode cX6_mindsBy 62 = .ok (.getfield 35, 3) := by decide +kernel
theorem dX6_mindsBy_65 : decode cX6_mindsBy 65 = .ok (.iload_n 1, 1) := by decide +kernel
theorem dX6_mindsBy_66 : decode cX6_mindsBy 66 = .ok (.iload_n 3, 1) := by decide +kernel
theorem dX6_mindsBy_67 : decode cX6_mindsBy 67 = .ok (.iastore, 1) := by decide +kernel
theorem dX6_mindsBy_68 : decode cX6_mindsBy 68 = .ok (.iload 4, 2) := by decide +kernel
theorem dX6_mindsBy_70 : decode cX6_mindsBy 70 = .ok (.ireturn, 1) := by decide +kernel
theorem dX6_minds_0 : decode cX6_minds 0 = .ok (.aload_n 0, 1) := by decide +kernel
theorem dX6_minds_1 : decode cX6_minds 1 = .ok (.iload_n 1, 1) := by decide +kernel
theorem dX6_minds_2 : decode cX6_minds 2 = .ok (.invokevirtual 78, 3) := by decide +kernel
theorem dX6_minds_5 : decode cX6_minds 5 = .ok (.ifCond .eq 13, 3) := by decide +kernel
theorem dX6_minds_8 : decode cX6_minds 8 = .ok (.iload_n 2, 1) := by decide +kernel
theorem dX6_minds_9 : decode cX6_minds 9 = .ok (.iconst 1, 1) := by decide +kernel
theorem dX6_minds_10 : decode cX6_minds 10 = .ok (.bipush 10, 2) := by decide +kernel
theorem dX6_minds_12 : decode cX6_minds 12 = .ok (.invokestatic 57, 3) := by decide +kernel
theorem dX6_minds_15 : decode cX6_minds 15 = .ok (.ifCond .ne 5, 3) := by decide +kernel
theorem dX6_minds_18 : decode cX6_minds 18 = .ok (.iconst (-1), 1) := by decide +kernel
theorem dX6_minds_19 : decode cX6_minds 19 = .ok (.ireturn, 1) := by decide +kernel
theorem dX6_minds_20 : decode cX6_minds 20 = .ok (.aload_n 0, 1) := by decide +kernel
theorem dX6_minds_21 : decode cX6_minds 21 = .ok (.invokevirtual 92, 3) := by decide +kernel
theorem dX6_minds_24 : decode cX6_minds 24 = .ok (.ifCond .ne 6, 3) := by decide +kernel
theorem dX6_minds_27 : decode cX6_minds 27 = .ok (.bipush (-3), 2) := by decide +kernel
theorem dX6_minds_29 : decode cX6_minds 29 = .ok (.ireturn, 1) := by decide +kernel
theorem dX6_minds_30 : decode cX6_minds 30 = .ok (.aload_n 0, 1) := by decide +kernel
theorem dX6_minds_31 : decode cX6_minds 31 = .ok (.aload_n 0, 1) := by decide +kernel
theorem dX6_minds_32 : decode cX6_minds 32 = .ok (.getfield 23, 3) := by decide +kernel
theorem dX6_minds_35 : decode cX6_minds 35 = .ok (.invokevirtual 96, 3) := by decide +kernel
theorem dX6_minds_38 : decode cX6_minds 38 = .ok (.aload_n 0, 1) := by decide +kernel
theorem dX6_minds_39 : decode cX6_minds 39 = .ok (.invokevirtual 119, 3) := by decide +kernel
theorem dX6_minds_42 : decode cX6_minds 42 = .ok (.aload_n 0, 1) := by decide +kernel
theorem dX6_minds_43 : decode cX6_minds 43 = .ok (.iload_n 1, 1) := by decide +kernel
theorem dX6_minds_44 : decode cX6_minds 44 = .ok (.iload_n 2, 1) := by decide +kernel
theorem dX6_minds_45 : decode cX6_minds 45 = .ok (.invokevirtual 122, 3) := by decide +kernel
theorem dX6_minds_48 : decode cX6_minds 48 = .ok (.ireturn, 1) := by decide +kernel
theorem dX6_one_0 : decode cX6_one 0 = .ok (.iload_n 1, 1) := by decide +kernel
theorem dX6_one_1 : decode cX6_one 1 = .ok (.iconst 0, 1) := by decide +kernel
theorem dX6_one_2 : decode cX6_one 2 = .ok (.iconst 2, 1) := by decide +kernel
theorem dX6_one_3 : decode cX6_one 3 = .ok (.invokestatic 57, 3) := by decide +kernel
theorem dX6_one_6 : decode cX6_one 6 = .ok (.ifCond .ne 6, 3) := by decide +kernel
theorem dX6_one_9 : decode cX6_one 9 = .ok (.bipush (-2), 2) := by decide +kernel
theorem dX6_one_11 : decode cX6_one 11 = .ok (.ireturn, 1) := by decide +kernel
theorem dX6_one_12 : decode cX6_one 12 = .ok (.aload_n 0, 1) := by decide +kernel
theorem dX6_one_13 : decode cX6_one 13 = .ok (.invokevirtual 92, 3) := by decide +kernel
theorem dX6_one_16 : decode cX6_one 16 = .ok (.ifCond .ne 6, 3) := by decide +kernel
theorem dX6_one_19 : decode cX6_one 19 = .ok (.bipush (-3), 2) := by decide +kernel
theorem dX6_one_21 : decode cX6_one 21 = .ok (.ireturn, 1) := by decide +kernel
theorem dX6_one_22 : decode cX6_one 22 = .ok (.aload_n 0, 1) := by decide +kernel
theorem dX6_one_23 : decode cX6_one 23 = .ok (.aload_n 0, 1) := by decide +kernel
theorem dX6_one_24 : decode cX6_one 24 = .ok (.getfield 23, 3) := by decide +kernel
theorem dX6_one_27 : decode cX6_one 27 = .ok (.invokevirtual 96, 3) := by decide +kernel
theorem dX6_one_30 : decode cX6_one 30 = .ok (.aload_n 0, 1) := by decide +kernel
theorem dX6_one_31 : decode cX6_one 31 = .ok (.invokevirtual 119, 3) := by decide +kernel
theorem dX6_one_34 : decode cX6_one 34 = .ok (.iconst 0, 1) := by decide +kernel
theorem dX6_one_35 : decode cX6_one 35 = .ok (.istore_n 2, 1) := by decide +kernel
theorem dX6_one_36 : decode cX6_one 36 = .ok (.bipush (-6), 2) := by decide +kernel
theorem dX6_one_38 : decode cX6_one 38 = .ok (.istore_n 3, 1) := by decide +kernel
theorem dX6_one_39 : decode cX6_one 39 = .ok (.bipush (-6), 2) := by decide +kernel
theorem dX6_one_41 : decode cX6_one 41 = .ok (.istore 4, 2) := by decide +kernel
theorem dX6_one_43 : decode cX6_one 43 = .ok (.iconst 0, 1) := by decide +kernel
theorem dX6_one_44 : decode cX6_one 44 = .ok (.istore 5, 2) := by decide +kernel
theorem dX6_one_46 : decode cX6_one 46 = .ok (.iload 5, 2) := by decide +kernel
theorem dX6_one_48 : decode cX6_one 48 = .ok (.aload_n 0, 1) := by decide +kernel
theorem dX6_one_49 : decode cX6_one 49 = .ok (.getfield 13, 3) := by decide +kernel
theorem dX6_one_52 : decode cX6_one 52 = .ok (.if_icmp .ge 51, 3) := by decide +kernel
theorem dX6_one_55 : decode cX6_one 55 = .ok (.iconst 1, 1) := by decide +kernel
theorem dX6_one_56 : decode cX6_one 56 = .ok (.istore 6, 2) := by decide +kernel
theorem dX6_one_58 : decode cX6_one 58 = .ok (.iload 6, 2) := by decide +kernel
theorem dX6_one_60 : decode cX6_one 60 = .ok (.bipush 10, 2) := by decide +kernel
theorem dX6_one_62 : decode cX6_one 62 = .ok (.if_icmp .gt 35, 3) := by decide +kernel
theorem dX6_one_65 : decode cX6_one 65 = .ok (.aload_n 0, 1) := by decide +kernel
theorem dX6_one_66 : decode cX6_one 66 = .ok (.iload 5, 2) := by decide +kernel
theorem dX6_one_68 : decode cX6_one 68 = .ok (.iload 6, 2) := by decide +kernel
theorem dX6_one_70 : decode cX6_one 70 = .ok (.invokevirtual 122, 3) := by decide +kernel
theorem dX6_one_73 : decode cX6_one 73 = .ok (.istore 7, 2) := by decide +kernel
theorem dX6_one_75 : decode cX6_one 75 = .ok (.iload 7, 2) := by decide +kernel
theorem dX6_one_77 : decode cX6_one 77 = .ok (.iload_n 2, 1) := by decide +kernel
theorem dX6_one_78 : decode cX6_one 78 = .ok (.if_icmp .le 13, 3) := by decide +kernel
theorem dX6_one_81 : decode cX6_one 81 = .ok (.iload 7, 2) := by decide +kernel
theorem dX6_one_83 : decode cX6_one 83 = .ok (.istore_n 2, 1) := by decide +kernel
theorem dX6_one_84 : decode cX6_one 84 = .ok (.iload 5, 2) := by decide +kernel
theorem dX6_one_86 : decode cX6_one 86 = .ok (.istore_n 3, 1) := by decide +kernel
theorem dX6_one_87 : decode cX6_one 87 = .ok (.iload 6, 2) := by decide +kernel
theorem dX6_one_89 : decode cX6_one 89 = .ok (.istore 4, 2) := by decide +kernel
theorem dX6_one_91 : decode cX6_one 91 = .ok (.iinc 6 1, 3) := by decide +kernel
theorem dX6_one_94 : decode cX6_one 94 = .ok (.goto (-36), 3) := by decide +kernel
theorem dX6_one_97 : decode cX6_one 97 = .ok (.iinc 5 1, 3) := by decide +kernel
theorem dX6_one_100 : decode cX6_one 100 = .ok (.goto (-54), 3) := by decide +kernel
theorem dX6_one_103 : decode cX6_one 103 = .ok (.iload_n 1, 1) := by decide +kernel
theorem dX6_one_104 : decode cX6_one 104 = .ok (.ifCond .ne 7, 3) := by decide +kernel
theorem dX6_one_107 : decode cX6_one 107 = .ok (.iload_n 3, 1) := by decide +kernel
theorem dX6_one_108 : decode cX6_one 108 = .ok (.goto 14, 3) := by decide +kernel
theorem dX6_one_111 : decode cX6_one 111 = .ok (.iload_n 1, 1) := by decide +kernel
theorem dX6_one_112 : decode cX6_one 112 = .ok (.iconst 1, 1) := by decide +kernel
theorem dX6_one_113 : decode cX6_one 113 = .ok (.if_icmp .ne 8, 3) := by decide +kernel
theorem dX6_one_116 : decode cX6_one 116 = .ok (.iload 4, 2) := by decide +kernel
theorem dX6_one_118 : decode cX6_one 118 = .ok (.goto 4, 3) := by decide +kernel
theorem dX6_one_121 : decode cX6_one 121 = .ok (.iload_n 2, 1) := by decide +kernel
theorem dX6_one_122 : decode cX6_one 122 = .ok (.ireturn, 1) := by decide +kernel
theorem dX6_mostAtOne_0 : decode cX6_mostAtOne 0 = .ok (.iconst 0, 1) := by decide +kernel
theorem dX6_mostAtOne_1 : decode cX6_mostAtOne 1 = .ok (.istore_n 1, 1) := by decide +kernel
theorem dX6_mostAtOne_2 : decode cX6_mostAtOne 2 = .ok (.iconst 0, 1) := by decide +kernel
theorem dX6_mostAtOne_3 : decode cX6_mostAtOne 3 = .ok (.istore_n 2, 1) := by decide +kernel
theorem dX6_mostAtOne_4 : decode cX6_mostAtOne 4 = .ok (.iload_n 2, 1) := by decide +kernel
theorem dX6_mostAtOne_5 : decode cX6_mostAtOne 5 = .ok (.aload_n 0, 1) := by decide +kernel
theorem dX6_mostAtOne_6 : decode cX6_mostAtOne 6 = .ok (.getfield 20, 3) := by decide +kernel
theorem dX6_mostAtOne_9 : decode cX6_mostAtOne 9 = .ok (.if_icmp .ge 62, 3) := by decide +kernel
theorem dX6_mostAtOne_12 : decode cX6_mostAtOne 12 = .ok (.iconst 0, 1) := by decide +kernel
theorem dX6_mostAtOne_13 : decode cX6_mostAtOne 13 = .ok (.istore_n 3, 1) := by decide +kernel
theorem dX6_mostAtOne_14 : decode cX6_mostAtOne 14 = .ok (.iconst 0, 1) := by decide +kernel
theorem dX6_mostAtOne_15 : decode cX6_mostAtOne 15 = .ok (.istore 4, 2) := by decide +kernel
theorem dX6_mostAtOne_17 : decode cX6_mostAtOne 17 = .ok (.iload 4, 2) := by decide +kernel
theorem dX6_mostAtOne_19 : decode cX6_mostAtOne 19 = .ok (.aload_n 0, 1) := by decide +kernel
theorem dX6_mostAtOne_20 : decode cX6_mostAtOne 20 = .ok (.getfield 20, 3) := by decide +kernel
theorem dX6_mostAtOne_23 : decode cX6_mostAtOne 23 = .ok (.if_icmp .ge 31, 3) := by decide +kernel
theorem dX6_mostAtOne_26 : decode cX6_mostAtOne 26 = .ok (.iload_n 3, 1) := by decide +kernel
theorem dX6_mostAtOne_27 : decode cX6_mostAtOne 27 = .ok (.aload_n 0, 1) := by decide +kernel
theorem dX6_mostAtOne_28 : decode cX6_mostAtOne 28 = .ok (.iload 4, 2) := by decide +kernel
theorem dX6_mostAtOne_30 : decode cX6_mostAtOne 30 = .ok (.invokevirtual 100, 3) := by decide +kernel
theorem dX6_mostAtOne_33 : decode cX6_mostAtOne 33 = .ok (.aload_n 0, 1) := by decide +kernel
theorem dX6_mostAtOne_34 : decode cX6_mostAtOne 34 = .ok (.iload_n 2, 1) := by decide +kernel
theorem dX6_mostAtOne_35 : decode cX6_mostAtOne 35 = .ok (.invokevirtual 100, 3) := by decide +kernel
theorem dX6_mostAtOne_38 : decode cX6_mostAtOne 38 = .ok (.if_icmp .ne 7, 3) := by decide +kernel
theorem dX6_mostAtOne_41 : decode cX6_mostAtOne 41 = .ok (.iconst 1, 1) := by decide +kernel
theorem dX6_mostAtOne_42 : decode cX6_mostAtOne 42 = .ok (.goto 4, 3) := by decide +kernel
theorem dX6_mostAtOne_45 : decode cX6_mostAtOne 45 = .ok (.iconst 0, 1) := by decide +kernel
theorem dX6_mostAtOne_46 : decode cX6_mostAtOne 46 = .ok (.iadd, 1) := by decide +kernel
theorem dX6_mostAtOne_47 : decode cX6_mostAtOne 47 = .ok (.istore_n 3, 1) := by decide +kernel
theorem dX6_mostAtOne_48 : decode cX6_mostAtOne 48 = .ok (.iinc 4 1, 3) := by decide +kernel
theorem dX6_mostAtOne_51 : decode cX6_mostAtOne 51 = .ok (.goto (-34), 3) := by decide +kernel
theorem dX6_mostAtOne_54 : decode cX6_mostAtOne 54 = .ok (.iload_n 3, 1) := by decide +kernel
theorem dX6_mostAtOne_55 : decode cX6_mostAtOne 55 = .ok (.iload_n 1, 1) := by decide +kernel
theorem dX6_mostAtOne_56 : decode cX6_mostAtOne 56 = .ok (.if_icmp .le 7, 3) := by decide +kernel
theorem dX6_mostAtOne_59 : decode cX6_mostAtOne 59 = .ok (.iload_n 3, 1) := by decide +kernel
theorem dX6_mostAtOne_60 : decode cX6_mostAtOne 60 = .ok (.goto 4, 3) := by decide +kernel
theorem dX6_mostAtOne_63 : decode cX6_mostAtOne 63 = .ok (.iload_n 1, 1) := by decide +kernel
theorem dX6_mostAtOne_64 : decode cX6_mostAtOne 64 = .ok (.istore_n 1, 1) := by decide +kernel
theorem dX6_mostAtOne_65 : decode cX6_mostAtOne 65 = .ok (.iinc 2 1, 3) := by decide +kernel
theorem dX6_mostAtOne_68 : decode cX6_mostAtOne 68 = .ok (.goto (-64), 3) := by decide +kernel
theorem dX6_mostAtOne_71 : decode cX6_mostAtOne 71 = .ok (.iload_n 1, 1) := by decide +kernel
theorem dX6_mostAtOne_72 : decode cX6_mostAtOne 72 = .ok (.ireturn, 1) := by decide +kernel
theorem dX6_best_0 : decode cX6_best 0 = .ok (.iload_n 1, 1) := by decide +kernel
theorem dX6_best_1 : decode cX6_best 1 = .ok (.iconst 0, 1) := by decide +kernel
theorem dX6_best_2 : decode cX6_best 2 = .ok (.iconst 1, 1) := by decide +kernel
theorem dX6_best_3 : decode cX6_best 3 = .ok (.invokestatic 57, 3) := by decide +kernel
theorem dX6_best_6 : decode cX6_best 6 = .ok (.ifCond .ne 6, 3) := by decide +kernel
theorem dX6_best_9 : decode cX6_best 9 = .ok (.bipush (-2), 2) := by decide +kernel
theorem dX6_best_11 : decode cX6_best 11 = .ok (.ireturn, 1) := by decide +kernel
theorem dX6_best_12 : decode cX6_best 12 = .ok (.aload_n 0, 1) := by decide +kernel
theorem dX6_best_13 : decode cX6_best 13 = .ok (.invokevirtual 92, 3) := by decide +kernel
theorem dX6_best_16 : decode cX6_best 16 = .ok (.ifCond .ne 6, 3) := by decide +kernel
theorem dX6_best_19 : decode cX6_best 19 = .ok (.bipush (-3), 2) := by decide +kernel
theorem dX6_best_21 : decode cX6_best 21 = .ok (.ireturn, 1) := by decide +kernel
theorem dX6_best_22 : decode cX6_best 22 = .ok (.iconst 0, 1) := by decide +kernel
theorem dX6_best_23 : decode cX6_best 23 = .ok (.istore_n 2, 1) := by decide +kernel
theorem dX6_best_24 : decode cX6_best 24 = .ok (.iconst 0, 1) := by decide +kernel
theorem dX6_best_25 : decode cX6_best 25 = .ok (.istore_n 3, 1) := by decide +kernel
theorem dX6_best_26 : decode cX6_best 26 = .ok (.iconst 1, 1) := by decide +kernel
theorem dX6_best_27 : decode cX6_best 27 = .ok (.istore 4, 2) := by decide +kernel
theorem dX6_best_29 : decode cX6_best 29 = .ok (.iload 4, 2) := by decide +kernel
theorem dX6_best_31 : decode cX6_best 31 = .ok (.bipush 10, 2) := by decide +kernel
theorem dX6_best_33 : decode cX6_best 33 = .ok (.if_icmp .gt 33, 3) := by decide +kernel
theorem dX6_best_36 : decode cX6_best 36 = .ok (.aload_n 0, 1) := by decide +kernel
theorem dX6_best_37 : decode cX6_best 37 = .ok (.iload 4, 2) := by decide +kernel
theorem dX6_best_39 : decode cX6_best 39 = .ok (.invokevirtual 96, 3) := by decide +kernel
theorem dX6_best_42 : decode cX6_best 42 = .ok (.aload_n 0, 1) := by decide +kernel
theorem dX6_best_43 : decode cX6_best 43 = .ok (.invokevirtual 125, 3) := by decide +kernel
theorem dX6_best_46 : decode cX6_best 46 = .ok (.istore 5, 2) := by decide +kernel
theorem dX6_best_48 : decode cX6_best 48 = .ok (.iload 5, 2) := by decide +kernel
theorem dX6_best_50 : decode cX6_best 50 = .ok (.iload_n 2, 1) := by decide +kernel
theorem dX6_best_51 : decode cX6_best 51 = .ok (.if_icmp .le 9, 3) := by decide +kernel
theorem dX6_best_54 : decode cX6_best 54 = .ok (.iload 5, 2) := by decide +kernel
theorem dX6_best_56 : decode cX6_best 56 = .ok (.istore_n 2, 1) := by decide +kernel
theorem dX6_best_57 : decode cX6_best 57 = .ok (.iload 4, 2) := by decide +kernel
theorem dX6_best_59 : decode cX6_best 59 = .ok (.istore_n 3, 1) := by decide +kernel
theorem dX6_best_60 : decode cX6_best 60 = .ok (.iinc 4 1, 3) := by decide +kernel
theorem dX6_best_63 : decode cX6_best 63 = .ok (.goto (-34), 3) := by decide +kernel
theorem dX6_best_66 : decode cX6_best 66 = .ok (.iload_n 1, 1) := by decide +kernel
theorem dX6_best_67 : decode cX6_best 67 = .ok (.ifCond .ne 7, 3) := by decide +kernel
theorem dX6_best_70 : decode cX6_best 70 = .ok (.iload_n 3, 1) := by decide +kernel
theorem dX6_best_71 : decode cX6_best 71 = .ok (.goto 4, 3) := by decide +kernel
theorem dX6_best_74 : decode cX6_best 74 = .ok (.iload_n 2, 1) := by decide +kernel
theorem dX6_best_75 : decode cX6_best 75 = .ok (.ireturn, 1) := by decide +kernel
theorem dX6_codes_0 : decode cX6_codes 0 = .ok (.iconst 1, 1) := by decide +kernel
theorem dX6_codes_1 : decode cX6_codes 1 = .ok (.istore_n 1, 1) := by decide +kernel
theorem dX6_codes_2 : decode cX6_codes 2 = .ok (.iconst 0, 1) := by decide +kernel
theorem dX6_codes_3 : decode cX6_codes 3 = .ok (.istore_n 2, 1) := by decide +kernel
theorem dX6_codes_4 : decode cX6_codes 4 = .ok (.iload_n 2, 1) := by decide +kernel
theorem dX6_codes_5 : decode cX6_codes 5 = .ok (.aload_n 0, 1) := by decide +kernel
theorem dX6_codes_6 : decode cX6_codes 6 = .ok (.getfield 89, 3) := by decide +kernel
theorem dX6_codes_9 : decode cX6_codes 9 = .ok (.if_icmp .ge 14, 3) := by decide +kernel
theorem dX6_codes_12 : decode cX6_codes 12 = .ok (.iload_n 1, 1) := by decide +kernel
theorem dX6_codes_13 : decode cX6_codes 13 = .ok (.bipush 10, 2) := by decide +kernel
theorem dX6_codes_15 : decode cX6_codes 15 = .ok (.imul, 1) := by decide +kernel
theorem dX6_codes_16 : decode cX6_codes 16 = .ok (.istore_n 1, 1) := by decide +kernel
theorem dX6_codes_17 : decode cX6_codes 17 = .ok (.iinc 2 1, 3) := by decide +kernel
theorem dX6_codes_20 : decode cX6_codes 20 = .ok (.goto (-16), 3) := by decide +kernel
theorem dX6_codes_23 : decode cX6_codes 23 = .ok (.iload_n 1, 1) := by decide +kernel
theorem dX6_codes_24 : decode cX6_codes 24 = .ok (.ireturn, 1) := by decide +kernel
theorem dX6_writeIn_0 : decode cX6_writeIn 0 = .ok (.iload_n 1, 1) := by decide +kernel
theorem dX6_writeIn_1 : decode cX6_writeIn 1 = .ok (.istore_n 2, 1) := by decide +kernel
theorem dX6_writeIn_2 : decode cX6_writeIn 2 = .ok (.iconst 1, 1) := by decide +kernel
theorem dX6_writeIn_3 : decode cX6_writeIn 3 = .ok (.istore_n 3, 1) := by decide +kernel
theorem dX6_writeIn_4 : decode cX6_writeIn 4 = .ok (.aload_n 0, 1) := by decide +kernel
theorem dX6_writeIn_5 : decode cX6_writeIn 5 = .ok (.getfield 89, 3) := by decide +kernel
theorem dX6_writeIn_8 : decode cX6_writeIn 8 = .ok (.iconst 1, 1) := by decide +kernel
theorem dX6_writeIn_9 : decode cX6_writeIn 9 = .ok (.isub, 1) := by decide +kernel
theorem dX6_writeIn_10 : decode cX6_writeIn 10 = .ok (.istore 4, 2) := by decide +kernel
theorem dX6_writeIn_12 : decode cX6_writeIn 12 = .ok (.iload 4, 2) := by decide +kernel
theorem dX6_writeIn_14 : decode cX6_writeIn 14 = .ok (.ifCond .lt 46, 3) := by decide +kernel
theorem dX6_writeIn_17 : decode cX6_writeIn 17 = .ok (.iload_n 2, 1) := by decide +kernel
theorem dX6_writeIn_18 : decode cX6_writeIn 18 = .ok (.bipush 10, 2) := by decide +kernel
theorem dX6_writeIn_20 : decode cX6_writeIn 20 = .ok (.irem, 1) := by decide +kernel
theorem dX6_writeIn_21 : decode cX6_writeIn 21 = .ok (.iconst 1, 1) := by decide +kernel
theorem dX6_writeIn_22 : decode cX6_writeIn 22 = .ok (.iadd, 1) := by decide +kernel
theorem dX6_writeIn_23 : decode cX6_writeIn 23 = .ok (.istore 5, 2) := by decide +kernel
theorem dX6_writeIn_25 : decode cX6_writeIn 25 = .ok (.aload_n 0, 1) := by decide +kernel
theorem dX6_writeIn_26 : decode cX6_writeIn 26 = .ok (.getfield 35, 3) := by decide +kernel
theorem dX6_writeIn_29 : decode cX6_writeIn 29 = .ok (.aload_n 0, 1) := by decide +kernel
theorem dX6_writeIn_30 : decode cX6_writeIn 30 = .ok (.getfield 38, 3) := by decide +kernel
theorem dX6_writeIn_33 : decode cX6_writeIn 33 = .ok (.iload 4, 2) := by decide +kernel
theorem dX6_writeIn_35 : decode cX6_writeIn 35 = .ok (.iaload, 1) := by decide +kernel
theorem dX6_writeIn_36 : decode cX6_writeIn 36 = .ok (.iload 5, 2) := by decide +kernel
theorem dX6_writeIn_38 : decode cX6_writeIn 38 = .ok (.iastore, 1) := by decide +kernel
theorem dX6_writeIn_39 : decode cX6_writeIn 39 = .ok (.iload_n 3, 1) := by decide +kernel
theorem dX6_writeIn_40 : decode cX6_writeIn 40 = .ok (.aload_n 0, 1) := by decide +kernel
theorem dX6_writeIn_41 : decode cX6_writeIn 41 = .ok (.getfield 29, 3) := by decide +kernel
theorem dX6_writeIn_44 : decode cX6_writeIn 44 = .ok (.iload 5, 2) := by decide +kernel
theorem dX6_writeIn_46 : decode cX6_writeIn 46 = .ok (.iaload, 1) := by decide +kernel
theorem dX6_writeIn_47 : decode cX6_writeIn 47 = .ok (.imul, 1) := by decide +kernel
theorem dX6_writeIn_48 : decode cX6_writeIn 48 = .ok (.istore_n 3, 1) := by decide +kernel
theorem dX6_writeIn_49 : decode cX6_writeIn 49 = .ok (.iload_n 2, 1) := by decide +kernel
theorem dX6_writeIn_50 : decode cX6_writeIn 50 = .ok (.bipush 10, 2) := by decide +kernel
theorem dX6_writeIn_52 : decode cX6_writeIn 52 = .ok (.idiv, 1) := by decide +kernel
theorem dX6_writeIn_53 : decode cX6_writeIn 53 = .ok (.istore_n 2, 1) := by decide +kernel
theorem dX6_writeIn_54 : decode cX6_writeIn 54 = .ok (.iinc 4 (-1), 3) := by decide +kernel
theorem dX6_writeIn_57 : decode cX6_writeIn 57 = .ok (.goto (-45), 3) := by decide +kernel
theorem dX6_writeIn_60 : decode cX6_writeIn 60 = .ok (.iload_n 3, 1) := by decide +kernel
theorem dX6_writeIn_61 : decode cX6_writeIn 61 = .ok (.ireturn, 1) := by decide +kernel
theorem dX6_isAllowed_0 : decode cX6_isAllowed 0 = .ok (.iconst 1, 1) := by decide +kernel
theorem dX6_isAllowed_1 : decode cX6_isAllowed 1 = .ok (.istore_n 1, 1) := by decide +kernel
theorem dX6_isAllowed_2 : decode cX6_isAllowed 2 = .ok (.iconst 0, 1) := by decide +kernel
theorem dX6_isAllowed_3 : decode cX6_isAllowed 3 = .ok (.istore_n 2, 1) := by decide +kernel
theorem dX6_isAllowed_4 : decode cX6_isAllowed 4 = .ok (.iload_n 2, 1) := by decide +kernel
theorem dX6_isAllowed_5 : decode cX6_isAllowed 5 = .ok (.aload_n 0, 1) := by decide +kernel
theorem dX6_isAllowed_6 : decode cX6_isAllowed 6 = .ok (.getfield 89, 3) := by decide +kernel
theorem dX6_isAllowed_9 : decode cX6_isAllowed 9 = .ok (.if_icmp .ge 41, 3) := by decide +kernel
theorem dX6_isAllowed_12 : decode cX6_isAllowed 12 = .ok (.iload_n 1, 1) := by decide +kernel
theorem dX6_isAllowed_13 : decode cX6_isAllowed 13 = .ok (.ifCond .eq 29, 3) := by decide +kernel
theorem dX6_isAllowed_16 : decode cX6_isAllowed 16 = .ok (.aload_n 0, 1) := by decide +kernel
theorem dX6_isAllowed_17 : decode cX6_isAllowed 17 = .ok (.getfield 26, 3) := by decide +kernel
theorem dX6_isAllowed_20 : decode cX6_isAllowed 20 = .ok (.aload_n 0, 1) := by decide +kernel
theorem dX6_isAllowed_21 : decode cX6_isAllowed 21 = .ok (.getfield 35, 3) := by decide +kernel
theorem dX6_isAllowed_24 : decode cX6_isAllowed 24 = .ok (.aload_n 0, 1) := by decide +kernel
theorem dX6_isAllowed_25 : decode cX6_isAllowed 25 = .ok (.getfield 38, 3) := by decide +kernel
theorem dX6_isAllowed_28 : decode cX6_isAllowed 28 = .ok (.iload_n 2, 1) := by decide +kernel
theorem dX6_isAllowed_29 : decode cX6_isAllowed 29 = .ok (.iaload, 1) := by decide +kernel
theorem dX6_isAllowed_30 : decode cX6_isAllowed 30 = .ok (.iaload, 1) := by decide +kernel
theorem dX6_isAllowed_31 : decode cX6_isAllowed 31 = .ok (.ishr, 1) := by decide +kernel
theorem dX6_isAllowed_32 : decode cX6_isAllowed 32 = .ok (.iconst 1, 1) := by decide +kernel
theorem dX6_isAllowed_33 : decode cX6_isAllowed 33 = .ok (.iand, 1) := by decide +kernel
theorem dX6_isAllowed_34 : decode cX6_isAllowed 34 = .ok (.iconst 1, 1) := by decide +kernel
theorem dX6_isAllowed_35 : decode cX6_isAllowed 35 = .ok (.if_icmp .ne 7, 3) := by decide +kernel
theorem dX6_isAllowed_38 : decode cX6_isAllowed 38 = .ok (.iconst 1, 1) := by decide +kernel
theorem dX6_isAllowed_39 : decode cX6_isAllowed 39 = .ok (.goto 4, 3) := by decide +kernel
theorem dX6_isAllowed_42 : decode cX6_isAllowed 42 = .ok (.iconst 0, 1) := by decide +kernel
theorem dX6_isAllowed_43 : decode cX6_isAllowed 43 = .ok (.istore_n 1, 1) := by decide +kernel
theorem dX6_isAllowed_44 : decode cX6_isAllowed 44 = .ok (.iinc 2 1, 3) := by decide +kernel
theorem dX6_isAllowed_47 : decode cX6_isAllowed 47 = .ok (.goto (-43), 3) := by decide +kernel
theorem dX6_isAllowed_50 : decode cX6_isAllowed 50 = .ok (.iload_n 1, 1) := by decide +kernel
theorem dX6_isAllowed_51 : decode cX6_isAllowed 51 = .ok (.ireturn, 1) := by decide +kernel
theorem dX6_term_0 : decode cX6_term 0 = .ok (.lload_n 0, 1) := by decide +kernel
theorem dX6_term_1 : decode cX6_term 1 = .ok (.lstore 5, 2) := by decide +kernel
theorem dX6_term_3 : decode cX6_term 3 = .ok (.lload_n 2, 1) := by decide +kernel
theorem dX6_term_4 : decode cX6_term 4 = .ok (.lstore 7, 2) := by decide +kernel
theorem dX6_term_6 : decode cX6_term 6 = .ok (.lload 7, 2) := by decide +kernel
theorem dX6_term_8 : decode cX6_term 8 = .ok (.lconst 0, 1) := by decide +kernel
theorem dX6_term_9 : decode cX6_term 9 = .ok (.lcmp, 1) := by decide +kernel
theorem dX6_term_10 : decode cX6_term 10 = .ok (.ifCond .eq 21, 3) := by decide +kernel
theorem dX6_term_13 : decode cX6_term 13 = .ok (.lload 5, 2) := by decide +kernel
theorem dX6_term_15 : decode cX6_term 15 = .ok (.lload 7, 2) := by decide +kernel
theorem dX6_term_17 : decode cX6_term 17 = .ok (.lrem, 1) := by decide +kernel
theorem dX6_term_18 : decode cX6_term 18 = .ok (.lstore 9, 2) := by decide +kernel
theorem dX6_term_20 : decode cX6_term 20 = .ok (.lload 7, 2) := by decide +kernel
theorem dX6_term_22 : decode cX6_term 22 = .ok (.lstore 5, 2) := by decide +kernel
theorem dX6_term_24 : decode cX6_term 24 = .ok (.lload 9, 2) := by decide +kernel
theorem dX6_term_26 : decode cX6_term 26 = .ok (.lstore 7, 2) := by decide +kernel
theorem dX6_term_28 : decode cX6_term 28 = .ok (.goto (-22), 3) := by decide +kernel
theorem dX6_term_31 : decode cX6_term 31 = .ok (.iload 4, 2) := by decide +kernel
theorem dX6_term_33 : decode cX6_term 33 = .ok (.ifCond .ne 10, 3) := by decide +kernel
theorem dX6_term_36 : decode cX6_term 36 = .ok (.lload_n 0, 1) := by decide +kernel
theorem dX6_term_37 : decode cX6_term 37 = .ok (.lload 5, 2) := by decide +kernel
theorem dX6_term_39 : decode cX6_term 39 = .ok (.ldiv, 1) := by decide +kernel
theorem dX6_term_40 : decode cX6_term 40 = .ok (.goto 7, 3) := by decide +kernel
theorem dX6_term_43 : decode cX6_term 43 = .ok (.lload_n 2, 1) := by decide +kernel
theorem dX6_term_44 : decode cX6_term 44 = .ok (.lload 5, 2) := by decide +kernel
theorem dX6_term_46 : decode cX6_term 46 = .ok (.ldiv, 1) := by decide +kernel
theorem dX6_term_47 : decode cX6_term 47 = .ok (.lreturn, 1) := by decide +kernel
theorem dX6_wholeWeight_0 : decode cX6_wholeWeight 0 = .ok (.lconst 1, 1) := by decide +kernel
theorem dX6_wholeWeight_1 : decode cX6_wholeWeight 1 = .ok (.lstore_n 1, 1) := by decide +kernel
theorem dX6_wholeWeight_2 : decode cX6_wholeWeight 2 = .ok (.iconst 0, 1) := by decide +kernel
theorem dX6_wholeWeight_3 : decode cX6_wholeWeight 3 = .ok (.istore_n 3, 1) := by decide +kernel
theorem dX6_wholeWeight_4 : decode cX6_wholeWeight 4 = .ok (.iload_n 3, 1) := by decide +kernel
theorem dX6_wholeWeight_5 : decode cX6_wholeWeight 5 = .ok (.aload_n 0, 1) := by decide +kernel
theorem dX6_wholeWeight_6 : decode cX6_wholeWeight 6 = .ok (.getfield 89, 3) := by decide +kernel
theorem dX6_wholeWeight_9 : decode cX6_wholeWeight 9 = .ok (.if_icmp .ge 17, 3) := by decide +kernel
theorem dX6_wholeWeight_12 : decode cX6_wholeWeight 12 = .ok (.lload_n 1, 1) := by decide +kernel
theorem dX6_wholeWeight_13 : decode cX6_wholeWeight 13 = .ok (.aload_n 0, 1) := by decide +kernel
theorem dX6_wholeWeight_14 : decode cX6_wholeWeight 14 = .ok (.invokevirtual 75, 3) := by decide +kernel
theorem dX6_wholeWeight_17 : decode cX6_wholeWeight 17 = .ok (.i2l, 1) := by decide +kernel
theorem dX6_wholeWeight_18 : decode cX6_wholeWeight 18 = .ok (.lmul, 1) := by decide +kernel
theorem dX6_wholeWeight_19 : decode cX6_wholeWeight 19 = .ok (.lstore_n 1, 1) := by decide +kernel
theorem dX6_wholeWeight_20 : decode cX6_wholeWeight 20 = .ok (.iinc 3 1, 3) := by decide +kernel
theorem dX6_wholeWeight_23 : decode cX6_wholeWeight 23 = .ok (.goto (-19), 3) := by decide +kernel
theorem dX6_wholeWeight_26 : decode cX6_wholeWeight 26 = .ok (.lload_n 1, 1) := by decide +kernel
theorem dX6_wholeWeight_27 : decode cX6_wholeWeight 27 = .ok (.lreturn, 1) := by decide +kernel
theorem dX6_likely_0 : decode cX6_likely 0 = .ok (.aload_n 0, 1) := by decide +kernel
theorem dX6_likely_1 : decode cX6_likely 1 = .ok (.iload_n 1, 1) := by decide +kernel
theorem dX6_likely_2 : decode cX6_likely 2 = .ok (.invokevirtual 78, 3) := by decide +kernel
theorem dX6_likely_5 : decode cX6_likely 5 = .ok (.ifCond .eq 11, 3) := by decide +kernel
theorem dX6_likely_8 : decode cX6_likely 8 = .ok (.aload_n 0, 1) := by decide +kernel
theorem dX6_likely_9 : decode cX6_likely 9 = .ok (.iload_n 2, 1) := by decide +kernel
theorem dX6_likely_10 : decode cX6_likely 10 = .ok (.invokevirtual 78, 3) := by decide +kernel
theorem dX6_likely_13 : decode cX6_likely 13 = .ok (.ifCond .ne 7, 3) := by decide +kernel
theorem dX6_likely_16 : decode cX6_likely 16 = .ok (.ldc2_w 128, 3) := by decide +kernel
theorem dX6_likely_19 : decode cX6_likely 19 = .ok (.lreturn, 1) := by decide +kernel
theorem dX6_likely_20 : decode cX6_likely 20 = .ok (.iload_n 3, 1) := by decide +kernel
theorem dX6_likely_21 : decode cX6_likely 21 = .ok (.iconst 0, 1) := by decide +kernel
theorem dX6_likely_22 : decode cX6_likely 22 = .ok (.iconst 1, 1) := by decide +kernel
theorem dX6_likely_23 : decode cX6_likely 23 = .ok (.invokestatic 57, 3) := by decide +kernel
theorem dX6_likely_26 : decode cX6_likely 26 = .ok (.ifCond .ne 7, 3) := by decide +kernel
theorem dX6_likely_29 : decode cX6_likely 29 = .ok (.ldc2_w 130, 3) := by decide +kernel
theorem dX6_likely_32 : decode cX6_likely 32 = .ok (.lreturn, 1) := by decide +kernel
theorem dX6_likely_33 : decode cX6_likely 33 = .ok (.aload_n 0, 1) := by decide +kernel
theorem dX6_likely_34 : decode cX6_likely 34 = .ok (.bipush 42, 2) := by decide +kernel
theorem dX6_likely_36 : decode cX6_likely 36 = .ok (.invokevirtual 85, 3) := by decide +kernel
theorem dX6_likely_39 : decode cX6_likely 39 = .ok (.ifCond .le 7, 3) := by decide +kernel
theorem dX6_likely_42 : decode cX6_likely 42 = .ok (.ldc2_w 132, 3) := by decide +kernel
theorem dX6_likely_45 : decode cX6_likely 45 = .ok (.lreturn, 1) := by decide +kernel
theorem dX6_likely_46 : decode cX6_likely 46 = .ok (.aload_n 0, 1) := by decide +kernel
theorem dX6_likely_47 : decode cX6_likely 47 = .ok (.aload_n 0, 1) := by decide +kernel
theorem dX6_likely_48 : decode cX6_likely 48 = .ok (.getfield 23, 3) := by decide +kernel
theorem dX6_likely_51 : decode cX6_likely 51 = .ok (.invokevirtual 96, 3) := by decide +kernel
theorem dX6_likely_54 : decode cX6_likely 54 = .ok (.lconst 0, 1) := by decide +kernel
theorem dX6_likely_55 : decode cX6_likely 55 = .ok (.lstore 4, 2) := by decide +kernel
theorem dX6_likely_57 : decode cX6_likely 57 = .ok (.iconst 0, 1) := by decide +kernel
theorem dX6_likely_58 : decode cX6_likely 58 = .ok (.istore 6, 2) := by decide +kernel
theorem dX6_likely_60 : decode cX6_likely 60 = .ok (.iload 6, 2) := by decide +kernel
theorem dX6_likely_62 : decode cX6_likely 62 = .ok (.aload_n 0, 1) := by decide +kernel
theorem dX6_likely_63 : decode cX6_likely 63 = .ok (.invokevirtual 134, 3) := by decide +kernel
theorem dX6_likely_66 : decode cX6_likely 66 = .ok (.if_icmp .ge 43, 3) := by decide +kernel
theorem dX6_likely_69 : decode cX6_likely 69 = .ok (.aload_n 0, 1) := by decide +kernel
theorem dX6_likely_70 : decode cX6_likely 70 = .ok (.iload 6, 2) := by decide +kernel
theorem dX6_likely_72 : decode cX6_likely 72 = .ok (.invokevirtual 137, 3) := by decide +kernel
theorem dX6_likely_75 : decode cX6_likely 75 = .ok (.istore 7, 2) := by decide +kernel
theorem dX6_likely_77 : decode cX6_likely 77 = .ok (.lload 4, 2) := by decide +kernel
theorem dX6_likely_79 : decode cX6_likely 79 = .ok (.iload 7, 2) := by decide +kernel
theorem dX6_likely_81 : decode cX6_likely 81 = .ok (.ifCond .le 18, 3) := by decide +kernel
theorem dX6_likely_84 : decode cX6_likely 84 = .ok (.aload_n 0, 1) := by decide +kernel
theorem dX6_likely_85 : decode cX6_likely 85 = .ok (.iload_n 1, 1) := by decide +kernel
theorem dX6_likely_86 : decode cX6_likely 86 = .ok (.iload_n 2, 1) := by decide +kernel
theorem dX6_likely_87 : decode cX6_likely 87 = .ok (.invokevirtual 106, 3) := by decide +kernel
theorem dX6_likely_90 : decode cX6_likely 90 = .ok (.ifCond .lt 9, 3) := by decide +kernel
theorem dX6_likely_93 : decode cX6_likely 93 = .ok (.iload 7, 2) := by decide +kernel
theorem dX6_likely_95 : decode cX6_likely 95 = .ok (.i2l, 1) := by decide +kernel
theorem dX6_likely_96 : decode cX6_likely 96 = .ok (.goto 4, 3) := by decide +kernel
theorem dX6_likely_99 : decode cX6_likely 99 = .ok (.lconst 0, 1) := by decide +kernel
theorem dX6_likely_100 : decode cX6_likely 100 = .ok (.ladd, 1) := by decide +kernel
theorem dX6_likely_101 : decode cX6_likely 101 = .ok (.lstore 4, 2) := by decide +kernel
theorem dX6_likely_103 : decode cX6_likely 103 = .ok (.iinc 6 1, 3) := by decide +kernel
theorem dX6_likely_106 : decode cX6_likely 106 = .ok (.goto (-46), 3) := by decide +kernel
theorem dX6_likely_109 : decode cX6_likely 109 = .ok (.lload 4, 2) := by decide +kernel
theorem dX6_likely_111 : decode cX6_likely 111 = .ok (.aload_n 0, 1) := by decide +kernel
theorem dX6_likely_112 : decode cX6_likely 112 = .ok (.invokevirtual 140, 3) := by decide +kernel
theorem dX6_likely_115 : decode cX6_likely 115 = .ok (.iload_n 3, 1) := by decide +kernel
theorem dX6_likely_116 : decode cX6_likely 116 = .ok (.invokestatic 144, 3) := by decide +kernel
theorem dX6_likely_119 : decode cX6_likely 119 = .ok (.lreturn, 1) := by decide +kernel
theorem dX6_all_0 : decode cX6_all 0 = .ok (.iload_n 1, 1) := by decide +kernel
theorem dX6_all_1 : decode cX6_all 1 = .ok (.iconst 0, 1) := by decide +kernel
theorem dX6_all_2 : decode cX6_all 2 = .ok (.iconst 1, 1) := by decide +kernel
theorem dX6_all_3 : decode cX6_all 3 = .ok (.invokestatic 57, 3) := by decide +kernel
theorem dX6_all_6 : decode cX6_all 6 = .ok (.ifCond .ne 7, 3) := by decide +kernel
theorem dX6_all_9 : decode cX6_all 9 = .ok (.ldc2_w 130, 3) := by decide +kernel
theorem dX6_all_12 : decode cX6_all 12 = .ok (.lreturn, 1) := by decide +kernel
theorem dX6_all_13 : decode cX6_all 13 = .ok (.aload_n 0, 1) := by decide +kernel
theorem dX6_all_14 : decode cX6_all 14 = .ok (.bipush 42, 2) := by decide +kernel
theorem dX6_all_16 : decode cX6_all 16 = .ok (.invokevirtual 85, 3) := by decide +kernel
theorem dX6_all_19 : decode cX6_all 19 = .ok (.ifCond .le 7, 3) := by decide +kernel
theorem dX6_all_22 : decode cX6_all 22 = .ok (.ldc2_w 132, 3) := by decide +kernel
theorem dX6_all_25 : decode cX6_all 25 = .ok (.lreturn, 1) := by decide +kernel
theorem dX6_all_26 : decode cX6_all 26 = .ok (.aload_n 0, 1) := by decide +kernel
theorem dX6_all_27 : decode cX6_all 27 = .ok (.aload_n 0, 1) := by decide +kernel
theorem dX6_all_28 : decode cX6_all 28 = .ok (.getfield 23, 3) := by decide +kernel
theorem dX6_all_31 : decode cX6_all 31 = .ok (.invokevirtual 96, 3) := by decide +kernel
theorem dX6_all_34 : decode cX6_all 34 = .ok (.lconst 0, 1) := by decide +kernel
theorem dX6_all_35 : decode cX6_all 35 = .ok (.lstore_n 2, 1) := by decide +kernel
theorem dX6_all_36 : decode cX6_all 36 = .ok (.iconst 0, 1) := by decide +kernel
theorem dX6_all_37 : decode cX6_all 37 = .ok (.istore 4, 2) := by decide +kernel
theorem dX6_all_39 : decode cX6_all 39 = .ok (.iload 4, 2) := by decide +kernel
theorem dX6_all_41 : decode cX6_all 41 = .ok (.aload_n 0, 1) := by decide +kernel
theorem dX6_all_42 : decode cX6_all 42 = .ok (.invokevirtual 134, 3) := by decide +kernel
theorem dX6_all_45 : decode cX6_all 45 = .ok (.if_icmp .ge 40, 3) := by decide +kernel
theorem dX6_all_48 : decode cX6_all 48 = .ok (.aload_n 0, 1) := by decide +kernel
theorem dX6_all_49 : decode cX6_all 49 = .ok (.iload 4, 2) := by decide +kernel
theorem dX6_all_51 : decode cX6_all 51 = .ok (.invokevirtual 137, 3) := by decide +kernel
theorem dX6_all_54 : decode cX6_all 54 = .ok (.istore 5, 2) := by decide +kernel
theorem dX6_all_56 : decode cX6_all 56 = .ok (.lload_n 2, 1) := by decide +kernel
theorem dX6_all_57 : decode cX6_all 57 = .ok (.iload 5, 2) := by decide +kernel
theorem dX6_all_59 : decode cX6_all 59 = .ok (.ifCond .le 17, 3) := by decide +kernel
theorem dX6_all_62 : decode cX6_all 62 = .ok (.aload_n 0, 1) := by decide +kernel
theorem dX6_all_63 : decode cX6_all 63 = .ok (.invokevirtual 103, 3) := by decide +kernel
theorem dX6_all_66 : decode cX6_all 66 = .ok (.iconst 1, 1) := by decide +kernel
theorem dX6_all_67 : decode cX6_all 67 = .ok (.if_icmp .ne 9, 3) := by decide +kernel
theorem dX6_all_70 : decode cX6_all 70 = .ok (.iload 5, 2) := by decide +kernel
theorem dX6_all_72 : decode cX6_all 72 = .ok (.i2l, 1) := by decide +kernel
theorem dX6_all_73 : decode cX6_all 73 = .ok (.goto 4, 3) := by decide +kernel
theorem dX6_all_76 : decode cX6_all 76 = .ok (.lconst 0, 1) := by decide +kernel
theorem dX6_all_77 : decode cX6_all 77 = .ok (.ladd, 1) := by decide +kernel
theorem dX6_all_78 : decode cX6_all 78 = .ok (.lstore_n 2, 1) := by decide +kernel
theorem dX6_all_79 : decode cX6_all 79 = .ok (.iinc 4 1, 3) := by decide +kernel
theorem dX6_all_82 : decode cX6_all 82 = .ok (.goto (-43), 3) := by decide +kernel
theorem dX6_all_85 : decode cX6_all 85 = .ok (.lload_n 2, 1) := by decide +kernel
theorem dX6_all_86 : decode cX6_all 86 = .ok (.aload_n 0, 1) := by decide +kernel
theorem dX6_all_87 : decode cX6_all 87 = .ok (.invokevirtual 140, 3) := by decide +kernel
theorem dX6_all_90 : decode cX6_all 90 = .ok (.iload_n 1, 1) := by decide +kernel
theorem dX6_all_91 : decode cX6_all 91 = .ok (.invokestatic 144, 3) := by decide +kernel
theorem dX6_all_94 : decode cX6_all 94 = .ok (.lreturn, 1) := by decide +kernel
theorem dX6_isApart_0 : decode cX6_isApart 0 = .ok (.iconst 1, 1) := by decide +kernel
theorem dX6_isApart_1 : decode cX6_isApart 1 = .ok (.istore_n 1, 1) := by decide +kernel
theorem dX6_isApart_2 : decode cX6_isApart 2 = .ok (.iconst 0, 1) := by decide +kernel
theorem dX6_isApart_3 : decode cX6_isApart 3 = .ok (.istore_n 2, 1) := by decide +kernel
theorem dX6_isApart_4 : decode cX6_isApart 4 = .ok (.iload_n 2, 1) := by decide +kernel
theorem dX6_isApart_5 : decode cX6_isApart 5 = .ok (.aload_n 0, 1) := by decide +kernel
theorem dX6_isApart_6 : decode cX6_isApart 6 = .ok (.getfield 20, 3) := by decide +kernel
theorem dX6_isApart_9 : decode cX6_isApart 9 = .ok (.if_icmp .ge 41, 3) := by decide +kernel
theorem dX6_isApart_12 : decode cX6_isApart 12 = .ok (.iconst 0, 1) := by decide +kernel
theorem dX6_isApart_13 : decode cX6_isApart 13 = .ok (.istore_n 3, 1) := by decide +kernel
theorem dX6_isApart_14 : decode cX6_isApart 14 = .ok (.iload_n 3, 1) := by decide +kernel
theorem dX6_isApart_15 : decode cX6_isApart 15 = .ok (.iload_n 2, 1) := by decide +kernel
theorem dX6_isApart_16 : decode cX6_isApart 16 = .ok (.if_icmp .ge 28, 3) := by decide +kernel
theorem dX6_isApart_19 : decode cX6_isApart 19 = .ok (.iload_n 1, 1) := by decide +kernel
theorem dX6_isApart_20 : decode cX6_isApart 20 = .ok (.ifCond .eq 16, 3) := by decide +kernel
theorem dX6_isApart_23 : decode cX6_isApart 23 = .ok (.aload_n 0, 1) := by decide +kernel
theorem dX6_isApart_24 : decode cX6_isApart 24 = .ok (.iload_n 2, 1) := by decide +kernel
theorem dX6_isApart_25 : decode cX6_isApart 25 = .ok (.iload_n 3, 1) := by decide +kernel
theorem dX6_isApart_26 : decode cX6_isApart 26 = .ok (.invokevirtual 106, 3) := by decide +kernel
theorem dX6_isApart_29 : decode cX6_isApart 29 = .ok (.ifCond .ge 7, 3) := by decide +kernel
theorem dX6_isApart_32 : decode cX6_isApart 32 = .ok (.iconst 1, 1) := by decide +kernel
theorem dX6_isApart_33 : decode cX6_isApart 33 = .ok (.goto 4, 3) := by decide +kernel
theorem dX6_isApart_36 : decode cX6_isApart 36 = .ok (.iconst 0, 1) := by decide +kernel
theorem dX6_isApart_37 : decode cX6_isApart 37 = .ok (.istore_n 1, 1) := by decide +kernel
theorem dX6_isApart_38 : decode cX6_isApart 38 = .ok (.iinc 3 1, 3) := by decide +kernel
theorem dX6_isApart_41 : decode cX6_isApart 41 = .ok (.goto (-27), 3) := by decide +kernel
theorem dX6_isApart_44 : decode cX6_isApart 44 = .ok (.iinc 2 1, 3) := by decide +kernel
theorem dX6_isApart_47 : decode cX6_isApart 47 = .ok (.goto (-43), 3) := by decide +kernel
theorem dX6_isApart_50 : decode cX6_isApart 50 = .ok (.iload_n 1, 1) := by decide +kernel
theorem dX6_isApart_51 : decode cX6_isApart 51 = .ok (.ireturn, 1) := by decide +kernel
theorem dX6_holds_0 : decode cX6_holds 0 = .ok (.iload_n 1, 1) := by decide +kernel
theorem dX6_holds_1 : decode cX6_holds 1 = .ok (.tableswitch 60 0 2 #[27, 41, 46], 27) := by decide +kernel
theorem dX6_holds_28 : decode cX6_holds 28 = .ok (.aload_n 0, 1) := by decide +kernel
theorem dX6_holds_29 : decode cX6_holds 29 = .ok (.invokevirtual 103, 3) := by decide +kernel
theorem dX6_holds_32 : decode cX6_holds 32 = .ok (.iconst 1, 1) := by decide +kernel
theorem dX6_holds_33 : decode cX6_holds 33 = .ok (.if_icmp .ne 7, 3) := by decide +kernel
theorem dX6_holds_36 : decode cX6_holds 36 = .ok (.iconst 1, 1) := by decide +kernel
theorem dX6_holds_37 : decode cX6_holds 37 = .ok (.goto 4, 3) := by decide +kernel
theorem dX6_holds_40 : decode cX6_holds 40 = .ok (.iconst 0, 1) := by decide +kernel
theorem dX6_holds_41 : decode cX6_holds 41 = .ok (.ireturn, 1) := by decide +kernel
theorem dX6_holds_42 : decode cX6_holds 42 = .ok (.aload_n 0, 1) := by decide +kernel
theorem dX6_holds_43 : decode cX6_holds 43 = .ok (.invokevirtual 148, 3) := by decide +kernel
theorem dX6_holds_46 : decode cX6_holds 46 = .ok (.ireturn, 1) := by decide +kernel
theorem dX6_holds_47 : decode cX6_holds 47 = .ok (.aload_n 0, 1) := by decide +kernel
theorem dX6_holds_48 : decode cX6_holds 48 = .ok (.invokevirtual 103, 3) := by decide +kernel
theorem dX6_holds_51 : decode cX6_holds 51 = .ok (.iconst 2, 1) := by decide +kernel
theorem dX6_holds_52 : decode cX6_holds 52 = .ok (.if_icmp .ne 7, 3) := by decide +kernel
theorem dX6_holds_55 : decode cX6_holds 55 = .ok (.iconst 1, 1) := by decide +kernel
theorem dX6_holds_56 : decode cX6_holds 56 = .ok (.goto 4, 3) := by decide +kernel
theorem dX6_holds_59 : decode cX6_holds 59 = .ok (.iconst 0, 1) := by decide +kernel
theorem dX6_holds_60 : decode cX6_holds 60 = .ok (.ireturn, 1) := by decide +kernel
theorem dX6_holds_61 : decode cX6_holds 61 = .ok (.aload_n 0, 1) := by decide +kernel
theorem dX6_holds_62 : decode cX6_holds 62 = .ok (.iload_n 2, 1) := by decide +kernel
theorem dX6_holds_63 : decode cX6_holds 63 = .ok (.invokevirtual 113, 3) := by decide +kernel
theorem dX6_holds_66 : decode cX6_holds 66 = .ok (.ireturn, 1) := by decide +kernel
theorem dX6_countIn_0 : decode cX6_countIn 0 = .ok (.aload_n 0, 1) := by decide +kernel
theorem dX6_countIn_1 : decode cX6_countIn 1 = .ok (.iload_n 1, 1) := by decide +kernel
theorem dX6_countIn_2 : decode cX6_countIn 2 = .ok (.invokevirtual 137, 3) := by decide +kernel
theorem dX6_countIn_5 : decode cX6_countIn 5 = .ok (.istore_n 3, 1) := by decide +kernel
theorem dX6_countIn_6 : decode cX6_countIn 6 = .ok (.iload_n 2, 1) := by decide +kernel
theorem dX6_countIn_7 : decode cX6_countIn 7 = .ok (.iconst 0, 1) := by decide +kernel
theorem dX6_countIn_8 : decode cX6_countIn 8 = .ok (.aload_n 0, 1) := by decide +kernel
theorem dX6_countIn_9 : decode cX6_countIn 9 = .ok (.getfield 89, 3) := by decide +kernel
theorem dX6_countIn_12 : decode cX6_countIn 12 = .ok (.iconst 1, 1) := by decide +kernel
theorem dX6_countIn_13 : decode cX6_countIn 13 = .ok (.isub, 1) := by decide +kernel
theorem dX6_countIn_14 : decode cX6_countIn 14 = .ok (.invokestatic 57, 3) := by decide +kernel
theorem dX6_countIn_17 : decode cX6_countIn 17 = .ok (.ifCond .eq 21, 3) := by decide +kernel
theorem dX6_countIn_20 : decode cX6_countIn 20 = .ok (.iload_n 3, 1) := by decide +kernel
theorem dX6_countIn_21 : decode cX6_countIn 21 = .ok (.ifCond .lt 17, 3) := by decide +kernel
theorem dX6_countIn_24 : decode cX6_countIn 24 = .ok (.aload_n 0, 1) := by decide +kernel
theorem dX6_countIn_25 : decode cX6_countIn 25 = .ok (.getfield 35, 3) := by decide +kernel
theorem dX6_countIn_28 : decode cX6_countIn 28 = .ok (.aload_n 0, 1) := by decide +kernel
theorem dX6_countIn_29 : decode cX6_countIn 29 = .ok (.getfield 38, 3) := by decide +kernel
theorem dX6_countIn_32 : decode cX6_countIn 32 = .ok (.iload_n 2, 1) := by decide +kernel
theorem dX6_countIn_33 : decode cX6_countIn 33 = .ok (.iaload, 1) := by decide +kernel
theorem dX6_countIn_34 : decode cX6_countIn 34 = .ok (.iaload, 1) := by decide +kernel
theorem dX6_countIn_35 : decode cX6_countIn 35 = .ok (.goto 5, 3) := by decide +kernel
theorem dX6_countIn_38 : decode cX6_countIn 38 = .ok (.bipush (-6), 2) := by decide +kernel
theorem dX6_countIn_40 : decode cX6_countIn 40 = .ok (.ireturn, 1) := by decide +kernel
theorem dX6_write_0 : decode cX6_write 0 = .ok (.iload_n 1, 1) := by decide +kernel
theorem dX6_write_1 : decode cX6_write 1 = .ok (.iconst 3, 1) := by decide +kernel
theorem dX6_write_2 : decode cX6_write 2 = .ok (.if_icmp .ne 13, 3) := by decide +kernel
theorem dX6_write_5 : decode cX6_write 5 = .ok (.aload_n 0, 1) := by decide +kernel
theorem dX6_write_6 : decode cX6_write 6 = .ok (.iload_n 2, 1) := by decide +kernel
theorem dX6_write_7 : decode cX6_write 7 = .ok (.invokevirtual 78, 3) := by decide +kernel
theorem dX6_write_10 : decode cX6_write 10 = .ok (.ifCond .ne 5, 3) := by decide +kernel
theorem dX6_write_13 : decode cX6_write 13 = .ok (.iconst (-1), 1) := by decide +kernel
theorem dX6_write_14 : decode cX6_write 14 = .ok (.ireturn, 1) := by decide +kernel
theorem dX6_write_15 : decode cX6_write 15 = .ok (.iload_n 1, 1) := by decide +kernel
theorem dX6_write_16 : decode cX6_write 16 = .ok (.iconst 0, 1) := by decide +kernel
theorem dX6_write_17 : decode cX6_write 17 = .ok (.iconst 3, 1) := by decide +kernel
theorem dX6_write_18 : decode cX6_write 18 = .ok (.invokestatic 57, 3) := by decide +kernel
theorem dX6_write_21 : decode cX6_write 21 = .ok (.ifCond .ne 6, 3) := by decide +kernel
theorem dX6_write_24 : decode cX6_write 24 = .ok (.bipush (-2), 2) := by decide +kernel
theorem dX6_write_26 : decode cX6_write 26 = .ok (.ireturn, 1) := by decide +kernel
theorem dX6_write_27 : decode cX6_write 27 = .ok (.aload_n 0, 1) := by decide +kernel
theorem dX6_write_28 : decode cX6_write 28 = .ok (.bipush 63, 2) := by decide +kernel
theorem dX6_write_30 : decode cX6_write 30 = .ok (.invokevirtual 85, 3) := by decide +kernel
theorem dX6_write_33 : decode cX6_write 33 = .ok (.ifCond .le 6, 3) := by decide +kernel
theorem dX6_write_36 : decode cX6_write 36 = .ok (.bipush (-3), 2) := by decide +kernel
theorem dX6_write_38 : decode cX6_write 38 = .ok (.ireturn, 1) := by decide +kernel
theorem dX6_write_39 : decode cX6_write 39 = .ok (.aload_n 0, 1) := by decide +kernel
theorem dX6_write_40 : decode cX6_write 40 = .ok (.aload_n 0, 1) := by decide +kernel
theorem dX6_write_41 : decode cX6_write 41 = .ok (.getfield 23, 3) := by decide +kernel
theorem dX6_write_44 : decode cX6_write 44 = .ok (.invokevirtual 96, 3) := by decide +kernel
theorem dX6_write_47 : decode cX6_write 47 = .ok (.iconst 0, 1) := by decide +kernel
theorem dX6_write_48 : decode cX6_write 48 = .ok (.istore 4, 2) := by decide +kernel
theorem dX6_write_50 : decode cX6_write 50 = .ok (.bipush (-6), 2) := by decide +kernel
theorem dX6_write_52 : decode cX6_write 52 = .ok (.istore 5, 2) := by decide +kernel
theorem dX6_write_54 : decode cX6_write 54 = .ok (.iconst 0, 1) := by decide +kernel
theorem dX6_write_55 : decode cX6_write 55 = .ok (.istore 6, 2) := by decide +kernel
theorem dX6_write_57 : decode cX6_write 57 = .ok (.iload 6, 2) := by decide +kernel
theorem dX6_write_59 : decode cX6_write 59 = .ok (.aload_n 0, 1) := by decide +kernel
theorem dX6_write_60 : decode cX6_write 60 = .ok (.invokevirtual 134, 3) := by decide +kernel
theorem dX6_write_63 : decode cX6_write 63 = .ok (.if_icmp .ge 55, 3) := by decide +kernel
theorem dX6_write_66 : decode cX6_write 66 = .ok (.aload_n 0, 1) := by decide +kernel
theorem dX6_write_67 : decode cX6_write 67 = .ok (.iload 6, 2) := by decide +kernel
theorem dX6_write_69 : decode cX6_write 69 = .ok (.invokevirtual 137, 3) := by decide +kernel
theorem dX6_write_72 : decode cX6_write 72 = .ok (.istore 7, 2) := by decide +kernel
theorem dX6_write_74 : decode cX6_write 74 = .ok (.iload 7, 2) := by decide +kernel
theorem dX6_write_76 : decode cX6_write 76 = .ok (.ifCond .lt 36, 3) := by decide +kernel
theorem dX6_write_79 : decode cX6_write 79 = .ok (.aload_n 0, 1) := by decide +kernel
theorem dX6_write_80 : decode cX6_write 80 = .ok (.invokevirtual 151, 3) := by decide +kernel
theorem dX6_write_83 : decode cX6_write 83 = .ok (.ifCond .eq 29, 3) := by decide +kernel
theorem dX6_write_86 : decode cX6_write 86 = .ok (.aload_n 0, 1) := by decide +kernel
theorem dX6_write_87 : decode cX6_write 87 = .ok (.iload_n 1, 1) := by decide +kernel
theorem dX6_write_88 : decode cX6_write 88 = .ok (.iload_n 2, 1) := by decide +kernel
theorem dX6_write_89 : decode cX6_write 89 = .ok (.invokevirtual 154, 3) := by decide +kernel
theorem dX6_write_92 : decode cX6_write 92 = .ok (.ifCond .eq 20, 3) := by decide +kernel
theorem dX6_write_95 : decode cX6_write 95 = .ok (.iload 5, 2) := by decide +kernel
theorem dX6_write_97 : decode cX6_write 97 = .ok (.ifCond .ge 8, 3) := by decide +kernel
theorem dX6_write_100 : decode cX6_write 100 = .ok (.iload 6, 2) := by decide +kernel
theorem dX6_write_102 : decode cX6_write 102 = .ok (.goto 5, 3) := by decide +kernel
theorem dX6_write_105 : decode cX6_write 105 = .ok (.iload 5, 2) := by decide +kernel
theorem dX6_write_107 : decode cX6_write 107 = .ok (.istore 5, 2) := by decide +kernel
theorem dX6_write_109 : decode cX6_write 109 = .ok (.iinc 4 1, 3) := by decide +kernel
theorem dX6_write_112 : decode cX6_write 112 = .ok (.iinc 6 1, 3) := by decide +kernel
theorem dX6_write_115 : decode cX6_write 115 = .ok (.goto (-58), 3) := by decide +kernel
theorem dX6_write_118 : decode cX6_write 118 = .ok (.iload_n 3, 1) := by decide +kernel
theorem dX6_write_119 : decode cX6_write 119 = .ok (.iconst (-1), 1) := by decide +kernel
theorem dX6_write_120 : decode cX6_write 120 = .ok (.if_icmp .ne 8, 3) := by decide +kernel
theorem dX6_write_123 : decode cX6_write 123 = .ok (.iload 4, 2) := by decide +kernel
theorem dX6_write_125 : decode cX6_write 125 = .ok (.goto 20, 3) := by decide +kernel
theorem dX6_write_128 : decode cX6_write 128 = .ok (.iload 5, 2) := by decide +kernel
theorem dX6_write_130 : decode cX6_write 130 = .ok (.ifCond .ge 8, 3) := by decide +kernel
theorem dX6_write_133 : decode cX6_write 133 = .ok (.bipush (-6), 2) := by decide +kernel
theorem dX6_write_135 : decode cX6_write 135 = .ok (.goto 10, 3) := by decide +kernel
theorem dX6_write_138 : decode cX6_write 138 = .ok (.aload_n 0, 1) := by decide +kernel
theorem dX6_write_139 : decode cX6_write 139 = .ok (.iload 5, 2) := by decide +kernel
theorem dX6_write_141 : decode cX6_write 141 = .ok (.iload_n 3, 1) := by decide +kernel
theorem dX6_write_142 : decode cX6_write 142 = .ok (.invokevirtual 157, 3) := by decide +kernel
theorem dX6_write_145 : decode cX6_write 145 = .ok (.ireturn, 1) := by decide +kernel
theorem dX6_firstPassed_0 : decode cX6_firstPassed 0 = .ok (.iconst 0, 1) := by decide +kernel
theorem dX6_firstPassed_1 : decode cX6_firstPassed 1 = .ok (.istore_n 1, 1) := by decide +kernel
theorem dX6_firstPassed_2 : decode cX6_firstPassed 2 = .ok (.aload_n 0, 1) := by decide +kernel
theorem dX6_firstPassed_3 : decode cX6_firstPassed 3 = .ok (.iload_n 1, 1) := by decide +kernel
theorem dX6_firstPassed_4 : decode cX6_firstPassed 4 = .ok (.invokevirtual 113, 3) := by decide +kernel
theorem dX6_firstPassed_7 : decode cX6_firstPassed 7 = .ok (.ifCond .ne 9, 3) := by decide +kernel
theorem dX6_firstPassed_10 : decode cX6_firstPassed 10 = .ok (.iinc 1 1, 3) := by decide +kernel
theorem dX6_firstPassed_13 : decode cX6_firstPassed 13 = .ok (.goto (-11), 3) := by decide +kernel
theorem dX6_firstPassed_16 : decode cX6_firstPassed 16 = .ok (.iload_n 1, 1) := by decide +kernel
theorem dX6_firstPassed_17 : decode cX6_firstPassed 17 = .ok (.ireturn, 1) := by decide +kernel
theorem dX6_soonest_0 : decode cX6_soonest 0 = .ok (.aload_n 0, 1) := by decide +kernel
theorem dX6_soonest_1 : decode cX6_soonest 1 = .ok (.bipush 63, 2) := by decide +kernel
theorem dX6_soonest_3 : decode cX6_soonest 3 = .ok (.invokevirtual 85, 3) := by decide +kernel
theorem dX6_soonest_6 : decode cX6_soonest 6 = .ok (.ifCond .le 6, 3) := by decide +kernel
theorem dX6_soonest_9 : decode cX6_soonest 9 = .ok (.bipush (-3), 2) := by decide +kernel
theorem dX6_soonest_11 : decode cX6_soonest 11 = .ok (.ireturn, 1) := by decide +kernel
theorem dX6_soonest_12 : decode cX6_soonest 12 = .ok (.aload_n 0, 1) := by decide +kernel
theorem dX6_soonest_13 : decode cX6_soonest 13 = .ok (.aload_n 0, 1) := by decide +kernel
theorem dX6_soonest_14 : decode cX6_soonest 14 = .ok (.getfield 23, 3) := by decide +kernel
theorem dX6_soonest_17 : decode cX6_soonest 17 = .ok (.invokevirtual 96, 3) := by decide +kernel
theorem dX6_soonest_20 : decode cX6_soonest 20 = .ok (.bipush (-6), 2) := by decide +kernel
theorem dX6_soonest_22 : decode cX6_soonest 22 = .ok (.istore_n 2, 1) := by decide +kernel
theorem dX6_soonest_23 : decode cX6_soonest 23 = .ok (.bipush (-6), 2) := by decide +kernel
theorem dX6_soonest_25 : decode cX6_soonest 25 = .ok (.istore_n 3, 1) := by decide +kernel
theorem dX6_soonest_26 : decode cX6_soonest 26 = .ok (.iconst 0, 1) := by decide +kernel
theorem dX6_soonest_27 : decode cX6_soonest 27 = .ok (.istore 4, 2) := by decide +kernel
theorem dX6_soonest_29 : decode cX6_soonest 29 = .ok (.iload 4, 2) := by decide +kernel
theorem dX6_soonest_31 : decode cX6_soonest 31 = .ok (.aload_n 0, 1) := by decide +kernel
theorem dX6_soonest_32 : decode cX6_soonest 32 = .ok (.invokevirtual 134, 3) := by decide +kernel
theorem dX6_soonest_35 : decode cX6_soonest 35 = .ok (.if_icmp .ge 59, 3) := by decide +kernel
theorem dX6_soonest_38 : decode cX6_soonest 38 = .ok (.aload_n 0, 1) := by decide +kernel
theorem dX6_soonest_39 : decode cX6_soonest 39 = .ok (.iload 4, 2) := by decide +kernel
theorem dX6_soonest_41 : decode cX6_soonest 41 = .ok (.invokevirtual 137, 3) := by decide +kernel
theorem dX6_soonest_44 : decode cX6_soonest 44 = .ok (.istore 5, 2) := by decide +kernel
theorem dX6_soonest_46 : decode cX6_soonest 46 = .ok (.iload 5, 2) := by decide +kernel
theorem dX6_soonest_48 : decode cX6_soonest 48 = .ok (.ifCond .lt 40, 3) := by decide +kernel
theorem dX6_soonest_51 : decode cX6_soonest 51 = .ok (.aload_n 0, 1) := by decide +kernel
theorem dX6_soonest_52 : decode cX6_soonest 52 = .ok (.invokevirtual 151, 3) := by decide +kernel
theorem dX6_soonest_55 : decode cX6_soonest 55 = .ok (.ifCond .eq 33, 3) := by decide +kernel
theorem dX6_soonest_58 : decode cX6_soonest 58 = .ok (.aload_n 0, 1) := by decide +kernel
theorem dX6_soonest_59 : decode cX6_soonest 59 = .ok (.invokevirtual 103, 3) := by decide +kernel
theorem dX6_soonest_62 : decode cX6_soonest 62 = .ok (.iconst 1, 1) := by decide +kernel
theorem dX6_soonest_63 : decode cX6_soonest 63 = .ok (.if_icmp .ne 25, 3) := by decide +kernel
theorem dX6_soonest_66 : decode cX6_soonest 66 = .ok (.aload_n 0, 1) := by decide +kernel
theorem dX6_soonest_67 : decode cX6_soonest 67 = .ok (.invokevirtual 160, 3) := by decide +kernel
theorem dX6_soonest_70 : decode cX6_soonest 70 = .ok (.istore 6, 2) := by decide +kernel
theorem dX6_soonest_72 : decode cX6_soonest 72 = .ok (.iload_n 2, 1) := by decide +kernel
theorem dX6_soonest_73 : decode cX6_soonest 73 = .ok (.ifCond .lt 9, 3) := by decide +kernel
theorem dX6_soonest_76 : decode cX6_soonest 76 = .ok (.iload 6, 2) := by decide +kernel
theorem dX6_soonest_78 : decode cX6_soonest 78 = .ok (.iload_n 3, 1) := by decide +kernel
theorem dX6_soonest_79 : decode cX6_soonest 79 = .ok (.if_icmp .ge 9, 3) := by decide +kernel
theorem dX6_soonest_82 : decode cX6_soonest 82 = .ok (.iload 4, 2) := by decide +kernel
theorem dX6_soonest_84 : decode cX6_soonest 84 = .ok (.istore_n 2, 1) := by decide +kernel
theorem dX6_soonest_85 : decode cX6_soonest 85 = .ok (.iload 6, 2) := by decide +kernel
theorem dX6_soonest_87 : decode cX6_soonest 87 = .ok (.istore_n 3, 1) := by decide +kernel
theorem dX6_soonest_88 : decode cX6_soonest 88 = .ok (.iinc 4 1, 3) := by decide +kernel
theorem dX6_soonest_91 : decode cX6_soonest 91 = .ok (.goto (-62), 3) := by decide +kernel
theorem dX6_soonest_94 : decode cX6_soonest 94 = .ok (.iload_n 2, 1) := by decide +kernel
theorem dX6_soonest_95 : decode cX6_soonest 95 = .ok (.ifCond .ge 8, 3) := by decide +kernel
theorem dX6_soonest_98 : decode cX6_soonest 98 = .ok (.bipush (-6), 2) := by decide +kernel
theorem dX6_soonest_100 : decode cX6_soonest 100 = .ok (.goto 18, 3) := by decide +kernel
theorem dX6_soonest_103 : decode cX6_soonest 103 = .ok (.iload_n 1, 1) := by decide +kernel
theorem dX6_soonest_104 : decode cX6_soonest 104 = .ok (.iconst (-1), 1) := by decide +kernel
theorem dX6_soonest_105 : decode cX6_soonest 105 = .ok (.if_icmp .ne 7, 3) := by decide +kernel
theorem dX6_soonest_108 : decode cX6_soonest 108 = .ok (.iload_n 3, 1) := by decide +kernel
theorem dX6_soonest_109 : decode cX6_soonest 109 = .ok (.goto 9, 3) := by decide +kernel
theorem dX6_soonest_112 : decode cX6_soonest 112 = .ok (.aload_n 0, 1) := by decide +kernel
theorem dX6_soonest_113 : decode cX6_soonest 113 = .ok (.iload_n 2, 1) := by decide +kernel
theorem dX6_soonest_114 : decode cX6_soonest 114 = .ok (.iload_n 1, 1) := by decide +kernel
theorem dX6_soonest_115 : decode cX6_soonest 115 = .ok (.invokevirtual 157, 3) := by decide +kernel
theorem dX6_soonest_118 : decode cX6_soonest 118 = .ok (.ireturn, 1) := by decide +kernel
theorem dX6_seen_0 : decode cX6_seen 0 = .ok (.aload_n 0, 1) := by decide +kernel
theorem dX6_seen_1 : decode cX6_seen 1 = .ok (.iload_n 1, 1) := by decide +kernel
theorem dX6_seen_2 : decode cX6_seen 2 = .ok (.invokevirtual 78, 3) := by decide +kernel
theorem dX6_seen_5 : decode cX6_seen 5 = .ok (.ifCond .eq 11, 3) := by decide +kernel
theorem dX6_seen_8 : decode cX6_seen 8 = .ok (.aload_n 0, 1) := by decide +kernel
theorem dX6_seen_9 : decode cX6_seen 9 = .ok (.iload_n 2, 1) := by decide +kernel
theorem dX6_seen_10 : decode cX6_seen 10 = .ok (.invokevirtual 78, 3) := by decide +kernel
theorem dX6_seen_13 : decode cX6_seen 13 = .ok (.ifCond .ne 5, 3) := by decide +kernel
theorem dX6_seen_16 : decode cX6_seen 16 = .ok (.iconst (-1), 1) := by decide +kernel
theorem dX6_seen_17 : decode cX6_seen 17 = .ok (.ireturn, 1) := by decide +kernel
theorem dX6_seen_18 : decode cX6_seen 18 = .ok (.aload_n 0, 1) := by decide +kernel
theorem dX6_seen_19 : decode cX6_seen 19 = .ok (.getfield 72, 3) := by decide +kernel
theorem dX6_seen_22 : decode cX6_seen 22 = .ok (.bipush 6, 2) := by decide +kernel
theorem dX6_seen_24 : decode cX6_seen 24 = .ok (.if_icmp .ne 6, 3) := by decide +kernel
theorem dX6_seen_27 : decode cX6_seen 27 = .ok (.bipush (-4), 2) := by decide +kernel
theorem dX6_seen_29 : decode cX6_seen 29 = .ok (.ireturn, 1) := by decide +kernel
theorem dX6_seen_30 : decode cX6_seen 30 = .ok (.aload_n 0, 1) := by decide +kernel
theorem dX6_seen_31 : decode cX6_seen 31 = .ok (.getfield 32, 3) := by decide +kernel
theorem dX6_seen_34 : decode cX6_seen 34 = .ok (.iconst 2, 1) := by decide +kernel
theorem dX6_seen_35 : decode cX6_seen 35 = .ok (.aload_n 0, 1) := by decide +kernel
theorem dX6_seen_36 : decode cX6_seen 36 = .ok (.getfield 72, 3) := by decide +kernel
theorem dX6_seen_39 : decode cX6_seen 39 = .ok (.imul, 1) := by decide +kernel
theorem dX6_seen_40 : decode cX6_seen 40 = .ok (.iload_n 1, 1) := by decide +kernel
theorem dX6_seen_41 : decode cX6_seen 41 = .ok (.iastore, 1) := by decide +kernel
theorem dX6_seen_42 : decode cX6_seen 42 = .ok (.aload_n 0, 1) := by decide +kernel
theorem dX6_seen_43 : decode cX6_seen 43 = .ok (.getfield 32, 3) := by decide +kernel
theorem dX6_seen_46 : decode cX6_seen 46 = .ok (.iconst 2, 1) := by decide +kernel
theorem dX6_seen_47 : decode cX6_seen 47 = .ok (.aload_n 0, 1) := by decide +kernel
theorem dX6_seen_48 : decode cX6_seen 48 = .ok (.getfield 72, 3) := by decide +kernel
theorem dX6_seen_51 : decode cX6_seen 51 = .ok (.imul, 1) := by decide +kernel
theorem dX6_seen_52 : decode cX6_seen 52 = .ok (.iconst 1, 1) := by decide +kernel
theorem dX6_seen_53 : decode cX6_seen 53 = .ok (.iadd, 1) := by decide +kernel
theorem dX6_seen_54 : decode cX6_seen 54 = .ok (.iload_n 2, 1) := by decide +kernel
theorem dX6_seen_55 : decode cX6_seen 55 = .ok (.iastore, 1) := by decide +kernel
theorem dX6_seen_56 : decode cX6_seen 56 = .ok (.aload_n 0, 1) := by decide +kernel
theorem dX6_seen_57 : decode cX6_seen 57 = .ok (.dup, 1) := by decide +kernel
theorem dX6_seen_58 : decode cX6_seen 58 = .ok (.getfield 72, 3) := by decide +kernel
theorem dX6_seen_61 : decode cX6_seen 61 = .ok (.iconst 1, 1) := by decide +kernel
theorem dX6_seen_62 : decode cX6_seen 62 = .ok (.iadd, 1) := by decide +kernel
theorem dX6_seen_63 : decode cX6_seen 63 = .ok (.putfield 72, 3) := by decide +kernel
theorem dX6_seen_66 : decode cX6_seen 66 = .ok (.aload_n 0, 1) := by decide +kernel
theorem dX6_seen_67 : decode cX6_seen 67 = .ok (.getfield 72, 3) := by decide +kernel
theorem dX6_seen_70 : decode cX6_seen 70 = .ok (.ireturn, 1) := by decide +kernel
theorem dX6_forget_0 : decode cX6_forget 0 = .ok (.aload_n 0, 1) := by decide +kernel
theorem dX6_forget_1 : decode cX6_forget 1 = .ok (.getfield 72, 3) := by decide +kernel
theorem dX6_forget_4 : decode cX6_forget 4 = .ok (.istore_n 1, 1) := by decide +kernel
theorem dX6_forget_5 : decode cX6_forget 5 = .ok (.aload_n 0, 1) := by decide +kernel
theorem dX6_forget_6 : decode cX6_forget 6 = .ok (.iconst 0, 1) := by decide +kernel
theorem dX6_forget_7 : decode cX6_forget 7 = .ok (.putfield 72, 3) := by decide +kernel
theorem dX6_forget_10 : decode cX6_forget 10 = .ok (.iload_n 1, 1) := by decide +kernel
theorem dX6_forget_11 : decode cX6_forget 11 = .ok (.ireturn, 1) := by decide +kernel
theorem dX6_areSeen_0 : decode cX6_areSeen 0 = .ok (.iconst 1, 1) := by decide +kernel
theorem dX6_areSeen_1 : decode cX6_areSeen 1 = .ok (.istore_n 1, 1) := by decide +kernel
theorem dX6_areSeen_2 : decode cX6_areSeen 2 = .ok (.iconst 0, 1) := by decide +kernel
theorem dX6_areSeen_3 : decode cX6_areSeen 3 = .ok (.istore_n 2, 1) := by decide +kernel
theorem dX6_areSeen_4 : decode cX6_areSeen 4 = .ok (.iload_n 2, 1) := by decide +kernel
theorem dX6_areSeen_5 : decode cX6_areSeen 5 = .ok (.aload_n 0, 1) := by decide +kernel
theorem dX6_areSeen_6 : decode cX6_areSeen 6 = .ok (.getfield 72, 3) := by decide +kernel
theorem dX6_areSeen_9 : decode cX6_areSeen 9 = .ok (.if_icmp .ge 44, 3) := by decide +kernel
theorem dX6_areSeen_12 : decode cX6_areSeen 12 = .ok (.iload_n 1, 1) := by decide +kernel
theorem dX6_areSeen_13 : decode cX6_areSeen 13 = .ok (.ifCond .eq 32, 3) := by decide +kernel
theorem dX6_areSeen_16 : decode cX6_areSeen 16 = .ok (.aload_n 0, 1) := by decide +kernel
theorem dX6_areSeen_17 : decode cX6_areSeen 17 = .ok (.aload_n 0, 1) := by decide +kernel
theorem dX6_areSeen_18 : decode cX6_areSeen 18 = .ok (.getfield 32, 3) := by decide +kernel
theorem dX6_areSeen_21 : decode cX6_areSeen 21 = .ok (.iconst 2, 1) := by decide +kernel
theorem dX6_areSeen_22 : decode cX6_areSeen 22 = .ok (.iload_n 2, 1) := by decide +kernel
theorem dX6_areSeen_23 : decode cX6_areSeen 23 = .ok (.imul, 1) := by decide +kernel
theorem dX6_areSeen_24 : decode cX6_areSeen 24 = .ok (.iaload, 1) := by decide +kernel
theorem dX6_areSeen_25 : decode cX6_areSeen 25 = .ok (.invokevirtual 100, 3) := by decide +kernel
theorem dX6_areSeen_28 : decode cX6_areSeen 28 = .ok (.aload_n 0, 1) := by decide +kernel
theorem dX6_areSeen_29 : decode cX6_areSeen 29 = .ok (.getfield 32, 3) := by decide +kernel
theorem dX6_areSeen_32 : decode cX6_areSeen 32 = .ok (.iconst 2, 1) := by decide +kernel
theorem dX6_areSeen_33 : decode cX6_areSeen 33 = .ok (.iload_n 2, 1) := by decide +kernel
theorem dX6_areSeen_34 : decode cX6_areSeen 34 = .ok (.imul, 1) := by decide +kernel
theorem dX6_areSeen_35 : decode cX6_areSeen 35 = .ok (.iconst 1, 1) := by decide +kernel
theorem dX6_areSeen_36 : decode cX6_areSeen 36 = .ok (.iadd, 1) := by decide +kernel
theorem dX6_areSeen_37 : decode cX6_areSeen 37 = .ok (.iaload, 1) := by decide +kernel
theorem dX6_areSeen_38 : decode cX6_areSeen 38 = .ok (.if_icmp .ne 7, 3) := by decide +kernel
theorem dX6_areSeen_41 : decode cX6_areSeen 41 = .ok (.iconst 1, 1) := by decide +kernel
theorem dX6_areSeen_42 : decode cX6_areSeen 42 = .ok (.goto 4, 3) := by decide +kernel
theorem dX6_areSeen_45 : decode cX6_areSeen 45 = .ok (.iconst 0, 1) := by decide +kernel
theorem dX6_areSeen_46 : decode cX6_areSeen 46 = .ok (.istore_n 1, 1) := by decide +kernel
theorem dX6_areSeen_47 : decode cX6_areSeen 47 = .ok (.iinc 2 1, 3) := by decide +kernel
theorem dX6_areSeen_50 : decode cX6_areSeen 50 = .ok (.goto (-46), 3) := by decide +kernel
theorem dX6_areSeen_53 : decode cX6_areSeen 53 = .ok (.iload_n 1, 1) := by decide +kernel
theorem dX6_areSeen_54 : decode cX6_areSeen 54 = .ok (.ireturn, 1) := by decide +kernel
theorem dX6_fits_0 : decode cX6_fits 0 = .ok (.aload_n 0, 1) := by decide +kernel
theorem dX6_fits_1 : decode cX6_fits 1 = .ok (.bipush 42, 2) := by decide +kernel
theorem dX6_fits_3 : decode cX6_fits 3 = .ok (.invokevirtual 85, 3) := by decide +kernel
theorem dX6_fits_6 : decode cX6_fits 6 = .ok (.ifCond .le 6, 3) := by decide +kernel
theorem dX6_fits_9 : decode cX6_fits 9 = .ok (.bipush (-3), 2) := by decide +kernel
theorem dX6_fits_11 : decode cX6_fits 11 = .ok (.ireturn, 1) := by decide +kernel
theorem dX6_fits_12 : decode cX6_fits 12 = .ok (.aload_n 0, 1) := by decide +kernel
theorem dX6_fits_13 : decode cX6_fits 13 = .ok (.aload_n 0, 1) := by decide +kernel
theorem dX6_fits_14 : decode cX6_fits 14 = .ok (.getfield 23, 3) := by decide +kernel
theorem dX6_fits_17 : decode cX6_fits 17 = .ok (.invokevirtual 96, 3) := by decide +kernel
theorem dX6_fits_20 : decode cX6_fits 20 = .ok (.iconst 0, 1) := by decide +kernel
theorem dX6_fits_21 : decode cX6_fits 21 = .ok (.istore_n 1, 1) := by decide +kernel
theorem dX6_fits_22 : decode cX6_fits 22 = .ok (.iconst 0, 1) := by decide +kernel
theorem dX6_fits_23 : decode cX6_fits 23 = .ok (.istore_n 2, 1) := by decide +kernel
theorem dX6_fits_24 : decode cX6_fits 24 = .ok (.iload_n 2, 1) := by decide +kernel
theorem dX6_fits_25 : decode cX6_fits 25 = .ok (.aload_n 0, 1) := by decide +kernel
theorem dX6_fits_26 : decode cX6_fits 26 = .ok (.invokevirtual 134, 3) := by decide +kernel
theorem dX6_fits_29 : decode cX6_fits 29 = .ok (.if_icmp .ge 32, 3) := by decide +kernel
theorem dX6_fits_32 : decode cX6_fits 32 = .ok (.iload_n 1, 1) := by decide +kernel
theorem dX6_fits_33 : decode cX6_fits 33 = .ok (.aload_n 0, 1) := by decide +kernel
theorem dX6_fits_34 : decode cX6_fits 34 = .ok (.iload_n 2, 1) := by decide +kernel
theorem dX6_fits_35 : decode cX6_fits 35 = .ok (.invokevirtual 137, 3) := by decide +kernel
theorem dX6_fits_38 : decode cX6_fits 38 = .ok (.ifCond .le 14, 3) := by decide +kernel
theorem dX6_fits_41 : decode cX6_fits 41 = .ok (.aload_n 0, 1) := by decide +kernel
theorem dX6_fits_42 : decode cX6_fits 42 = .ok (.invokevirtual 163, 3) := by decide +kernel
theorem dX6_fits_45 : decode cX6_fits 45 = .ok (.ifCond .eq 7, 3) := by decide +kernel
theorem dX6_fits_48 : decode cX6_fits 48 = .ok (.iconst 1, 1) := by decide +kernel
theorem dX6_fits_49 : decode cX6_fits 49 = .ok (.goto 4, 3) := by decide +kernel
theorem dX6_fits_52 : decode cX6_fits 52 = .ok (.iconst 0, 1) := by decide +kernel
theorem dX6_fits_53 : decode cX6_fits 53 = .ok (.iadd, 1) := by decide +kernel
theorem dX6_fits_54 : decode cX6_fits 54 = .ok (.istore_n 1, 1) := by decide +kernel
theorem dX6_fits_55 : decode cX6_fits 55 = .ok (.iinc 2 1, 3) := by decide +kernel
theorem dX6_fits_58 : decode cX6_fits 58 = .ok (.goto (-34), 3) := by decide +kernel
theorem dX6_fits_61 : decode cX6_fits 61 = .ok (.iload_n 1, 1) := by decide +kernel
theorem dX6_fits_62 : decode cX6_fits 62 = .ok (.ireturn, 1) := by decide +kernel
theorem dX6_drawn_0 : decode cX6_drawn 0 = .ok (.iload_n 1, 1) := by decide +kernel
theorem dX6_drawn_1 : decode cX6_drawn 1 = .ok (.iconst 0, 1) := by decide +kernel
theorem dX6_drawn_2 : decode cX6_drawn 2 = .ok (.aload_n 0, 1) := by decide +kernel
theorem dX6_drawn_3 : decode cX6_drawn 3 = .ok (.bipush 63, 2) := by decide +kernel
theorem dX6_drawn_5 : decode cX6_drawn 5 = .ok (.invokevirtual 85, 3) := by decide +kernel
theorem dX6_drawn_8 : decode cX6_drawn 8 = .ok (.iconst 1, 1) := by decide +kernel
theorem dX6_drawn_9 : decode cX6_drawn 9 = .ok (.isub, 1) := by decide +kernel
theorem dX6_drawn_10 : decode cX6_drawn 10 = .ok (.invokestatic 57, 3) := by decide +kernel
theorem dX6_drawn_13 : decode cX6_drawn 13 = .ok (.ifCond .eq 13, 3) := by decide +kernel
theorem dX6_drawn_16 : decode cX6_drawn 16 = .ok (.iload_n 2, 1) := by decide +kernel
theorem dX6_drawn_17 : decode cX6_drawn 17 = .ok (.iconst 1, 1) := by decide +kernel
theorem dX6_drawn_18 : decode cX6_drawn 18 = .ok (.bipush 10, 2) := by decide +kernel
theorem dX6_drawn_20 : decode cX6_drawn 20 = .ok (.invokestatic 57, 3) := by decide +kernel
theorem dX6_drawn_23 : decode cX6_drawn 23 = .ok (.ifCond .ne 7, 3) := by decide +kernel
theorem dX6_drawn_26 : decode cX6_drawn 26 = .ok (.ldc2_w 128, 3) := by decide +kernel
theorem dX6_drawn_29 : decode cX6_drawn 29 = .ok (.lreturn, 1) := by decide +kernel
theorem dX6_drawn_30 : decode cX6_drawn 30 = .ok (.iload_n 3, 1) := by decide +kernel
theorem dX6_drawn_31 : decode cX6_drawn 31 = .ok (.iconst 0, 1) := by decide +kernel
theorem dX6_drawn_32 : decode cX6_drawn 32 = .ok (.iconst 1, 1) := by decide +kernel
theorem dX6_drawn_33 : decode cX6_drawn 33 = .ok (.invokestatic 57, 3) := by decide +kernel
theorem dX6_drawn_36 : decode cX6_drawn 36 = .ok (.ifCond .ne 7, 3) := by decide +kernel
theorem dX6_drawn_39 : decode cX6_drawn 39 = .ok (.ldc2_w 130, 3) := by decide +kernel
theorem dX6_drawn_42 : decode cX6_drawn 42 = .ok (.lreturn, 1) := by decide +kernel
theorem dX6_drawn_43 : decode cX6_drawn 43 = .ok (.aload_n 0, 1) := by decide +kernel
theorem dX6_drawn_44 : decode cX6_drawn 44 = .ok (.bipush 42, 2) := by decide +kernel
theorem dX6_drawn_46 : decode cX6_drawn 46 = .ok (.invokevirtual 85, 3) := by decide +kernel
theorem dX6_drawn_49 : decode cX6_drawn 49 = .ok (.ifCond .le 7, 3) := by decide +kernel
theorem dX6_drawn_52 : decode cX6_drawn 52 = .ok (.ldc2_w 132, 3) := by decide +kernel
theorem dX6_drawn_55 : decode cX6_drawn 55 = .ok (.lreturn, 1) := by decide +kernel
theorem dX6_drawn_56 : decode cX6_drawn 56 = .ok (.aload_n 0, 1) := by decide +kernel
theorem dX6_drawn_57 : decode cX6_drawn 57 = .ok (.aload_n 0, 1) := by decide +kernel
theorem dX6_drawn_58 : decode cX6_drawn 58 = .ok (.getfield 23, 3) := by decide +kernel
theorem dX6_drawn_61 : decode cX6_drawn 61 = .ok (.invokevirtual 96, 3) := by decide +kernel
theorem dX6_drawn_64 : decode cX6_drawn 64 = .ok (.lconst 0, 1) := by decide +kernel
theorem dX6_drawn_65 : decode cX6_drawn 65 = .ok (.lstore 4, 2) := by decide +kernel
theorem dX6_drawn_67 : decode cX6_drawn 67 = .ok (.lconst 0, 1) := by decide +kernel
theorem dX6_drawn_68 : decode cX6_drawn 68 = .ok (.lstore 6, 2) := by decide +kernel
theorem dX6_drawn_70 : decode cX6_drawn 70 = .ok (.iconst 0, 1) := by decide +kernel
theorem dX6_drawn_71 : decode cX6_drawn 71 = .ok (.istore 8, 2) := by decide +kernel
theorem dX6_drawn_73 : decode cX6_drawn 73 = .ok (.iload 8, 2) := by decide +kernel
theorem dX6_drawn_75 : decode cX6_drawn 75 = .ok (.aload_n 0, 1) := by decide +kernel
theorem dX6_drawn_76 : decode cX6_drawn 76 = .ok (.invokevirtual 134, 3) := by decide +kernel
theorem dX6_drawn_79 : decode cX6_drawn 79 = .ok (.if_icmp .ge 64, 3) := by decide +kernel
theorem dX6_drawn_82 : decode cX6_drawn 82 = .ok (.aload_n 0, 1) := by decide +kernel
theorem dX6_drawn_83 : decode cX6_drawn 83 = .ok (.iload 8, 2) := by decide +kernel
theorem dX6_drawn_85 : decode cX6_drawn 85 = .ok (.invokevirtual 137, 3) := by decide +kernel
theorem dX6_drawn_88 : decode cX6_drawn 88 = .ok (.istore 9, 2) := by decide +kernel
theorem dX6_drawn_90 : decode cX6_drawn 90 = .ok (.iload 9, 2) := by decide +kernel
theorem dX6_drawn_92 : decode cX6_drawn 92 = .ok (.ifCond .le 45, 3) := by decide +kernel
theorem dX6_drawn_95 : decode cX6_drawn 95 = .ok (.aload_n 0, 1) := by decide +kernel
theorem dX6_drawn_96 : decode cX6_drawn 96 = .ok (.invokevirtual 163, 3) := by decide +kernel
theorem dX6_drawn_99 : decode cX6_drawn 99 = .ok (.ifCond .eq 38, 3) := by decide +kernel
theorem dX6_drawn_102 : decode cX6_drawn 102 = .ok (.lload 6, 2) := by decide +kernel
theorem dX6_drawn_104 : decode cX6_drawn 104 = .ok (.iload 9, 2) := by decide +kernel
theorem dX6_drawn_106 : decode cX6_drawn 106 = .ok (.i2l, 1) := by decide +kernel
theorem dX6_drawn_107 : decode cX6_drawn 107 = .ok (.ladd, 1) := by decide +kernel
theorem dX6_drawn_108 : decode cX6_drawn 108 = .ok (.lstore 6, 2) := by decide +kernel
theorem dX6_drawn_110 : decode cX6_drawn 110 = .ok (.lload 4, 2) := by decide +kernel
theorem dX6_drawn_112 : decode cX6_drawn 112 = .ok (.aload_n 0, 1) := by decide +kernel
theorem dX6_drawn_113 : decode cX6_drawn 113 = .ok (.getfield 35, 3) := by decide +kernel
theorem dX6_drawn_116 : decode cX6_drawn 116 = .ok (.aload_n 0, 1) := by decide +kernel
theorem dX6_drawn_117 : decode cX6_drawn 117 = .ok (.getfield 38, 3) := by decide +kernel
theorem dX6_drawn_120 : decode cX6_drawn 120 = .ok (.iload_n 1, 1) := by decide +kernel
theorem dX6_drawn_121 : decode cX6_drawn 121 = .ok (.iaload, 1) := by decide +kernel
theorem dX6_drawn_122 : decode cX6_drawn 122 = .ok (.iaload, 1) := by decide +kernel
theorem dX6_drawn_123 : decode cX6_drawn 123 = .ok (.iload_n 2, 1) := by decide +kernel
theorem dX6_drawn_124 : decode cX6_drawn 124 = .ok (.if_icmp .ne 9, 3) := by decide +kernel
theorem dX6_drawn_127 : decode cX6_drawn 127 = .ok (.iload 9, 2) := by decide +kernel
theorem dX6_drawn_129 : decode cX6_drawn 129 = .ok (.i2l, 1) := by decide +kernel
theorem dX6_drawn_130 : decode cX6_drawn 130 = .ok (.goto 4, 3) := by decide +kernel
theorem dX6_drawn_133 : decode cX6_drawn 133 = .ok (.lconst 0, 1) := by decide +kernel
theorem dX6_drawn_134 : decode cX6_drawn 134 = .ok (.ladd, 1) := by decide +kernel
theorem dX6_drawn_135 : decode cX6_drawn 135 = .ok (.lstore 4, 2) := by decide +kernel
theorem dX6_drawn_137 : decode cX6_drawn 137 = .ok (.iinc 8 1, 3) := by decide +kernel
theorem dX6_drawn_140 : decode cX6_drawn 140 = .ok (.goto (-67), 3) := by decide +kernel
theorem dX6_drawn_143 : decode cX6_drawn 143 = .ok (.lload 6, 2) := by decide +kernel
theorem dX6_drawn_145 : decode cX6_drawn 145 = .ok (.lconst 0, 1) := by decide +kernel
theorem dX6_drawn_146 : decode cX6_drawn 146 = .ok (.lcmp, 1) := by decide +kernel
theorem dX6_drawn_147 : decode cX6_drawn 147 = .ok (.ifCond .ne 9, 3) := by decide +kernel
theorem dX6_drawn_150 : decode cX6_drawn 150 = .ok (.ldc2_w 132, 3) := by decide +kernel
theorem dX6_drawn_153 : decode cX6_drawn 153 = .ok (.goto 11, 3) := by decide +kernel
theorem dX6_drawn_156 : decode cX6_drawn 156 = .ok (.lload 4, 2) := by decide +kernel
theorem dX6_drawn_158 : decode cX6_drawn 158 = .ok (.lload 6, 2) := by decide +kernel
theorem dX6_drawn_160 : decode cX6_drawn 160 = .ok (.iload_n 3, 1) := by decide +kernel
theorem dX6_drawn_161 : decode cX6_drawn 161 = .ok (.invokestatic 144, 3) := by decide +kernel
theorem dX6_drawn_164 : decode cX6_drawn 164 = .ok (.lreturn, 1) := by decide +kernel
theorem dX6_mix_0 : decode cX6_mix 0 = .ok (.iload_n 1, 1) := by decide +kernel
theorem dX6_mix_1 : decode cX6_mix 1 = .ok (.istore_n 2, 1) := by decide +kernel
theorem dX6_mix_2 : decode cX6_mix 2 = .ok (.aload_n 0, 1) := by decide +kernel
theorem dX6_mix_3 : decode cX6_mix 3 = .ok (.getfield 13, 3) := by decide +kernel
theorem dX6_mix_6 : decode cX6_mix 6 = .ok (.iconst 1, 1) := by decide +kernel
theorem dX6_mix_7 : decode cX6_mix 7 = .ok (.isub, 1) := by decide +kernel
theorem dX6_mix_8 : decode cX6_mix 8 = .ok (.istore_n 3, 1) := by decide +kernel
theorem dX6_mix_9 : decode cX6_mix 9 = .ok (.iload_n 3, 1) := by decide +kernel
theorem dX6_mix_10 : decode cX6_mix 10 = .ok (.ifCond .le 57, 3) := by decide +kernel
theorem dX6_mix_13 : decode cX6_mix 13 = .ok (.iload_n 2, 1) := by decide +kernel
theorem dX6_mix_14 : decode cX6_mix 14 = .ok (.bipush 75, 2) := by decide +kernel
theorem dX6_mix_16 : decode cX6_mix 16 = .ok (.imul, 1) := by decide +kernel
theorem dX6_mix_17 : decode cX6_mix 17 = .ok (.bipush 74, 2) := by decide +kernel
theorem dX6_mix_19 : decode cX6_mix 19 = .ok (.iadd, 1) := by decide +kernel
theorem dX6_mix_20 : decode cX6_mix 20 = .ok (.ldc 166, 2) := by decide +kernel
theorem dX6_mix_22 : decode cX6_mix 22 = .ok (.irem, 1) := by decide +kernel
theorem dX6_mix_23 : decode cX6_mix 23 = .ok (.istore_n 2, 1) := by decide +kernel
theorem dX6_mix_24 : decode cX6_mix 24 = .ok (.iload_n 2, 1) := by decide +kernel
theorem dX6_mix_25 : decode cX6_mix 25 = .ok (.iload_n 3, 1) := by decide +kernel
theorem dX6_mix_26 : decode cX6_mix 26 = .ok (.iconst 1, 1) := by decide +kernel
theorem dX6_mix_27 : decode cX6_mix 27 = .ok (.iadd, 1) := by decide +kernel
theorem dX6_mix_28 : decode cX6_mix 28 = .ok (.irem, 1) := by decide +kernel
theorem dX6_mix_29 : decode cX6_mix 29 = .ok (.istore 4, 2) := by decide +kernel
theorem dX6_mix_31 : decode cX6_mix 31 = .ok (.aload_n 0, 1) := by decide +kernel
theorem dX6_mix_32 : decode cX6_mix 32 = .ok (.getfield 47, 3) := by decide +kernel
theorem dX6_mix_35 : decode cX6_mix 35 = .ok (.iload_n 3, 1) := by decide +kernel
theorem dX6_mix_36 : decode cX6_mix 36 = .ok (.iaload, 1) := by decide +kernel
theorem dX6_mix_37 : decode cX6_mix 37 = .ok (.istore 5, 2) := by decide +kernel
theorem dX6_mix_39 : decode cX6_mix 39 = .ok (.aload_n 0, 1) := by decide +kernel
theorem dX6_mix_40 : decode cX6_mix 40 = .ok (.getfield 47, 3) := by decide +kernel
theorem dX6_mix_43 : decode cX6_mix 43 = .ok (.iload_n 3, 1) := by decide +kernel
theorem dX6_mix_44 : decode cX6_mix 44 = .ok (.aload_n 0, 1) := by decide +kernel
theorem dX6_mix_45 : decode cX6_mix 45 = .ok (.getfield 47, 3) := by decide +kernel
theorem dX6_mix_48 : decode cX6_mix 48 = .ok (.iload 4, 2) := by decide +kernel
theorem dX6_mix_50 : decode cX6_mix 50 = .ok (.iaload, 1) := by decide +kernel
theorem dX6_mix_51 : decode cX6_mix 51 = .ok (.iastore, 1) := by decide +kernel
theorem dX6_mix_52 : decode cX6_mix 52 = .ok (.aload_n 0, 1) := by decide +kernel
theorem dX6_mix_53 : decode cX6_mix 53 = .ok (.getfield 47, 3) := by decide +kernel
theorem dX6_mix_56 : decode cX6_mix 56 = .ok (.iload 4, 2) := by decide +kernel
theorem dX6_mix_58 : decode cX6_mix 58 = .ok (.iload 5, 2) := by decide +kernel
theorem dX6_mix_60 : decode cX6_mix 60 = .ok (.iastore, 1) := by decide +kernel
theorem dX6_mix_61 : decode cX6_mix 61 = .ok (.iinc 3 (-1), 3) := by decide +kernel
theorem dX6_mix_64 : decode cX6_mix 64 = .ok (.goto (-55), 3) := by decide +kernel
theorem dX6_mix_67 : decode cX6_mix 67 = .ok (.return_, 1) := by decide +kernel
theorem dX6_takePack_0 : decode cX6_takePack 0 = .ok (.iconst 0, 1) := by decide +kernel
theorem dX6_takePack_1 : decode cX6_takePack 1 = .ok (.istore_n 1, 1) := by decide +kernel
theorem dX6_takePack_2 : decode cX6_takePack 2 = .ok (.iload_n 1, 1) := by decide +kernel
theorem dX6_takePack_3 : decode cX6_takePack 3 = .ok (.aload_n 0, 1) := by decide +kernel
theorem dX6_takePack_4 : decode cX6_takePack 4 = .ok (.getfield 13, 3) := by decide +kernel
theorem dX6_takePack_7 : decode cX6_takePack 7 = .ok (.if_icmp .ge 21, 3) := by decide +kernel
theorem dX6_takePack_10 : decode cX6_takePack 10 = .ok (.aload_n 0, 1) := by decide +kernel
theorem dX6_takePack_11 : decode cX6_takePack 11 = .ok (.getfield 47, 3) := by decide +kernel
theorem dX6_takePack_14 : decode cX6_takePack 14 = .ok (.iload_n 1, 1) := by decide +kernel
theorem dX6_takePack_15 : decode cX6_takePack 15 = .ok (.aload_n 0, 1) := by decide +kernel
theorem dX6_takePack_16 : decode cX6_takePack 16 = .ok (.getfield 17, 3) := by decide +kernel
theorem dX6_takePack_19 : decode cX6_takePack 19 = .ok (.iload_n 1, 1) := by decide +kernel
theorem dX6_takePack_20 : decode cX6_takePack 20 = .ok (.iaload, 1) := by decide +kernel
theorem dX6_takePack_21 : decode cX6_takePack 21 = .ok (.iastore, 1) := by decide +kernel
theorem dX6_takePack_22 : decode cX6_takePack 22 = .ok (.iinc 1 1, 3) := by decide +kernel
theorem dX6_takePack_25 : decode cX6_takePack 25 = .ok (.goto (-23), 3) := by decide +kernel
theorem dX6_takePack_28 : decode cX6_takePack 28 = .ok (.return_, 1) := by decide +kernel
theorem dX6_shuffle_0 : decode cX6_shuffle 0 = .ok (.iload_n 1, 1) := by decide +kernel
theorem dX6_shuffle_1 : decode cX6_shuffle 1 = .ok (.iconst 0, 1) := by decide +kernel
theorem dX6_shuffle_2 : decode cX6_shuffle 2 = .ok (.sipush 9999, 3) := by decide +kernel
theorem dX6_shuffle_5 : decode cX6_shuffle 5 = .ok (.invokestatic 57, 3) := by decide +kernel
theorem dX6_shuffle_8 : decode cX6_shuffle 8 = .ok (.ifCond .ne 6, 3) := by decide +kernel
theorem dX6_shuffle_11 : decode cX6_shuffle 11 = .ok (.bipush (-2), 2) := by decide +kernel
theorem dX6_shuffle_13 : decode cX6_shuffle 13 = .ok (.ireturn, 1) := by decide +kernel
theorem dX6_shuffle_14 : decode cX6_shuffle 14 = .ok (.aload_n 0, 1) := by decide +kernel
theorem dX6_shuffle_15 : decode cX6_shuffle 15 = .ok (.invokevirtual 167, 3) := by decide +kernel
theorem dX6_shuffle_18 : decode cX6_shuffle 18 = .ok (.aload_n 0, 1) := by decide +kernel
theorem dX6_shuffle_19 : decode cX6_shuffle 19 = .ok (.iload_n 1, 1) := by decide +kernel
theorem dX6_shuffle_20 : decode cX6_shuffle 20 = .ok (.invokevirtual 170, 3) := by decide +kernel
theorem dX6_shuffle_23 : decode cX6_shuffle 23 = .ok (.iconst 0, 1) := by decide +kernel
theorem dX6_shuffle_24 : decode cX6_shuffle 24 = .ok (.istore_n 2, 1) := by decide +kernel
theorem dX6_shuffle_25 : decode cX6_shuffle 25 = .ok (.iload_n 2, 1) := by decide +kernel
theorem dX6_shuffle_26 : decode cX6_shuffle 26 = .ok (.aload_n 0, 1) := by decide +kernel
theorem dX6_shuffle_27 : decode cX6_shuffle 27 = .ok (.getfield 13, 3) := by decide +kernel
theorem dX6_shuffle_30 : decode cX6_shuffle 30 = .ok (.if_icmp .ge 21, 3) := by decide +kernel
theorem dX6_shuffle_33 : decode cX6_shuffle 33 = .ok (.aload_n 0, 1) := by decide +kernel
theorem dX6_shuffle_34 : decode cX6_shuffle 34 = .ok (.getfield 17, 3) := by decide +kernel
theorem dX6_shuffle_37 : decode cX6_shuffle 37 = .ok (.iload_n 2, 1) := by decide +kernel
theorem dX6_shuffle_38 : decode cX6_shuffle 38 = .ok (.aload_n 0, 1) := by decide +kernel
theorem dX6_shuffle_39 : decode cX6_shuffle 39 = .ok (.getfield 47, 3) := by decide +kernel
theorem dX6_shuffle_42 : decode cX6_shuffle 42 = .ok (.iload_n 2, 1) := by decide +kernel
theorem dX6_shuffle_43 : decode cX6_shuffle 43 = .ok (.iaload, 1) := by decide +kernel
theorem dX6_shuffle_44 : decode cX6_shuffle 44 = .ok (.iastore, 1) := by decide +kernel
theorem dX6_shuffle_45 : decode cX6_shuffle 45 = .ok (.iinc 2 1, 3) := by decide +kernel
theorem dX6_shuffle_48 : decode cX6_shuffle 48 = .ok (.goto (-23), 3) := by decide +kernel
theorem dX6_shuffle_51 : decode cX6_shuffle 51 = .ok (.aload_n 0, 1) := by decide +kernel
theorem dX6_shuffle_52 : decode cX6_shuffle 52 = .ok (.getfield 13, 3) := by decide +kernel
theorem dX6_shuffle_55 : decode cX6_shuffle 55 = .ok (.ireturn, 1) := by decide +kernel
theorem dX6_wrong_0 : decode cX6_wrong 0 = .ok (.aload_n 0, 1) := by decide +kernel
theorem dX6_wrong_1 : decode cX6_wrong 1 = .ok (.iload_n 1, 1) := by decide +kernel
theorem dX6_wrong_2 : decode cX6_wrong 2 = .ok (.invokevirtual 78, 3) := by decide +kernel
theorem dX6_wrong_5 : decode cX6_wrong 5 = .ok (.ifCond .eq 11, 3) := by decide +kernel
theorem dX6_wrong_8 : decode cX6_wrong 8 = .ok (.aload_n 0, 1) := by decide +kernel
theorem dX6_wrong_9 : decode cX6_wrong 9 = .ok (.iload_n 2, 1) := by decide +kernel
theorem dX6_wrong_10 : decode cX6_wrong 10 = .ok (.invokevirtual 78, 3) := by decide +kernel
theorem dX6_wrong_13 : decode cX6_wrong 13 = .ok (.ifCond .ne 5, 3) := by decide +kernel
theorem dX6_wrong_16 : decode cX6_wrong 16 = .ok (.iconst (-1), 1) := by decide +kernel
theorem dX6_wrong_17 : decode cX6_wrong 17 = .ok (.ireturn, 1) := by decide +kernel
theorem dX6_wrong_18 : decode cX6_wrong 18 = .ok (.aload_n 0, 1) := by decide +kernel
theorem dX6_wrong_19 : decode cX6_wrong 19 = .ok (.invokevirtual 92, 3) := by decide +kernel
theorem dX6_wrong_22 : decode cX6_wrong 22 = .ok (.ifCond .ne 6, 3) := by decide +kernel
theorem dX6_wrong_25 : decode cX6_wrong 25 = .ok (.bipush (-3), 2) := by decide +kernel
theorem dX6_wrong_27 : decode cX6_wrong 27 = .ok (.ireturn, 1) := by decide +kernel
theorem dX6_wrong_28 : decode cX6_wrong 28 = .ok (.iconst 0, 1) := by decide +kernel
theorem dX6_wrong_29 : decode cX6_wrong 29 = .ok (.istore_n 3, 1) := by decide +kernel
theorem dX6_wrong_30 : decode cX6_wrong 30 = .ok (.iconst 0, 1) := by decide +kernel
theorem dX6_wrong_31 : decode cX6_wrong 31 = .ok (.istore 4, 2) := by decide +kernel
theorem dX6_wrong_33 : decode cX6_wrong 33 = .ok (.iload 4, 2) := by decide +kernel
theorem dX6_wrong_35 : decode cX6_wrong 35 = .ok (.bipush 100, 2) := by decide +kernel
theorem dX6_wrong_37 : decode cX6_wrong 37 = .ok (.if_icmp .ge 75, 3) := by decide +kernel
theorem dX6_wrong_40 : decode cX6_wrong 40 = .ok (.aload_n 0, 1) := by decide +kernel
theorem dX6_wrong_41 : decode cX6_wrong 41 = .ok (.invokevirtual 167, 3) := by decide +kernel
theorem dX6_wrong_44 : decode cX6_wrong 44 = .ok (.aload_n 0, 1) := by decide +kernel
theorem dX6_wrong_45 : decode cX6_wrong 45 = .ok (.iload 4, 2) := by decide +kernel
theorem dX6_wrong_47 : decode cX6_wrong 47 = .ok (.invokevirtual 170, 3) := by decide +kernel
theorem dX6_wrong_50 : decode cX6_wrong 50 = .ok (.iconst 0, 1) := by decide +kernel
theorem dX6_wrong_51 : decode cX6_wrong 51 = .ok (.istore 5, 2) := by decide +kernel
theorem dX6_wrong_53 : decode cX6_wrong 53 = .ok (.iload 5, 2) := by decide +kernel
theorem dX6_wrong_55 : decode cX6_wrong 55 = .ok (.aload_n 0, 1) := by decide +kernel
theorem dX6_wrong_56 : decode cX6_wrong 56 = .ok (.getfield 13, 3) := by decide +kernel
theorem dX6_wrong_59 : decode cX6_wrong 59 = .ok (.if_icmp .ge 30, 3) := by decide +kernel
theorem dX6_wrong_62 : decode cX6_wrong 62 = .ok (.aload_n 0, 1) := by decide +kernel
theorem dX6_wrong_63 : decode cX6_wrong 63 = .ok (.getfield 35, 3) := by decide +kernel
theorem dX6_wrong_66 : decode cX6_wrong 66 = .ok (.iload 5, 2) := by decide +kernel
theorem dX6_wrong_68 : decode cX6_wrong 68 = .ok (.aload_n 0, 1) := by decide +kernel
theorem dX6_wrong_69 : decode cX6_wrong 69 = .ok (.getfield 47, 3) := by decide +kernel
theorem dX6_wrong_72 : decode cX6_wrong 72 = .ok (.iload 5, 2) := by decide +kernel
theorem dX6_wrong_74 : decode cX6_wrong 74 = .ok (.iaload, 1) := by decide +kernel
theorem dX6_wrong_75 : decode cX6_wrong 75 = .ok (.aload_n 0, 1) := by decide +kernel
theorem dX6_wrong_76 : decode cX6_wrong 76 = .ok (.getfield 23, 3) := by decide +kernel
theorem dX6_wrong_79 : decode cX6_wrong 79 = .ok (.invokestatic 81, 3) := by decide +kernel
theorem dX6_wrong_82 : decode cX6_wrong 82 = .ok (.iastore, 1) := by decide +kernel
theorem dX6_wrong_83 : decode cX6_wrong 83 = .ok (.iinc 5 1, 3) := by decide +kernel
theorem dX6_wrong_86 : decode cX6_wrong 86 = .ok (.goto (-33), 3) := by decide +kernel
theorem dX6_wrong_89 : decode cX6_wrong 89 = .ok (.iload_n 3, 1) := by decide +kernel
theorem dX6_wrong_90 : decode cX6_wrong 90 = .ok (.aload_n 0, 1) := by decide +kernel
theorem dX6_wrong_91 : decode cX6_wrong 91 = .ok (.iload_n 1, 1) := by decide +kernel
theorem dX6_wrong_92 : decode cX6_wrong 92 = .ok (.iload_n 2, 1) := by decide +kernel
theorem dX6_wrong_93 : decode cX6_wrong 93 = .ok (.invokevirtual 106, 3) := by decide +kernel
theorem dX6_wrong_96 : decode cX6_wrong 96 = .ok (.ifCond .ge 7, 3) := by decide +kernel
theorem dX6_wrong_99 : decode cX6_wrong 99 = .ok (.iconst 1, 1) := by decide +kernel
theorem dX6_wrong_100 : decode cX6_wrong 100 = .ok (.goto 4, 3) := by decide +kernel
theorem dX6_wrong_103 : decode cX6_wrong 103 = .ok (.iconst 0, 1) := by decide +kernel
theorem dX6_wrong_104 : decode cX6_wrong 104 = .ok (.iadd, 1) := by decide +kernel
theorem dX6_wrong_105 : decode cX6_wrong 105 = .ok (.istore_n 3, 1) := by decide +kernel
theorem dX6_wrong_106 : decode cX6_wrong 106 = .ok (.iinc 4 1, 3) := by decide +kernel
theorem dX6_wrong_109 : decode cX6_wrong 109 = .ok (.goto (-76), 3) := by decide +kernel
theorem dX6_wrong_112 : decode cX6_wrong 112 = .ok (.iload_n 3, 1) := by decide +kernel
theorem dX6_wrong_113 : decode cX6_wrong 113 = .ok (.ireturn, 1) := by decide +kernel
theorem dX6_image_0 : decode cX6_image 0 = .ok (.iload_n 1, 1) := by decide +kernel
theorem dX6_image_1 : decode cX6_image 1 = .ok (.iconst 0, 1) := by decide +kernel
theorem dX6_image_2 : decode cX6_image 2 = .ok (.iconst 1, 1) := by decide +kernel
theorem dX6_image_3 : decode cX6_image 3 = .ok (.invokestatic 57, 3) := by decide +kernel
theorem dX6_image_6 : decode cX6_image 6 = .ok (.ifCond .ne 6, 3) := by decide +kernel
theorem dX6_image_9 : decode cX6_image 9 = .ok (.bipush (-2), 2) := by decide +kernel
theorem dX6_image_11 : decode cX6_image 11 = .ok (.ireturn, 1) := by decide +kernel
theorem dX6_image_12 : decode cX6_image 12 = .ok (.bipush 68, 2) := by decide +kernel
theorem dX6_image_14 : decode cX6_image 14 = .ok (.iload_n 1, 1) := by decide +kernel
theorem dX6_image_15 : decode cX6_image 15 = .ok (.imul, 1) := by decide +kernel
theorem dX6_image_16 : decode cX6_image 16 = .ok (.istore_n 2, 1) := by decide +kernel
theorem dX6_image_17 : decode cX6_image 17 = .ok (.iconst 0, 1) := by decide +kernel
theorem dX6_image_18 : decode cX6_image 18 = .ok (.istore_n 3, 1) := by decide +kernel
theorem dX6_image_19 : decode cX6_image 19 = .ok (.iload_n 3, 1) := by decide +kernel
theorem dX6_image_20 : decode cX6_image 20 = .ok (.bipush 40, 2) := by decide +kernel
theorem dX6_image_22 : decode cX6_image 22 = .ok (.if_icmp .ge 23, 3) := by decide +kernel
theorem dX6_image_25 : decode cX6_image 25 = .ok (.aload_n 0, 1) := by decide +kernel
theorem dX6_image_26 : decode cX6_image 26 = .ok (.getfield 50, 3) := by decide +kernel
theorem dX6_image_29 : decode cX6_image 29 = .ok (.iload_n 2, 1) := by decide +kernel
theorem dX6_image_30 : decode cX6_image 30 = .ok (.iload_n 3, 1) := by decide +kernel
theorem dX6_image_31 : decode cX6_image 31 = .ok (.iadd, 1) := by decide +kernel
theorem dX6_image_32 : decode cX6_image 32 = .ok (.aload_n 0, 1) := by decide +kernel
theorem dX6_image_33 : decode cX6_image 33 = .ok (.getfield 17, 3) := by decide +kernel
theorem dX6_image_36 : decode cX6_image 36 = .ok (.iload_n 3, 1) := by decide +kernel
theorem dX6_image_37 : decode cX6_image 37 = .ok (.iaload, 1) := by decide +kernel
theorem dX6_image_38 : decode cX6_image 38 = .ok (.iastore, 1) := by decide +kernel
theorem dX6_image_39 : decode cX6_image 39 = .ok (.iinc 3 1, 3) := by decide +kernel
theorem dX6_image_42 : decode cX6_image 42 = .ok (.goto (-23), 3) := by decide +kernel
theorem dX6_image_45 : decode cX6_image 45 = .ok (.iconst 0, 1) := by decide +kernel
theorem dX6_image_46 : decode cX6_image 46 = .ok (.istore_n 3, 1) := by decide +kernel
theorem dX6_image_47 : decode cX6_image 47 = .ok (.iload_n 3, 1) := by decide +kernel
theorem dX6_image_48 : decode cX6_image 48 = .ok (.bipush 11, 2) := by decide +kernel
theorem dX6_image_50 : decode cX6_image 50 = .ok (.if_icmp .ge 26, 3) := by decide +kernel
theorem dX6_image_53 : decode cX6_image 53 = .ok (.aload_n 0, 1) := by decide +kernel
theorem dX6_image_54 : decode cX6_image 54 = .ok (.getfield 50, 3) := by decide +kernel
theorem dX6_image_57 : decode cX6_image 57 = .ok (.iload_n 2, 1) := by decide +kernel
theorem dX6_image_58 : decode cX6_image 58 = .ok (.bipush 40, 2) := by decide +kernel
theorem dX6_image_60 : decode cX6_image 60 = .ok (.iadd, 1) := by decide +kernel
theorem dX6_image_61 : decode cX6_image 61 = .ok (.iload_n 3, 1) := by decide +kernel
theorem dX6_image_62 : decode cX6_image 62 = .ok (.iadd, 1) := by decide +kernel
theorem dX6_image_63 : decode cX6_image 63 = .ok (.aload_n 0, 1) := by decide +kernel
theorem dX6_image_64 : decode cX6_image 64 = .ok (.getfield 29, 3) := by decide +kernel
theorem dX6_image_67 : decode cX6_image 67 = .ok (.iload_n 3, 1) := by decide +kernel
theorem dX6_image_68 : decode cX6_image 68 = .ok (.iaload, 1) := by decide +kernel
theorem dX6_image_69 : decode cX6_image 69 = .ok (.iastore, 1) := by decide +kernel
theorem dX6_image_70 : decode cX6_image 70 = .ok (.iinc 3 1, 3) := by decide +kernel
theorem dX6_image_73 : decode cX6_image 73 = .ok (.goto (-26), 3) := by decide +kernel
theorem dX6_image_76 : decode cX6_image 76 = .ok (.iconst 0, 1) := by decide +kernel
theorem dX6_image_77 : decode cX6_image 77 = .ok (.istore_n 3, 1) := by decide +kernel
theorem dX6_image_78 : decode cX6_image 78 = .ok (.iload_n 3, 1) := by decide +kernel
theorem dX6_image_79 : decode cX6_image 79 = .ok (.bipush 12, 2) := by decide +kernel
theorem dX6_image_81 : decode cX6_image 81 = .ok (.if_icmp .ge 26, 3) := by decide +kernel
theorem dX6_image_84 : decode cX6_image 84 = .ok (.aload_n 0, 1) := by decide +kernel
theorem dX6_image_85 : decode cX6_image 85 = .ok (.getfield 50, 3) := by decide +kernel
theorem dX6_image_88 : decode cX6_image 88 = .ok (.iload_n 2, 1) := by decide +kernel
theorem dX6_image_89 : decode cX6_image 89 = .ok (.bipush 51, 2) := by decide +kernel
theorem dX6_image_91 : decode cX6_image 91 = .ok (.iadd, 1) := by decide +kernel
theorem dX6_image_92 : decode cX6_image 92 = .ok (.iload_n 3, 1) := by decide +kernel
theorem dX6_image_93 : decode cX6_image 93 = .ok (.iadd, 1) := by decide +kernel
theorem dX6_image_94 : decode cX6_image 94 = .ok (.aload_n 0, 1) := by decide +kernel
theorem dX6_image_95 : decode cX6_image 95 = .ok (.getfield 32, 3) := by decide +kernel
theorem dX6_image_98 : decode cX6_image 98 = .ok (.iload_n 3, 1) := by decide +kernel
theorem dX6_image_99 : decode cX6_image 99 = .ok (.iaload, 1) := by decide +kernel
theorem dX6_image_100 : decode cX6_image 100 = .ok (.iastore, 1) := by decide +kernel
theorem dX6_image_101 : decode cX6_image 101 = .ok (.iinc 3 1, 3) := by decide +kernel
theorem dX6_image_104 : decode cX6_image 104 = .ok (.goto (-26), 3) := by decide +kernel
theorem dX6_image_107 : decode cX6_image 107 = .ok (.aload_n 0, 1) := by decide +kernel
theorem dX6_image_108 : decode cX6_image 108 = .ok (.getfield 50, 3) := by decide +kernel
theorem dX6_image_111 : decode cX6_image 111 = .ok (.iload_n 2, 1) := by decide +kernel
theorem dX6_image_112 : decode cX6_image 112 = .ok (.bipush 63, 2) := by decide +kernel
theorem dX6_image_114 : decode cX6_image 114 = .ok (.iadd, 1) := by decide +kernel
theorem dX6_image_115 : decode cX6_image 115 = .ok (.aload_n 0, 1) := by decide +kernel
theorem dX6_image_116 : decode cX6_image 116 = .ok (.getfield 13, 3) := by decide +kernel
theorem dX6_image_119 : decode cX6_image 119 = .ok (.iastore, 1) := by decide +kernel
theorem dX6_image_120 : decode cX6_image 120 = .ok (.aload_n 0, 1) := by decide +kernel
theorem dX6_image_121 : decode cX6_image 121 = .ok (.getfield 50, 3) := by decide +kernel
theorem dX6_image_124 : decode cX6_image 124 = .ok (.iload_n 2, 1) := by decide +kernel
theorem dX6_image_125 : decode cX6_image 125 = .ok (.bipush 64, 2) := by decide +kernel
theorem dX6_image_127 : decode cX6_image 127 = .ok (.iadd, 1) := by decide +kernel
theorem dX6_image_128 : decode cX6_image 128 = .ok (.aload_n 0, 1) := by decide +kernel
theorem dX6_image_129 : decode cX6_image 129 = .ok (.getfield 20, 3) := by decide +kernel
theorem dX6_image_132 : decode cX6_image 132 = .ok (.iastore, 1) := by decide +kernel
theorem dX6_image_133 : decode cX6_image 133 = .ok (.aload_n 0, 1) := by decide +kernel
theorem dX6_image_134 : decode cX6_image 134 = .ok (.getfield 50, 3) := by decide +kernel
theorem dX6_image_137 : decode cX6_image 137 = .ok (.iload_n 2, 1) := by decide +kernel
theorem dX6_image_138 : decode cX6_image 138 = .ok (.bipush 65, 2) := by decide +kernel
theorem dX6_image_140 : decode cX6_image 140 = .ok (.iadd, 1) := by decide +kernel
theorem dX6_image_141 : decode cX6_image 141 = .ok (.aload_n 0, 1) := by decide +kernel
theorem dX6_image_142 : decode cX6_image 142 = .ok (.getfield 23, 3) := by decide +kernel
theorem dX6_image_145 : decode cX6_image 145 = .ok (.iastore, 1) := by decide +kernel
theorem dX6_image_146 : decode cX6_image 146 = .ok (.aload_n 0, 1) := by decide +kernel
theorem dX6_image_147 : decode cX6_image 147 = .ok (.getfield 50, 3) := by decide +kernel
theorem dX6_image_150 : decode cX6_image 150 = .ok (.iload_n 2, 1) := by decide +kernel
theorem dX6_image_151 : decode cX6_image 151 = .ok (.bipush 66, 2) := by decide +kernel
theorem dX6_image_153 : decode cX6_image 153 = .ok (.iadd, 1) := by decide +kernel
theorem dX6_image_154 : decode cX6_image 154 = .ok (.aload_n 0, 1) := by decide +kernel
theorem dX6_image_155 : decode cX6_image 155 = .ok (.getfield 26, 3) := by decide +kernel
theorem dX6_image_158 : decode cX6_image 158 = .ok (.iastore, 1) := by decide +kernel
theorem dX6_image_159 : decode cX6_image 159 = .ok (.aload_n 0, 1) := by decide +kernel
theorem dX6_image_160 : decode cX6_image 160 = .ok (.getfield 50, 3) := by decide +kernel
theorem dX6_image_163 : decode cX6_image 163 = .ok (.iload_n 2, 1) := by decide +kernel
theorem dX6_image_164 : decode cX6_image 164 = .ok (.bipush 67, 2) := by decide +kernel
theorem dX6_image_166 : decode cX6_image 166 = .ok (.iadd, 1) := by decide +kernel
theorem dX6_image_167 : decode cX6_image 167 = .ok (.aload_n 0, 1) := by decide +kernel
theorem dX6_image_168 : decode cX6_image 168 = .ok (.getfield 72, 3) := by decide +kernel
theorem dX6_image_171 : decode cX6_image 171 = .ok (.iastore, 1) := by decide +kernel
theorem dX6_image_172 : decode cX6_image 172 = .ok (.aload_n 0, 1) := by decide +kernel
theorem dX6_image_173 : decode cX6_image 173 = .ok (.getfield 53, 3) := by decide +kernel
theorem dX6_image_176 : decode cX6_image 176 = .ok (.iload_n 1, 1) := by decide +kernel
theorem dX6_image_177 : decode cX6_image 177 = .ok (.iconst 1, 1) := by decide +kernel
theorem dX6_image_178 : decode cX6_image 178 = .ok (.bastore, 1) := by decide +kernel
theorem dX6_image_179 : decode cX6_image 179 = .ok (.iconst 1, 1) := by decide +kernel
theorem dX6_image_180 : decode cX6_image 180 = .ok (.ireturn, 1) := by decide +kernel
theorem dX6_restore_0 : decode cX6_restore 0 = .ok (.iload_n 1, 1) := by decide +kernel
theorem dX6_restore_1 : decode cX6_restore 1 = .ok (.iconst 0, 1) := by decide +kernel
theorem dX6_restore_2 : decode cX6_restore 2 = .ok (.iconst 1, 1) := by decide +kernel
theorem dX6_restore_3 : decode cX6_restore 3 = .ok (.invokestatic 57, 3) := by decide +kernel
theorem dX6_restore_6 : decode cX6_restore 6 = .ok (.ifCond .ne 6, 3) := by decide +kernel
theorem dX6_restore_9 : decode cX6_restore 9 = .ok (.bipush (-2), 2) := by decide +kernel
theorem dX6_restore_11 : decode cX6_restore 11 = .ok (.ireturn, 1) := by decide +kernel
theorem dX6_restore_12 : decode cX6_restore 12 = .ok (.aload_n 0, 1) := by decide +kernel
theorem dX6_restore_13 : decode cX6_restore 13 = .ok (.getfield 53, 3) := by decide +kernel
theorem dX6_restore_16 : decode cX6_restore 16 = .ok (.iload_n 1, 1) := by decide +kernel
theorem dX6_restore_17 : decode cX6_restore 17 = .ok (.baload, 1) := by decide +kernel
theorem dX6_restore_18 : decode cX6_restore 18 = .ok (.ifCond .ne 6, 3) := by decide +kernel
theorem dX6_restore_21 : decode cX6_restore 21 = .ok (.bipush (-3), 2) := by decide +kernel
theorem dX6_restore_23 : decode cX6_restore 23 = .ok (.ireturn, 1) := by decide +kernel
theorem dX6_restore_24 : decode cX6_restore 24 = .ok (.bipush 68, 2) := by decide +kernel
theorem dX6_restore_26 : decode cX6_restore 26 = .ok (.iload_n 1, 1) := by decide +kernel
theorem dX6_restore_27 : decode cX6_restore 27 = .ok (.imul, 1) := by decide +kernel
theorem dX6_restore_28 : decode cX6_restore 28 = .ok (.istore_n 2, 1) := by decide +kernel
theorem dX6_restore_29 : decode cX6_restore 29 = .ok (.iconst 0, 1) := by decide +kernel
theorem dX6_restore_30 : decode cX6_restore 30 = .ok (.istore_n 3, 1) := by decide +kernel
theorem dX6_restore_31 : decode cX6_restore 31 = .ok (.iload_n 3, 1) := by decide +kernel
theorem dX6_restore_32 : decode cX6_restore 32 = .ok (.bipush 40, 2) := by decide +kernel
theorem dX6_restore_34 : decode cX6_restore 34 = .ok (.if_icmp .ge 23, 3) := by decide +kernel
theorem dX6_restore_37 : decode cX6_restore 37 = .ok (.aload_n 0, 1) := by decide +kernel
theorem dX6_restore_38 : decode cX6_restore 38 = .ok (.getfield 17, 3) := by decide +kernel
theorem dX6_restore_41 : decode cX6_restore 41 = .ok (.iload_n 3, 1) := by decide +kernel
theorem dX6_restore_42 : decode cX6_restore 42 = .ok (.aload_n 0, 1) := by decide +kernel
theorem dX6_restore_43 : decode cX6_restore 43 = .ok (.getfield 50, 3) := by decide +kernel
theorem dX6_restore_46 : decode cX6_restore 46 = .ok (.iload_n 2, 1) := by decide +kernel
theorem dX6_restore_47 : decode cX6_restore 47 = .ok (.iload_n 3, 1) := by decide +kernel
theorem dX6_restore_48 : decode cX6_restore 48 = .ok (.iadd, 1) := by decide +kernel
theorem dX6_restore_49 : decode cX6_restore 49 = .ok (.iaload, 1) := by decide +kernel
theorem dX6_restore_50 : decode cX6_restore 50 = .ok (.iastore, 1) := by decide +kernel
theorem dX6_restore_51 : decode cX6_restore 51 = .ok (.iinc 3 1, 3) := by decide +kernel
theorem dX6_restore_54 : decode cX6_restore 54 = .ok (.goto (-23), 3) := by decide +kernel
theorem dX6_restore_57 : decode cX6_restore 57 = .ok (.iconst 0, 1) := by decide +kernel
theorem dX6_restore_58 : decode cX6_restore 58 = .ok (.istore_n 3, 1) := by decide +kernel
theorem dX6_restore_59 : decode cX6_restore 59 = .ok (.iload_n 3, 1) := by decide +kernel
theorem dX6_restore_60 : decode cX6_restore 60 = .ok (.bipush 11, 2) := by decide +kernel
theorem dX6_restore_62 : decode cX6_restore 62 = .ok (.if_icmp .ge 26, 3) := by decide +kernel
theorem dX6_restore_65 : decode cX6_restore 65 = .ok (.aload_n 0, 1) := by decide +kernel
theorem dX6_restore_66 : decode cX6_restore 66 = .ok (.getfield 29, 3) := by decide +kernel
theorem dX6_restore_69 : decode cX6_restore 69 = .ok (.iload_n 3, 1) := by decide +kernel
theorem dX6_restore_70 : decode cX6_restore 70 = .ok (.aload_n 0, 1) := by decide +kernel
theorem dX6_restore_71 : decode cX6_restore 71 = .ok (.getfield 50, 3) := by decide +kernel
theorem dX6_restore_74 : decode cX6_restore 74 = .ok (.iload_n 2, 1) := by decide +kernel
theorem dX6_restore_75 : decode cX6_restore 75 = .ok (.bipush 40, 2) := by decide +kernel
theorem dX6_restore_77 : decode cX6_restore 77 = .ok (.iadd, 1) := by decide +kernel
theorem dX6_restore_78 : decode cX6_restore 78 = .ok (.iload_n 3, 1) := by decide +kernel
theorem dX6_restore_79 : decode cX6_restore 79 = .ok (.iadd, 1) := by decide +kernel
theorem dX6_restore_80 : decode cX6_restore 80 = .ok (.iaload, 1) := by decide +kernel
theorem dX6_restore_81 : decode cX6_restore 81 = .ok (.iastore, 1) := by decide +kernel
theorem dX6_restore_82 : decode cX6_restore 82 = .ok (.iinc 3 1, 3) := by decide +kernel
theorem dX6_restore_85 : decode cX6_restore 85 = .ok (.goto (-26), 3) := by decide +kernel
theorem dX6_restore_88 : decode cX6_restore 88 = .ok (.iconst 0, 1) := by decide +kernel
theorem dX6_restore_89 : decode cX6_restore 89 = .ok (.istore_n 3, 1) := by decide +kernel
theorem dX6_restore_90 : decode cX6_restore 90 = .ok (.iload_n 3, 1) := by decide +kernel
theorem dX6_restore_91 : decode cX6_restore 91 = .ok (.bipush 12, 2) := by decide +kernel
theorem dX6_restore_93 : decode cX6_restore 93 = .ok (.if_icmp .ge 26, 3) := by decide +kernel
theorem dX6_restore_96 : decode cX6_restore 96 = .ok (.aload_n 0, 1) := by decide +kernel
theorem dX6_restore_97 : decode cX6_restore 97 = .ok (.getfield 32, 3) := by decide +kernel
theorem dX6_restore_100 : decode cX6_restore 100 = .ok (.iload_n 3, 1) := by decide +kernel
theorem dX6_restore_101 : decode cX6_restore 101 = .ok (.aload_n 0, 1) := by decide +kernel
theorem dX6_restore_102 : decode cX6_restore 102 = .ok (.getfield 50, 3) := by decide +kernel
theorem dX6_restore_105 : decode cX6_restore 105 = .ok (.iload_n 2, 1) := by decide +kernel
theorem dX6_restore_106 : decode cX6_restore 106 = .ok (.bipush 51, 2) := by decide +kernel
theorem dX6_restore_108 : decode cX6_restore 108 = .ok (.iadd, 1) := by decide +kernel
theorem dX6_restore_109 : decode cX6_restore 109 = .ok (.iload_n 3, 1) := by decide +kernel
theorem dX6_restore_110 : decode cX6_restore 110 = .ok (.iadd, 1) := by decide +kernel
theorem dX6_restore_111 : decode cX6_restore 111 = .ok (.iaload, 1) := by decide +kernel
theorem dX6_restore_112 : decode cX6_restore 112 = .ok (.iastore, 1) := by decide +kernel
theorem dX6_restore_113 : decode cX6_restore 113 = .ok (.iinc 3 1, 3) := by decide +kernel
theorem dX6_restore_116 : decode cX6_restore 116 = .ok (.goto (-26), 3) := by decide +kernel
theorem dX6_restore_119 : decode cX6_restore 119 = .ok (.aload_n 0, 1) := by decide +kernel
theorem dX6_restore_120 : decode cX6_restore 120 = .ok (.aload_n 0, 1) := by decide +kernel
theorem dX6_restore_121 : decode cX6_restore 121 = .ok (.getfield 50, 3) := by decide +kernel
theorem dX6_restore_124 : decode cX6_restore 124 = .ok (.iload_n 2, 1) := by decide +kernel
theorem dX6_restore_125 : decode cX6_restore 125 = .ok (.bipush 63, 2) := by decide +kernel
theorem dX6_restore_127 : decode cX6_restore 127 = .ok (.iadd, 1) := by decide +kernel
theorem dX6_restore_128 : decode cX6_restore 128 = .ok (.iaload, 1) := by decide +kernel
theorem dX6_restore_129 : decode cX6_restore 129 = .ok (.putfield 13, 3) := by decide +kernel
theorem dX6_restore_132 : decode cX6_restore 132 = .ok (.aload_n 0, 1) := by decide +kernel
theorem dX6_restore_133 : decode cX6_restore 133 = .ok (.aload_n 0, 1) := by decide +kernel
theorem dX6_restore_134 : decode cX6_restore 134 = .ok (.getfield 50, 3) := by decide +kernel
theorem dX6_restore_137 : decode cX6_restore 137 = .ok (.iload_n 2, 1) := by decide +kernel
theorem dX6_restore_138 : decode cX6_restore 138 = .ok (.bipush 64, 2) := by decide +kernel
theorem dX6_restore_140 : decode cX6_restore 140 = .ok (.iadd, 1) := by decide +kernel
theorem dX6_restore_141 : decode cX6_restore 141 = .ok (.iaload, 1) := by decide +kernel
theorem dX6_restore_142 : decode cX6_restore 142 = .ok (.putfield 20, 3) := by decide +kernel
theorem dX6_restore_145 : decode cX6_restore 145 = .ok (.aload_n 0, 1) := by decide +kernel
theorem dX6_restore_146 : decode cX6_restore 146 = .ok (.aload_n 0, 1) := by decide +kernel
theorem dX6_restore_147 : decode cX6_restore 147 = .ok (.getfield 50, 3) := by decide +kernel
theorem dX6_restore_150 : decode cX6_restore 150 = .ok (.iload_n 2, 1) := by decide +kernel
theorem dX6_restore_151 : decode cX6_restore 151 = .ok (.bipush 65, 2) := by decide +kernel
theorem dX6_restore_153 : decode cX6_restore 153 = .ok (.iadd, 1) := by decide +kernel
theorem dX6_restore_154 : decode cX6_restore 154 = .ok (.iaload, 1) := by decide +kernel
theorem dX6_restore_155 : decode cX6_restore 155 = .ok (.putfield 23, 3) := by decide +kernel
theorem dX6_restore_158 : decode cX6_restore 158 = .ok (.aload_n 0, 1) := by decide +kernel
theorem dX6_restore_159 : decode cX6_restore 159 = .ok (.aload_n 0, 1) := by decide +kernel
theorem dX6_restore_160 : decode cX6_restore 160 = .ok (.getfield 50, 3) := by decide +kernel
theorem dX6_restore_163 : decode cX6_restore 163 = .ok (.iload_n 2, 1) := by decide +kernel
theorem dX6_restore_164 : decode cX6_restore 164 = .ok (.bipush 66, 2) := by decide +kernel
theorem dX6_restore_166 : decode cX6_restore 166 = .ok (.iadd, 1) := by decide +kernel
theorem dX6_restore_167 : decode cX6_restore 167 = .ok (.iaload, 1) := by decide +kernel
theorem dX6_restore_168 : decode cX6_restore 168 = .ok (.putfield 26, 3) := by decide +kernel
theorem dX6_restore_171 : decode cX6_restore 171 = .ok (.aload_n 0, 1) := by decide +kernel
theorem dX6_restore_172 : decode cX6_restore 172 = .ok (.aload_n 0, 1) := by decide +kernel
theorem dX6_restore_173 : decode cX6_restore 173 = .ok (.getfield 50, 3) := by decide +kernel
theorem dX6_restore_176 : decode cX6_restore 176 = .ok (.iload_n 2, 1) := by decide +kernel
theorem dX6_restore_177 : decode cX6_restore 177 = .ok (.bipush 67, 2) := by decide +kernel
theorem dX6_restore_179 : decode cX6_restore 179 = .ok (.iadd, 1) := by decide +kernel
theorem dX6_restore_180 : decode cX6_restore 180 = .ok (.iaload, 1) := by decide +kernel
theorem dX6_restore_181 : decode cX6_restore 181 = .ok (.putfield 72, 3) := by decide +kernel
theorem dX6_restore_184 : decode cX6_restore 184 = .ok (.iconst 1, 1) := by decide +kernel
theorem dX6_restore_185 : decode cX6_restore 185 = .ok (.ireturn, 1) := by decide +kernel
theorem dX6_told_0 : decode cX6_told 0 = .ok (.iload_n 1, 1) := by decide +kernel
theorem dX6_told_1 : decode cX6_told 1 = .ok (.tableswitch 91 0 7 #[47, 52, 57, 62, 67, 72, 79, 86], 47) := by decide +kernel
theorem dX6_told_48 : decode cX6_told 48 = .ok (.aload_n 0, 1) := by decide +kernel
theorem dX6_told_49 : decode cX6_told 49 = .ok (.getfield 61, 3) := by decide +kernel
theorem dX6_told_52 : decode cX6_told 52 = .ok (.ireturn, 1) := by decide +kernel
theorem dX6_told_53 : decode cX6_told 53 = .ok (.aload_n 0, 1) := by decide +kernel
theorem dX6_told_54 : decode cX6_told 54 = .ok (.getfield 13, 3) := by decide +kernel
theorem dX6_told_57 : decode cX6_told 57 = .ok (.ireturn, 1) := by decide +kernel
theorem dX6_told_58 : decode cX6_told 58 = .ok (.aload_n 0, 1) := by decide +kernel
theorem dX6_told_59 : decode cX6_told 59 = .ok (.getfield 20, 3) := by decide +kernel
theorem dX6_told_62 : decode cX6_told 62 = .ok (.ireturn, 1) := by decide +kernel
theorem dX6_told_63 : decode cX6_told 63 = .ok (.aload_n 0, 1) := by decide +kernel
theorem dX6_told_64 : decode cX6_told 64 = .ok (.getfield 23, 3) := by decide +kernel
theorem dX6_told_67 : decode cX6_told 67 = .ok (.ireturn, 1) := by decide +kernel
theorem dX6_told_68 : decode cX6_told 68 = .ok (.aload_n 0, 1) := by decide +kernel
theorem dX6_told_69 : decode cX6_told 69 = .ok (.getfield 26, 3) := by decide +kernel
theorem dX6_told_72 : decode cX6_told 72 = .ok (.ireturn, 1) := by decide +kernel
theorem dX6_told_73 : decode cX6_told 73 = .ok (.aload_n 0, 1) := by decide +kernel
theorem dX6_told_74 : decode cX6_told 74 = .ok (.bipush 42, 2) := by decide +kernel
theorem dX6_told_76 : decode cX6_told 76 = .ok (.invokevirtual 85, 3) := by decide +kernel
theorem dX6_told_79 : decode cX6_told 79 = .ok (.ireturn, 1) := by decide +kernel
theorem dX6_told_80 : decode cX6_told 80 = .ok (.aload_n 0, 1) := by decide +kernel
theorem dX6_told_81 : decode cX6_told 81 = .ok (.bipush 63, 2) := by decide +kernel
theorem dX6_told_83 : decode cX6_told 83 = .ok (.invokevirtual 85, 3) := by decide +kernel
theorem dX6_told_86 : decode cX6_told 86 = .ok (.ireturn, 1) := by decide +kernel
theorem dX6_told_87 : decode cX6_told 87 = .ok (.aload_n 0, 1) := by decide +kernel
theorem dX6_told_88 : decode cX6_told 88 = .ok (.getfield 72, 3) := by decide +kernel
theorem dX6_told_91 : decode cX6_told 91 = .ok (.ireturn, 1) := by decide +kernel
theorem dX6_told_92 : decode cX6_told 92 = .ok (.iload_n 1, 1) := by decide +kernel
theorem dX6_told_93 : decode cX6_told 93 = .ok (.bipush 11, 2) := by decide +kernel
theorem dX6_told_95 : decode cX6_told 95 = .ok (.bipush 20, 2) := by decide +kernel
theorem dX6_told_97 : decode cX6_told 97 = .ok (.invokestatic 57, 3) := by decide +kernel
theorem dX6_told_100 : decode cX6_told 100 = .ok (.ifCond .eq 15, 3) := by decide +kernel
theorem dX6_told_103 : decode cX6_told 103 = .ok (.aload_n 0, 1) := by decide +kernel
theorem dX6_told_104 : decode cX6_told 104 = .ok (.getfield 29, 3) := by decide +kernel
theorem dX6_told_107 : decode cX6_told 107 = .ok (.iload_n 1, 1) := by decide +kernel
theorem dX6_told_108 : decode cX6_told 108 = .ok (.bipush 10, 2) := by decide +kernel
theorem dX6_told_110 : decode cX6_told 110 = .ok (.isub, 1) := by decide +kernel
theorem dX6_told_111 : decode cX6_told 111 = .ok (.iaload, 1) := by decide +kernel
theorem dX6_told_112 : decode cX6_told 112 = .ok (.goto 5, 3) := by decide +kernel
theorem dX6_told_115 : decode cX6_told 115 = .ok (.bipush (-2), 2) := by decide +kernel
theorem dX6_told_117 : decode cX6_told 117 = .ok (.ireturn, 1) := by decide +kernel
