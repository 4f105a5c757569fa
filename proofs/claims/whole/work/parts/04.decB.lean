theorem dX5_init_0 : decode cX5_init 0 = .ok (.aload_n 0, 1) := by decide +kernel
theorem dX5_init_1 : decode cX5_init 1 = .ok (.invokespecial 1, 3) := by decide +kernel
theorem dX5_init_4 : decode cX5_init 4 = .ok (.aload_n 0, 1) := by decide +kernel
theorem dX5_init_5 : decode cX5_init 5 = .ok (.bipush 48, 2) := by decide +kernel
theorem dX5_init_7 : decode cX5_init 7 = .ok (.newarray .char, 2) := by decide +kernel
theorem dX5_init_9 : decode cX5_init 9 = .ok (.putfield 9, 3) := by decide +kernel
theorem dX5_init_12 : decode cX5_init 12 = .ok (.aload_n 0, 1) := by decide +kernel
theorem dX5_init_13 : decode cX5_init 13 = .ok (.iconst 0, 1) := by decide +kernel
theorem dX5_init_14 : decode cX5_init 14 = .ok (.putfield 13, 3) := by decide +kernel
theorem dX5_init_17 : decode cX5_init 17 = .ok (.aload_n 0, 1) := by decide +kernel
theorem dX5_init_18 : decode cX5_init 18 = .ok (.new 17, 3) := by decide +kernel
theorem dX5_init_21 : decode cX5_init 21 = .ok (.dup, 1) := by decide +kernel
theorem dX5_init_22 : decode cX5_init 22 = .ok (.invokespecial 19, 3) := by decide +kernel
theorem dX5_init_25 : decode cX5_init 25 = .ok (.putfield 20, 3) := by decide +kernel
theorem dX5_init_28 : decode cX5_init 28 = .ok (.aload_n 0, 1) := by decide +kernel
theorem dX5_init_29 : decode cX5_init 29 = .ok (.iconst 2, 1) := by decide +kernel
theorem dX5_init_30 : decode cX5_init 30 = .ok (.anewarray 17, 3) := by decide +kernel
theorem dX5_init_33 : decode cX5_init 33 = .ok (.dup, 1) := by decide +kernel
theorem dX5_init_34 : decode cX5_init 34 = .ok (.iconst 0, 1) := by decide +kernel
theorem dX5_init_35 : decode cX5_init 35 = .ok (.new 17, 3) := by decide +kernel
theorem dX5_init_38 : decode cX5_init 38 = .ok (.dup, 1) := by decide +kernel
theorem dX5_init_39 : decode cX5_init 39 = .ok (.invokespecial 19, 3) := by decide +kernel
theorem dX5_init_42 : decode cX5_init 42 = .ok (.aastore, 1) := by decide +kernel
theorem dX5_init_43 : decode cX5_init 43 = .ok (.dup, 1) := by decide +kernel
theorem dX5_init_44 : decode cX5_init 44 = .ok (.iconst 1, 1) := by decide +kernel
theorem dX5_init_45 : decode cX5_init 45 = .ok (.new 17, 3) := by decide +kernel
theorem dX5_init_48 : decode cX5_init 48 = .ok (.dup, 1) := by decide +kernel
theorem dX5_init_49 : decode cX5_init 49 = .ok (.invokespecial 19, 3) := by decide +kernel
theorem dX5_init_52 : decode cX5_init 52 = .ok (.aastore, 1) := by decide +kernel
theorem dX5_init_53 : decode cX5_init 53 = .ok (.putfield 24, 3) := by decide +kernel
theorem dX5_init_56 : decode cX5_init 56 = .ok (.aload_n 0, 1) := by decide +kernel
theorem dX5_init_57 : decode cX5_init 57 = .ok (.bipush 40, 2) := by decide +kernel
theorem dX5_init_59 : decode cX5_init 59 = .ok (.newarray .char, 2) := by decide +kernel
theorem dX5_init_61 : decode cX5_init 61 = .ok (.putfield 28, 3) := by decide +kernel
theorem dX5_init_64 : decode cX5_init 64 = .ok (.aload_n 0, 1) := by decide +kernel
theorem dX5_init_65 : decode cX5_init 65 = .ok (.new 31, 3) := by decide +kernel
theorem dX5_init_68 : decode cX5_init 68 = .ok (.dup, 1) := by decide +kernel
theorem dX5_init_69 : decode cX5_init 69 = .ok (.invokespecial 33, 3) := by decide +kernel
theorem dX5_init_72 : decode cX5_init 72 = .ok (.putfield 34, 3) := by decide +kernel
theorem dX5_init_75 : decode cX5_init 75 = .ok (.aload_n 0, 1) := by decide +kernel
theorem dX5_init_76 : decode cX5_init 76 = .ok (.new 38, 3) := by decide +kernel
theorem dX5_init_79 : decode cX5_init 79 = .ok (.dup, 1) := by decide +kernel
theorem dX5_init_80 : decode cX5_init 80 = .ok (.invokespecial 40, 3) := by decide +kernel
theorem dX5_init_83 : decode cX5_init 83 = .ok (.putfield 41, 3) := by decide +kernel
theorem dX5_init_86 : decode cX5_init 86 = .ok (.aload_n 0, 1) := by decide +kernel
theorem dX5_init_87 : decode cX5_init 87 = .ok (.new 45, 3) := by decide +kernel
theorem dX5_init_90 : decode cX5_init 90 = .ok (.dup, 1) := by decide +kernel
theorem dX5_init_91 : decode cX5_init 91 = .ok (.invokespecial 47, 3) := by decide +kernel
theorem dX5_init_94 : decode cX5_init 94 = .ok (.putfield 48, 3) := by decide +kernel
theorem dX5_init_97 : decode cX5_init 97 = .ok (.aload_n 0, 1) := by decide +kernel
theorem dX5_init_98 : decode cX5_init 98 = .ok (.new 52, 3) := by decide +kernel
theorem dX5_init_101 : decode cX5_init 101 = .ok (.dup, 1) := by decide +kernel
theorem dX5_init_102 : decode cX5_init 102 = .ok (.invokespecial 54, 3) := by decide +kernel
theorem dX5_init_105 : decode cX5_init 105 = .ok (.putfield 55, 3) := by decide +kernel
theorem dX5_init_108 : decode cX5_init 108 = .ok (.return_, 1) := by decide +kernel
theorem dX5_say_0 : decode cX5_say 0 = .ok (.iload_n 1, 1) := by decide +kernel
theorem dX5_say_1 : decode cX5_say 1 = .ok (.bipush 33, 2) := by decide +kernel
theorem dX5_say_3 : decode cX5_say 3 = .ok (.if_icmp .lt 9, 3) := by decide +kernel
theorem dX5_say_6 : decode cX5_say 6 = .ok (.iload_n 1, 1) := by decide +kernel
theorem dX5_say_7 : decode cX5_say 7 = .ok (.bipush 126, 2) := by decide +kernel
theorem dX5_say_9 : decode cX5_say 9 = .ok (.if_icmp .le 6, 3) := by decide +kernel
theorem dX5_say_12 : decode cX5_say 12 = .ok (.bipush (-2), 2) := by decide +kernel
theorem dX5_say_14 : decode cX5_say 14 = .ok (.ireturn, 1) := by decide +kernel
theorem dX5_say_15 : decode cX5_say 15 = .ok (.aload_n 0, 1) := by decide +kernel
theorem dX5_say_16 : decode cX5_say 16 = .ok (.getfield 13, 3) := by decide +kernel
theorem dX5_say_19 : decode cX5_say 19 = .ok (.bipush 48, 2) := by decide +kernel
theorem dX5_say_21 : decode cX5_say 21 = .ok (.if_icmp .lt 6, 3) := by decide +kernel
theorem dX5_say_24 : decode cX5_say 24 = .ok (.bipush (-4), 2) := by decide +kernel
theorem dX5_say_26 : decode cX5_say 26 = .ok (.ireturn, 1) := by decide +kernel
theorem dX5_say_27 : decode cX5_say 27 = .ok (.aload_n 0, 1) := by decide +kernel
theorem dX5_say_28 : decode cX5_say 28 = .ok (.getfield 9, 3) := by decide +kernel
theorem dX5_say_31 : decode cX5_say 31 = .ok (.aload_n 0, 1) := by decide +kernel
theorem dX5_say_32 : decode cX5_say 32 = .ok (.getfield 13, 3) := by decide +kernel
theorem dX5_say_35 : decode cX5_say 35 = .ok (.iload_n 1, 1) := by decide +kernel
theorem dX5_say_36 : decode cX5_say 36 = .ok (.i2c, 1) := by decide +kernel
theorem dX5_say_37 : decode cX5_say 37 = .ok (.castore, 1) := by decide +kernel
theorem dX5_say_38 : decode cX5_say 38 = .ok (.aload_n 0, 1) := by decide +kernel
theorem dX5_say_39 : decode cX5_say 39 = .ok (.dup, 1) := by decide +kernel
theorem dX5_say_40 : decode cX5_say 40 = .ok (.getfield 13, 3) := by decide +kernel
theorem dX5_say_43 : decode cX5_say 43 = .ok (.iconst 1, 1) := by decide +kernel
theorem dX5_say_44 : decode cX5_say 44 = .ok (.iadd, 1) := by decide +kernel
theorem dX5_say_45 : decode cX5_say 45 = .ok (.putfield 13, 3) := by decide +kernel
theorem dX5_say_48 : decode cX5_say 48 = .ok (.aload_n 0, 1) := by decide +kernel
theorem dX5_say_49 : decode cX5_say 49 = .ok (.getfield 13, 3) := by decide +kernel
theorem dX5_say_52 : decode cX5_say 52 = .ok (.ireturn, 1) := by decide +kernel
theorem dX5_wipe_0 : decode cX5_wipe 0 = .ok (.aload_n 0, 1) := by decide +kernel
theorem dX5_wipe_1 : decode cX5_wipe 1 = .ok (.getfield 13, 3) := by decide +kernel
theorem dX5_wipe_4 : decode cX5_wipe 4 = .ok (.istore_n 1, 1) := by decide +kernel
theorem dX5_wipe_5 : decode cX5_wipe 5 = .ok (.aload_n 0, 1) := by decide +kernel
theorem dX5_wipe_6 : decode cX5_wipe 6 = .ok (.iconst 0, 1) := by decide +kernel
theorem dX5_wipe_7 : decode cX5_wipe 7 = .ok (.putfield 13, 3) := by decide +kernel
theorem dX5_wipe_10 : decode cX5_wipe 10 = .ok (.iload_n 1, 1) := by decide +kernel
theorem dX5_wipe_11 : decode cX5_wipe 11 = .ok (.ireturn, 1) := by decide +kernel
theorem dX5_fault_0 : decode cX5_fault 0 = .ok (.aload_n 0, 1) := by decide +kernel
theorem dX5_fault_1 : decode cX5_fault 1 = .ok (.invokevirtual 59, 3) := by decide +kernel
theorem dX5_fault_4 : decode cX5_fault 4 = .ok (.ireturn, 1) := by decide +kernel
theorem dX5_page_0 : decode cX5_page 0 = .ok (.aload_n 0, 1) := by decide +kernel
theorem dX5_page_1 : decode cX5_page 1 = .ok (.invokevirtual 59, 3) := by decide +kernel
theorem dX5_page_4 : decode cX5_page 4 = .ok (.bipush (-6), 2) := by decide +kernel
theorem dX5_page_6 : decode cX5_page 6 = .ok (.if_icmp .eq 6, 3) := by decide +kernel
theorem dX5_page_9 : decode cX5_page 9 = .ok (.bipush (-5), 2) := by decide +kernel
theorem dX5_page_11 : decode cX5_page 11 = .ok (.ireturn, 1) := by decide +kernel
theorem dX5_page_12 : decode cX5_page 12 = .ok (.aload_n 0, 1) := by decide +kernel
theorem dX5_page_13 : decode cX5_page 13 = .ok (.getfield 20, 3) := by decide +kernel
theorem dX5_page_16 : decode cX5_page 16 = .ok (.aload_n 0, 1) := by decide +kernel
theorem dX5_page_17 : decode cX5_page 17 = .ok (.getfield 9, 3) := by decide +kernel
theorem dX5_page_20 : decode cX5_page 20 = .ok (.aload_n 0, 1) := by decide +kernel
theorem dX5_page_21 : decode cX5_page 21 = .ok (.getfield 13, 3) := by decide +kernel
theorem dX5_page_24 : decode cX5_page 24 = .ok (.invokevirtual 63, 3) := by decide +kernel
theorem dX5_page_27 : decode cX5_page 27 = .ok (.aload_n 0, 1) := by decide +kernel
theorem dX5_page_28 : decode cX5_page 28 = .ok (.iconst 0, 1) := by decide +kernel
theorem dX5_page_29 : decode cX5_page 29 = .ok (.putfield 13, 3) := by decide +kernel
theorem dX5_page_32 : decode cX5_page 32 = .ok (.aload_n 0, 1) := by decide +kernel
theorem dX5_page_33 : decode cX5_page 33 = .ok (.getfield 20, 3) := by decide +kernel
theorem dX5_page_36 : decode cX5_page 36 = .ok (.getfield 67, 3) := by decide +kernel
theorem dX5_page_39 : decode cX5_page 39 = .ok (.ireturn, 1) := by decide +kernel
theorem dX5_begin_0 : decode cX5_begin 0 = .ok (.iload_n 1, 1) := by decide +kernel
theorem dX5_begin_1 : decode cX5_begin 1 = .ok (.iconst 1, 1) := by decide +kernel
theorem dX5_begin_2 : decode cX5_begin 2 = .ok (.if_icmp .lt 20, 3) := by decide +kernel
theorem dX5_begin_5 : decode cX5_begin 5 = .ok (.iload_n 1, 1) := by decide +kernel
theorem dX5_begin_6 : decode cX5_begin 6 = .ok (.bipush 10, 2) := by decide +kernel
theorem dX5_begin_8 : decode cX5_begin 8 = .ok (.if_icmp .gt 14, 3) := by decide +kernel
theorem dX5_begin_11 : decode cX5_begin 11 = .ok (.iload_n 1, 1) := by decide +kernel
theorem dX5_begin_12 : decode cX5_begin 12 = .ok (.aload_n 0, 1) := by decide +kernel
theorem dX5_begin_13 : decode cX5_begin 13 = .ok (.getfield 20, 3) := by decide +kernel
theorem dX5_begin_16 : decode cX5_begin 16 = .ok (.getfield 67, 3) := by decide +kernel
theorem dX5_begin_19 : decode cX5_begin 19 = .ok (.if_icmp .le 6, 3) := by decide +kernel
theorem dX5_begin_22 : decode cX5_begin 22 = .ok (.bipush (-2), 2) := by decide +kernel
theorem dX5_begin_24 : decode cX5_begin 24 = .ok (.ireturn, 1) := by decide +kernel
theorem dX5_begin_25 : decode cX5_begin 25 = .ok (.aload_n 0, 1) := by decide +kernel
theorem dX5_begin_26 : decode cX5_begin 26 = .ok (.getfield 20, 3) := by decide +kernel
theorem dX5_begin_29 : decode cX5_begin 29 = .ok (.getfield 70, 3) := by decide +kernel
theorem dX5_begin_32 : decode cX5_begin 32 = .ok (.istore_n 2, 1) := by decide +kernel
theorem dX5_begin_33 : decode cX5_begin 33 = .ok (.aload_n 0, 1) := by decide +kernel
theorem dX5_begin_34 : decode cX5_begin 34 = .ok (.getfield 20, 3) := by decide +kernel
theorem dX5_begin_37 : decode cX5_begin 37 = .ok (.iload_n 1, 1) := by decide +kernel
theorem dX5_begin_38 : decode cX5_begin 38 = .ok (.putfield 70, 3) := by decide +kernel
theorem dX5_begin_41 : decode cX5_begin 41 = .ok (.iload_n 2, 1) := by decide +kernel
theorem dX5_begin_42 : decode cX5_begin 42 = .ok (.ireturn, 1) := by decide +kernel
theorem dX5_court_0 : decode cX5_court 0 = .ok (.iload_n 1, 1) := by decide +kernel
theorem dX5_court_1 : decode cX5_court 1 = .ok (.invokestatic 73, 3) := by decide +kernel
theorem dX5_court_4 : decode cX5_court 4 = .ok (.ifCond .ne 6, 3) := by decide +kernel
theorem dX5_court_7 : decode cX5_court 7 = .ok (.bipush (-2), 2) := by decide +kernel
theorem dX5_court_9 : decode cX5_court 9 = .ok (.ireturn, 1) := by decide +kernel
theorem dX5_court_10 : decode cX5_court 10 = .ok (.aload_n 0, 1) := by decide +kernel
theorem dX5_court_11 : decode cX5_court 11 = .ok (.getfield 20, 3) := by decide +kernel
theorem dX5_court_14 : decode cX5_court 14 = .ok (.getfield 77, 3) := by decide +kernel
theorem dX5_court_17 : decode cX5_court 17 = .ok (.istore_n 2, 1) := by decide +kernel
theorem dX5_court_18 : decode cX5_court 18 = .ok (.aload_n 0, 1) := by decide +kernel
theorem dX5_court_19 : decode cX5_court 19 = .ok (.getfield 20, 3) := by decide +kernel
theorem dX5_court_22 : decode cX5_court 22 = .ok (.iload_n 1, 1) := by decide +kernel
theorem dX5_court_23 : decode cX5_court 23 = .ok (.putfield 77, 3) := by decide +kernel
theorem dX5_court_26 : decode cX5_court 26 = .ok (.iload_n 2, 1) := by decide +kernel
theorem dX5_court_27 : decode cX5_court 27 = .ok (.ireturn, 1) := by decide +kernel
theorem dX5_allow_0 : decode cX5_allow 0 = .ok (.iload_n 1, 1) := by decide +kernel
theorem dX5_allow_1 : decode cX5_allow 1 = .ok (.ifCond .eq 11, 3) := by decide +kernel
theorem dX5_allow_4 : decode cX5_allow 4 = .ok (.iload_n 1, 1) := by decide +kernel
theorem dX5_allow_5 : decode cX5_allow 5 = .ok (.sipush (-2047), 3) := by decide +kernel
theorem dX5_allow_8 : decode cX5_allow 8 = .ok (.iand, 1) := by decide +kernel
theorem dX5_allow_9 : decode cX5_allow 9 = .ok (.ifCond .eq 6, 3) := by decide +kernel
theorem dX5_allow_12 : decode cX5_allow 12 = .ok (.bipush (-2), 2) := by decide +kernel
theorem dX5_allow_14 : decode cX5_allow 14 = .ok (.ireturn, 1) := by decide +kernel
theorem dX5_allow_15 : decode cX5_allow 15 = .ok (.aload_n 0, 1) := by decide +kernel
theorem dX5_allow_16 : decode cX5_allow 16 = .ok (.getfield 20, 3) := by decide +kernel
theorem dX5_allow_19 : decode cX5_allow 19 = .ok (.getfield 80, 3) := by decide +kernel
theorem dX5_allow_22 : decode cX5_allow 22 = .ok (.istore_n 2, 1) := by decide +kernel
theorem dX5_allow_23 : decode cX5_allow 23 = .ok (.aload_n 0, 1) := by decide +kernel
theorem dX5_allow_24 : decode cX5_allow 24 = .ok (.getfield 20, 3) := by decide +kernel
theorem dX5_allow_27 : decode cX5_allow 27 = .ok (.iload_n 1, 1) := by decide +kernel
theorem dX5_allow_28 : decode cX5_allow 28 = .ok (.putfield 80, 3) := by decide +kernel
theorem dX5_allow_31 : decode cX5_allow 31 = .ok (.iload_n 2, 1) := by decide +kernel
theorem dX5_allow_32 : decode cX5_allow 32 = .ok (.ireturn, 1) := by decide +kernel
theorem dX5_weight_0 : decode cX5_weight 0 = .ok (.iload_n 1, 1) := by decide +kernel
theorem dX5_weight_1 : decode cX5_weight 1 = .ok (.invokestatic 73, 3) := by decide +kernel
theorem dX5_weight_4 : decode cX5_weight 4 = .ok (.ifCond .ne 5, 3) := by decide +kernel
theorem dX5_weight_7 : decode cX5_weight 7 = .ok (.iconst (-1), 1) := by decide +kernel
theorem dX5_weight_8 : decode cX5_weight 8 = .ok (.ireturn, 1) := by decide +kernel
theorem dX5_weight_9 : decode cX5_weight 9 = .ok (.iload_n 2, 1) := by decide +kernel
theorem dX5_weight_10 : decode cX5_weight 10 = .ok (.ifCond .lt 9, 3) := by decide +kernel
theorem dX5_weight_13 : decode cX5_weight 13 = .ok (.iload_n 2, 1) := by decide +kernel
theorem dX5_weight_14 : decode cX5_weight 14 = .ok (.bipush 9, 2) := by decide +kernel
theorem dX5_weight_16 : decode cX5_weight 16 = .ok (.if_icmp .le 6, 3) := by decide +kernel
theorem dX5_weight_19 : decode cX5_weight 19 = .ok (.bipush (-2), 2) := by decide +kernel
theorem dX5_weight_21 : decode cX5_weight 21 = .ok (.ireturn, 1) := by decide +kernel
theorem dX5_weight_22 : decode cX5_weight 22 = .ok (.aload_n 0, 1) := by decide +kernel
theorem dX5_weight_23 : decode cX5_weight 23 = .ok (.getfield 20, 3) := by decide +kernel
theorem dX5_weight_26 : decode cX5_weight 26 = .ok (.getfield 83, 3) := by decide +kernel
theorem dX5_weight_29 : decode cX5_weight 29 = .ok (.iload_n 1, 1) := by decide +kernel
theorem dX5_weight_30 : decode cX5_weight 30 = .ok (.iaload, 1) := by decide +kernel
theorem dX5_weight_31 : decode cX5_weight 31 = .ok (.istore_n 3, 1) := by decide +kernel
theorem dX5_weight_32 : decode cX5_weight 32 = .ok (.aload_n 0, 1) := by decide +kernel
theorem dX5_weight_33 : decode cX5_weight 33 = .ok (.getfield 20, 3) := by decide +kernel
theorem dX5_weight_36 : decode cX5_weight 36 = .ok (.invokevirtual 87, 3) := by decide +kernel
theorem dX5_weight_39 : decode cX5_weight 39 = .ok (.iload_n 3, 1) := by decide +kernel
theorem dX5_weight_40 : decode cX5_weight 40 = .ok (.isub, 1) := by decide +kernel
theorem dX5_weight_41 : decode cX5_weight 41 = .ok (.iload_n 2, 1) := by decide +kernel
theorem dX5_weight_42 : decode cX5_weight 42 = .ok (.iadd, 1) := by decide +kernel
theorem dX5_weight_43 : decode cX5_weight 43 = .ok (.istore 4, 2) := by decide +kernel
theorem dX5_weight_45 : decode cX5_weight 45 = .ok (.iload 4, 2) := by decide +kernel
theorem dX5_weight_47 : decode cX5_weight 47 = .ok (.iconst 1, 1) := by decide +kernel
theorem dX5_weight_48 : decode cX5_weight 48 = .ok (.if_icmp .lt 10, 3) := by decide +kernel
theorem dX5_weight_51 : decode cX5_weight 51 = .ok (.iload 4, 2) := by decide +kernel
theorem dX5_weight_53 : decode cX5_weight 53 = .ok (.bipush 12, 2) := by decide +kernel
theorem dX5_weight_55 : decode cX5_weight 55 = .ok (.if_icmp .le 6, 3) := by decide +kernel
theorem dX5_weight_58 : decode cX5_weight 58 = .ok (.bipush (-2), 2) := by decide +kernel
theorem dX5_weight_60 : decode cX5_weight 60 = .ok (.ireturn, 1) := by decide +kernel
theorem dX5_weight_61 : decode cX5_weight 61 = .ok (.aload_n 0, 1) := by decide +kernel
theorem dX5_weight_62 : decode cX5_weight 62 = .ok (.getfield 20, 3) := by decide +kernel
theorem dX5_weight_65 : decode cX5_weight 65 = .ok (.getfield 83, 3) := by decide +kernel
theorem dX5_weight_68 : decode cX5_weight 68 = .ok (.iload_n 1, 1) := by decide +kernel
theorem dX5_weight_69 : decode cX5_weight 69 = .ok (.iload_n 2, 1) := by decide +kernel
theorem dX5_weight_70 : decode cX5_weight 70 = .ok (.iastore, 1) := by decide +kernel
theorem dX5_weight_71 : decode cX5_weight 71 = .ok (.iload_n 3, 1) := by decide +kernel
theorem dX5_weight_72 : decode cX5_weight 72 = .ok (.ireturn, 1) := by decide +kernel
theorem dX5_place_0 : decode cX5_place 0 = .ok (.aload_n 0, 1) := by decide +kernel
theorem dX5_place_1 : decode cX5_place 1 = .ok (.getfield 20, 3) := by decide +kernel
theorem dX5_place_4 : decode cX5_place 4 = .ok (.iload_n 1, 1) := by decide +kernel
theorem dX5_place_5 : decode cX5_place 5 = .ok (.invokevirtual 90, 3) := by decide +kernel
theorem dX5_place_8 : decode cX5_place 8 = .ok (.ifCond .ne 5, 3) := by decide +kernel
theorem dX5_place_11 : decode cX5_place 11 = .ok (.iconst (-1), 1) := by decide +kernel
theorem dX5_place_12 : decode cX5_place 12 = .ok (.ireturn, 1) := by decide +kernel
theorem dX5_place_13 : decode cX5_place 13 = .ok (.iload_n 2, 1) := by decide +kernel
theorem dX5_place_14 : decode cX5_place 14 = .ok (.ifCond .lt 8, 3) := by decide +kernel
theorem dX5_place_17 : decode cX5_place 17 = .ok (.iload_n 2, 1) := by decide +kernel
theorem dX5_place_18 : decode cX5_place 18 = .ok (.iconst 1, 1) := by decide +kernel
theorem dX5_place_19 : decode cX5_place 19 = .ok (.if_icmp .le 6, 3) := by decide +kernel
theorem dX5_place_22 : decode cX5_place 22 = .ok (.bipush (-2), 2) := by decide +kernel
theorem dX5_place_24 : decode cX5_place 24 = .ok (.ireturn, 1) := by decide +kernel
theorem dX5_place_25 : decode cX5_place 25 = .ok (.aload_n 0, 1) := by decide +kernel
theorem dX5_place_26 : decode cX5_place 26 = .ok (.getfield 20, 3) := by decide +kernel
theorem dX5_place_29 : decode cX5_place 29 = .ok (.getfield 93, 3) := by decide +kernel
theorem dX5_place_32 : decode cX5_place 32 = .ok (.iload_n 1, 1) := by decide +kernel
theorem dX5_place_33 : decode cX5_place 33 = .ok (.caload, 1) := by decide +kernel
theorem dX5_place_34 : decode cX5_place 34 = .ok (.istore_n 3, 1) := by decide +kernel
theorem dX5_place_35 : decode cX5_place 35 = .ok (.iload_n 2, 1) := by decide +kernel
theorem dX5_place_36 : decode cX5_place 36 = .ok (.ifCond .ne 5, 3) := by decide +kernel
theorem dX5_place_39 : decode cX5_place 39 = .ok (.iload_n 3, 1) := by decide +kernel
theorem dX5_place_40 : decode cX5_place 40 = .ok (.ireturn, 1) := by decide +kernel
theorem dX5_place_41 : decode cX5_place 41 = .ok (.iload_n 3, 1) := by decide +kernel
theorem dX5_place_42 : decode cX5_place 42 = .ok (.aload_n 0, 1) := by decide +kernel
theorem dX5_place_43 : decode cX5_place 43 = .ok (.getfield 20, 3) := by decide +kernel
theorem dX5_place_46 : decode cX5_place 46 = .ok (.getfield 77, 3) := by decide +kernel
theorem dX5_place_49 : decode cX5_place 49 = .ok (.invokestatic 96, 3) := by decide +kernel
theorem dX5_place_52 : decode cX5_place 52 = .ok (.istore 4, 2) := by decide +kernel
theorem dX5_place_54 : decode cX5_place 54 = .ok (.iload 4, 2) := by decide +kernel
theorem dX5_place_56 : decode cX5_place 56 = .ok (.ifCond .ne 8, 3) := by decide +kernel
theorem dX5_place_59 : decode cX5_place 59 = .ok (.bipush (-6), 2) := by decide +kernel
theorem dX5_place_61 : decode cX5_place 61 = .ok (.goto 5, 3) := by decide +kernel
theorem dX5_place_64 : decode cX5_place 64 = .ok (.iload 4, 2) := by decide +kernel
theorem dX5_place_66 : decode cX5_place 66 = .ok (.ireturn, 1) := by decide +kernel
theorem dX5_out_0 : decode cX5_out 0 = .ok (.aload_n 0, 1) := by decide +kernel
theorem dX5_out_1 : decode cX5_out 1 = .ok (.getfield 20, 3) := by decide +kernel
theorem dX5_out_4 : decode cX5_out 4 = .ok (.iload_n 1, 1) := by decide +kernel
theorem dX5_out_5 : decode cX5_out 5 = .ok (.invokevirtual 90, 3) := by decide +kernel
theorem dX5_out_8 : decode cX5_out 8 = .ok (.ifCond .ne 5, 3) := by decide +kernel
theorem dX5_out_11 : decode cX5_out 11 = .ok (.iconst (-1), 1) := by decide +kernel
theorem dX5_out_12 : decode cX5_out 12 = .ok (.ireturn, 1) := by decide +kernel
theorem dX5_out_13 : decode cX5_out 13 = .ok (.aload_n 0, 1) := by decide +kernel
theorem dX5_out_14 : decode cX5_out 14 = .ok (.getfield 20, 3) := by decide +kernel
theorem dX5_out_17 : decode cX5_out 17 = .ok (.invokevirtual 100, 3) := by decide +kernel
theorem dX5_out_20 : decode cX5_out 20 = .ok (.ifCond .ne 6, 3) := by decide +kernel
theorem dX5_out_23 : decode cX5_out 23 = .ok (.bipush (-3), 2) := by decide +kernel
theorem dX5_out_25 : decode cX5_out 25 = .ok (.ireturn, 1) := by decide +kernel
theorem dX5_out_26 : decode cX5_out 26 = .ok (.aload_n 0, 1) := by decide +kernel
theorem dX5_out_27 : decode cX5_out 27 = .ok (.getfield 34, 3) := by decide +kernel
theorem dX5_out_30 : decode cX5_out 30 = .ok (.aload_n 0, 1) := by decide +kernel
theorem dX5_out_31 : decode cX5_out 31 = .ok (.getfield 20, 3) := by decide +kernel
theorem dX5_out_34 : decode cX5_out 34 = .ok (.getfield 93, 3) := by decide +kernel
theorem dX5_out_37 : decode cX5_out 37 = .ok (.aload_n 0, 1) := by decide +kernel
theorem dX5_out_38 : decode cX5_out 38 = .ok (.getfield 20, 3) := by decide +kernel
theorem dX5_out_41 : decode cX5_out 41 = .ok (.aload_n 0, 1) := by decide +kernel
theorem dX5_out_42 : decode cX5_out 42 = .ok (.getfield 20, 3) := by decide +kernel
theorem dX5_out_45 : decode cX5_out 45 = .ok (.getfield 77, 3) := by decide +kernel
theorem dX5_out_48 : decode cX5_out 48 = .ok (.invokevirtual 104, 3) := by decide +kernel
theorem dX5_out_51 : decode cX5_out 51 = .ok (.aload_n 0, 1) := by decide +kernel
theorem dX5_out_52 : decode cX5_out 52 = .ok (.getfield 34, 3) := by decide +kernel
theorem dX5_out_55 : decode cX5_out 55 = .ok (.getfield 108, 3) := by decide +kernel
theorem dX5_out_58 : decode cX5_out 58 = .ok (.iload_n 1, 1) := by decide +kernel
theorem dX5_out_59 : decode cX5_out 59 = .ok (.iaload, 1) := by decide +kernel
theorem dX5_out_60 : decode cX5_out 60 = .ok (.ireturn, 1) := by decide +kernel
theorem dX5_streams_0 : decode cX5_streams 0 = .ok (.aload_n 0, 1) := by decide +kernel
theorem dX5_streams_1 : decode cX5_streams 1 = .ok (.getfield 20, 3) := by decide +kernel
theorem dX5_streams_4 : decode cX5_streams 4 = .ok (.invokevirtual 100, 3) := by decide +kernel
theorem dX5_streams_7 : decode cX5_streams 7 = .ok (.ifCond .ne 6, 3) := by decide +kernel
theorem dX5_streams_10 : decode cX5_streams 10 = .ok (.bipush (-3), 2) := by decide +kernel
theorem dX5_streams_12 : decode cX5_streams 12 = .ok (.ireturn, 1) := by decide +kernel
theorem dX5_streams_13 : decode cX5_streams 13 = .ok (.aload_n 0, 1) := by decide +kernel
theorem dX5_streams_14 : decode cX5_streams 14 = .ok (.getfield 34, 3) := by decide +kernel
theorem dX5_streams_17 : decode cX5_streams 17 = .ok (.aload_n 0, 1) := by decide +kernel
theorem dX5_streams_18 : decode cX5_streams 18 = .ok (.getfield 20, 3) := by decide +kernel
theorem dX5_streams_21 : decode cX5_streams 21 = .ok (.getfield 93, 3) := by decide +kernel
theorem dX5_streams_24 : decode cX5_streams 24 = .ok (.aload_n 0, 1) := by decide +kernel
theorem dX5_streams_25 : decode cX5_streams 25 = .ok (.getfield 20, 3) := by decide +kernel
theorem dX5_streams_28 : decode cX5_streams 28 = .ok (.aload_n 0, 1) := by decide +kernel
theorem dX5_streams_29 : decode cX5_streams 29 = .ok (.getfield 20, 3) := by decide +kernel
theorem dX5_streams_32 : decode cX5_streams 32 = .ok (.getfield 77, 3) := by decide +kernel
theorem dX5_streams_35 : decode cX5_streams 35 = .ok (.invokevirtual 104, 3) := by decide +kernel
theorem dX5_streams_38 : decode cX5_streams 38 = .ok (.aload_n 0, 1) := by decide +kernel
theorem dX5_streams_39 : decode cX5_streams 39 = .ok (.getfield 34, 3) := by decide +kernel
theorem dX5_streams_42 : decode cX5_streams 42 = .ok (.invokevirtual 111, 3) := by decide +kernel
theorem dX5_streams_45 : decode cX5_streams 45 = .ok (.ireturn, 1) := by decide +kernel
theorem dX5_meet_0 : decode cX5_meet 0 = .ok (.aload_n 0, 1) := by decide +kernel
theorem dX5_meet_1 : decode cX5_meet 1 = .ok (.getfield 20, 3) := by decide +kernel
theorem dX5_meet_4 : decode cX5_meet 4 = .ok (.iload_n 1, 1) := by decide +kernel
theorem dX5_meet_5 : decode cX5_meet 5 = .ok (.invokevirtual 90, 3) := by decide +kernel
theorem dX5_meet_8 : decode cX5_meet 8 = .ok (.ifCond .eq 14, 3) := by decide +kernel
theorem dX5_meet_11 : decode cX5_meet 11 = .ok (.aload_n 0, 1) := by decide +kernel
theorem dX5_meet_12 : decode cX5_meet 12 = .ok (.getfield 20, 3) := by decide +kernel
theorem dX5_meet_15 : decode cX5_meet 15 = .ok (.iload_n 2, 1) := by decide +kernel
theorem dX5_meet_16 : decode cX5_meet 16 = .ok (.invokevirtual 90, 3) := by decide +kernel
theorem dX5_meet_19 : decode cX5_meet 19 = .ok (.ifCond .ne 5, 3) := by decide +kernel
theorem dX5_meet_22 : decode cX5_meet 22 = .ok (.iconst (-1), 1) := by decide +kernel
theorem dX5_meet_23 : decode cX5_meet 23 = .ok (.ireturn, 1) := by decide +kernel
theorem dX5_meet_24 : decode cX5_meet 24 = .ok (.aload_n 0, 1) := by decide +kernel
theorem dX5_meet_25 : decode cX5_meet 25 = .ok (.getfield 20, 3) := by decide +kernel
theorem dX5_meet_28 : decode cX5_meet 28 = .ok (.invokevirtual 100, 3) := by decide +kernel
theorem dX5_meet_31 : decode cX5_meet 31 = .ok (.ifCond .ne 6, 3) := by decide +kernel
theorem dX5_meet_34 : decode cX5_meet 34 = .ok (.bipush (-3), 2) := by decide +kernel
theorem dX5_meet_36 : decode cX5_meet 36 = .ok (.ireturn, 1) := by decide +kernel
theorem dX5_meet_37 : decode cX5_meet 37 = .ok (.aload_n 0, 1) := by decide +kernel
theorem dX5_meet_38 : decode cX5_meet 38 = .ok (.getfield 34, 3) := by decide +kernel
theorem dX5_meet_41 : decode cX5_meet 41 = .ok (.aload_n 0, 1) := by decide +kernel
theorem dX5_meet_42 : decode cX5_meet 42 = .ok (.getfield 20, 3) := by decide +kernel
theorem dX5_meet_45 : decode cX5_meet 45 = .ok (.getfield 93, 3) := by decide +kernel
theorem dX5_meet_48 : decode cX5_meet 48 = .ok (.aload_n 0, 1) := by decide +kernel
theorem dX5_meet_49 : decode cX5_meet 49 = .ok (.getfield 20, 3) := by decide +kernel
theorem dX5_meet_52 : decode cX5_meet 52 = .ok (.aload_n 0, 1) := by decide +kernel
theorem dX5_meet_53 : decode cX5_meet 53 = .ok (.getfield 20, 3) := by decide +kernel
theorem dX5_meet_56 : decode cX5_meet 56 = .ok (.getfield 77, 3) := by decide +kernel
theorem dX5_meet_59 : decode cX5_meet 59 = .ok (.invokevirtual 114, 3) := by decide +kernel
theorem dX5_meet_62 : decode cX5_meet 62 = .ok (.aload_n 0, 1) := by decide +kernel
theorem dX5_meet_63 : decode cX5_meet 63 = .ok (.getfield 34, 3) := by decide +kernel
theorem dX5_meet_66 : decode cX5_meet 66 = .ok (.iload_n 1, 1) := by decide +kernel
theorem dX5_meet_67 : decode cX5_meet 67 = .ok (.invokevirtual 117, 3) := by decide +kernel
theorem dX5_meet_70 : decode cX5_meet 70 = .ok (.aload_n 0, 1) := by decide +kernel
theorem dX5_meet_71 : decode cX5_meet 71 = .ok (.getfield 34, 3) := by decide +kernel
theorem dX5_meet_74 : decode cX5_meet 74 = .ok (.iload_n 2, 1) := by decide +kernel
theorem dX5_meet_75 : decode cX5_meet 75 = .ok (.invokevirtual 117, 3) := by decide +kernel
theorem dX5_meet_78 : decode cX5_meet 78 = .ok (.land, 1) := by decide +kernel
theorem dX5_meet_79 : decode cX5_meet 79 = .ok (.lstore_n 3, 1) := by decide +kernel
theorem dX5_meet_80 : decode cX5_meet 80 = .ok (.lload_n 3, 1) := by decide +kernel
theorem dX5_meet_81 : decode cX5_meet 81 = .ok (.lconst 0, 1) := by decide +kernel
theorem dX5_meet_82 : decode cX5_meet 82 = .ok (.lcmp, 1) := by decide +kernel
theorem dX5_meet_83 : decode cX5_meet 83 = .ok (.ifCond .ne 8, 3) := by decide +kernel
theorem dX5_meet_86 : decode cX5_meet 86 = .ok (.bipush (-6), 2) := by decide +kernel
theorem dX5_meet_88 : decode cX5_meet 88 = .ok (.goto 7, 3) := by decide +kernel
theorem dX5_meet_91 : decode cX5_meet 91 = .ok (.lload_n 3, 1) := by decide +kernel
theorem dX5_meet_92 : decode cX5_meet 92 = .ok (.invokestatic 121, 3) := by decide +kernel
theorem dX5_meet_95 : decode cX5_meet 95 = .ok (.ireturn, 1) := by decide +kernel
theorem dX5_pass_0 : decode cX5_pass 0 = .ok (.aload_n 0, 1) := by decide +kernel
theorem dX5_pass_1 : decode cX5_pass 1 = .ok (.getfield 20, 3) := by decide +kernel
theorem dX5_pass_4 : decode cX5_pass 4 = .ok (.invokevirtual 100, 3) := by decide +kernel
theorem dX5_pass_7 : decode cX5_pass 7 = .ok (.ifCond .ne 6, 3) := by decide +kernel
theorem dX5_pass_10 : decode cX5_pass 10 = .ok (.bipush (-3), 2) := by decide +kernel
theorem dX5_pass_12 : decode cX5_pass 12 = .ok (.ireturn, 1) := by decide +kernel
theorem dX5_pass_13 : decode cX5_pass 13 = .ok (.aload_n 0, 1) := by decide +kernel
theorem dX5_pass_14 : decode cX5_pass 14 = .ok (.getfield 34, 3) := by decide +kernel
theorem dX5_pass_17 : decode cX5_pass 17 = .ok (.aload_n 0, 1) := by decide +kernel
theorem dX5_pass_18 : decode cX5_pass 18 = .ok (.getfield 20, 3) := by decide +kernel
theorem dX5_pass_21 : decode cX5_pass 21 = .ok (.getfield 93, 3) := by decide +kernel
theorem dX5_pass_24 : decode cX5_pass 24 = .ok (.aload_n 0, 1) := by decide +kernel
theorem dX5_pass_25 : decode cX5_pass 25 = .ok (.getfield 20, 3) := by decide +kernel
theorem dX5_pass_28 : decode cX5_pass 28 = .ok (.aload_n 0, 1) := by decide +kernel
theorem dX5_pass_29 : decode cX5_pass 29 = .ok (.getfield 20, 3) := by decide +kernel
theorem dX5_pass_32 : decode cX5_pass 32 = .ok (.getfield 77, 3) := by decide +kernel
theorem dX5_pass_35 : decode cX5_pass 35 = .ok (.invokevirtual 114, 3) := by decide +kernel
theorem dX5_pass_38 : decode cX5_pass 38 = .ok (.aload_n 0, 1) := by decide +kernel
theorem dX5_pass_39 : decode cX5_pass 39 = .ok (.getfield 34, 3) := by decide +kernel
theorem dX5_pass_42 : decode cX5_pass 42 = .ok (.invokevirtual 125, 3) := by decide +kernel
theorem dX5_pass_45 : decode cX5_pass 45 = .ok (.lstore_n 2, 1) := by decide +kernel
theorem dX5_pass_46 : decode cX5_pass 46 = .ok (.iload_n 1, 1) := by decide +kernel
theorem dX5_pass_47 : decode cX5_pass 47 = .ok (.iconst (-1), 1) := by decide +kernel
theorem dX5_pass_48 : decode cX5_pass 48 = .ok (.if_icmp .ne 10, 3) := by decide +kernel
theorem dX5_pass_51 : decode cX5_pass 51 = .ok (.lload_n 2, 1) := by decide +kernel
theorem dX5_pass_52 : decode cX5_pass 52 = .ok (.invokestatic 129, 3) := by decide +kernel
theorem dX5_pass_55 : decode cX5_pass 55 = .ok (.goto 8, 3) := by decide +kernel
theorem dX5_pass_58 : decode cX5_pass 58 = .ok (.lload_n 2, 1) := by decide +kernel
theorem dX5_pass_59 : decode cX5_pass 59 = .ok (.iload_n 1, 1) := by decide +kernel
theorem dX5_pass_60 : decode cX5_pass 60 = .ok (.invokestatic 134, 3) := by decide +kernel
theorem dX5_pass_63 : decode cX5_pass 63 = .ok (.ireturn, 1) := by decide +kernel
theorem dX5_tree_0 : decode cX5_tree 0 = .ok (.aload_n 0, 1) := by decide +kernel
theorem dX5_tree_1 : decode cX5_tree 1 = .ok (.getfield 20, 3) := by decide +kernel
theorem dX5_tree_4 : decode cX5_tree 4 = .ok (.iload_n 1, 1) := by decide +kernel
theorem dX5_tree_5 : decode cX5_tree 5 = .ok (.invokevirtual 90, 3) := by decide +kernel
theorem dX5_tree_8 : decode cX5_tree 8 = .ok (.ifCond .ne 5, 3) := by decide +kernel
theorem dX5_tree_11 : decode cX5_tree 11 = .ok (.iconst (-1), 1) := by decide +kernel
theorem dX5_tree_12 : decode cX5_tree 12 = .ok (.ireturn, 1) := by decide +kernel
theorem dX5_tree_13 : decode cX5_tree 13 = .ok (.iload_n 2, 1) := by decide +kernel
theorem dX5_tree_14 : decode cX5_tree 14 = .ok (.ifCond .lt 8, 3) := by decide +kernel
theorem dX5_tree_17 : decode cX5_tree 17 = .ok (.iload_n 2, 1) := by decide +kernel
theorem dX5_tree_18 : decode cX5_tree 18 = .ok (.iconst 2, 1) := by decide +kernel
theorem dX5_tree_19 : decode cX5_tree 19 = .ok (.if_icmp .le 6, 3) := by decide +kernel
theorem dX5_tree_22 : decode cX5_tree 22 = .ok (.bipush (-2), 2) := by decide +kernel
theorem dX5_tree_24 : decode cX5_tree 24 = .ok (.ireturn, 1) := by decide +kernel
theorem dX5_tree_25 : decode cX5_tree 25 = .ok (.aload_n 0, 1) := by decide +kernel
theorem dX5_tree_26 : decode cX5_tree 26 = .ok (.getfield 20, 3) := by decide +kernel
theorem dX5_tree_29 : decode cX5_tree 29 = .ok (.invokevirtual 100, 3) := by decide +kernel
theorem dX5_tree_32 : decode cX5_tree 32 = .ok (.ifCond .ne 6, 3) := by decide +kernel
theorem dX5_tree_35 : decode cX5_tree 35 = .ok (.bipush (-3), 2) := by decide +kernel
theorem dX5_tree_37 : decode cX5_tree 37 = .ok (.ireturn, 1) := by decide +kernel
theorem dX5_tree_38 : decode cX5_tree 38 = .ok (.aload_n 0, 1) := by decide +kernel
theorem dX5_tree_39 : decode cX5_tree 39 = .ok (.getfield 34, 3) := by decide +kernel
theorem dX5_tree_42 : decode cX5_tree 42 = .ok (.aload_n 0, 1) := by decide +kernel
theorem dX5_tree_43 : decode cX5_tree 43 = .ok (.getfield 20, 3) := by decide +kernel
theorem dX5_tree_46 : decode cX5_tree 46 = .ok (.getfield 93, 3) := by decide +kernel
theorem dX5_tree_49 : decode cX5_tree 49 = .ok (.aload_n 0, 1) := by decide +kernel
theorem dX5_tree_50 : decode cX5_tree 50 = .ok (.getfield 20, 3) := by decide +kernel
theorem dX5_tree_53 : decode cX5_tree 53 = .ok (.aload_n 0, 1) := by decide +kernel
theorem dX5_tree_54 : decode cX5_tree 54 = .ok (.getfield 20, 3) := by decide +kernel
theorem dX5_tree_57 : decode cX5_tree 57 = .ok (.getfield 77, 3) := by decide +kernel
theorem dX5_tree_60 : decode cX5_tree 60 = .ok (.invokevirtual 104, 3) := by decide +kernel
theorem dX5_tree_63 : decode cX5_tree 63 = .ok (.iload_n 2, 1) := by decide +kernel
theorem dX5_tree_64 : decode cX5_tree 64 = .ok (.ifCond .ne 13, 3) := by decide +kernel
theorem dX5_tree_67 : decode cX5_tree 67 = .ok (.aload_n 0, 1) := by decide +kernel
theorem dX5_tree_68 : decode cX5_tree 68 = .ok (.getfield 34, 3) := by decide +kernel
theorem dX5_tree_71 : decode cX5_tree 71 = .ok (.getfield 138, 3) := by decide +kernel
theorem dX5_tree_74 : decode cX5_tree 74 = .ok (.iload_n 1, 1) := by decide +kernel
theorem dX5_tree_75 : decode cX5_tree 75 = .ok (.iaload, 1) := by decide +kernel
theorem dX5_tree_76 : decode cX5_tree 76 = .ok (.ireturn, 1) := by decide +kernel
theorem dX5_tree_77 : decode cX5_tree 77 = .ok (.iload_n 2, 1) := by decide +kernel
theorem dX5_tree_78 : decode cX5_tree 78 = .ok (.iconst 1, 1) := by decide +kernel
theorem dX5_tree_79 : decode cX5_tree 79 = .ok (.if_icmp .ne 15, 3) := by decide +kernel
theorem dX5_tree_82 : decode cX5_tree 82 = .ok (.aload_n 0, 1) := by decide +kernel
theorem dX5_tree_83 : decode cX5_tree 83 = .ok (.getfield 34, 3) := by decide +kernel
theorem dX5_tree_86 : decode cX5_tree 86 = .ok (.getfield 141, 3) := by decide +kernel
theorem dX5_tree_89 : decode cX5_tree 89 = .ok (.iload_n 1, 1) := by decide +kernel
theorem dX5_tree_90 : decode cX5_tree 90 = .ok (.iaload, 1) := by decide +kernel
theorem dX5_tree_91 : decode cX5_tree 91 = .ok (.goto 12, 3) := by decide +kernel
theorem dX5_tree_94 : decode cX5_tree 94 = .ok (.aload_n 0, 1) := by decide +kernel
theorem dX5_tree_95 : decode cX5_tree 95 = .ok (.getfield 34, 3) := by decide +kernel
theorem dX5_tree_98 : decode cX5_tree 98 = .ok (.getfield 144, 3) := by decide +kernel
theorem dX5_tree_101 : decode cX5_tree 101 = .ok (.iload_n 1, 1) := by decide +kernel
theorem dX5_tree_102 : decode cX5_tree 102 = .ok (.iaload, 1) := by decide +kernel
theorem dX5_tree_103 : decode cX5_tree 103 = .ok (.ireturn, 1) := by decide +kernel
theorem dX5_nowhere_0 : decode cX5_nowhere 0 = .ok (.aload_n 0, 1) := by decide +kernel
theorem dX5_nowhere_1 : decode cX5_nowhere 1 = .ok (.getfield 20, 3) := by decide +kernel
theorem dX5_nowhere_4 : decode cX5_nowhere 4 = .ok (.invokevirtual 100, 3) := by decide +kernel
theorem dX5_nowhere_7 : decode cX5_nowhere 7 = .ok (.ifCond .ne 6, 3) := by decide +kernel
theorem dX5_nowhere_10 : decode cX5_nowhere 10 = .ok (.bipush (-3), 2) := by decide +kernel
theorem dX5_nowhere_12 : decode cX5_nowhere 12 = .ok (.ireturn, 1) := by decide +kernel
theorem dX5_nowhere_13 : decode cX5_nowhere 13 = .ok (.aload_n 0, 1) := by decide +kernel
theorem dX5_nowhere_14 : decode cX5_nowhere 14 = .ok (.getfield 34, 3) := by decide +kernel
theorem dX5_nowhere_17 : decode cX5_nowhere 17 = .ok (.aload_n 0, 1) := by decide +kernel
theorem dX5_nowhere_18 : decode cX5_nowhere 18 = .ok (.getfield 20, 3) := by decide +kernel
theorem dX5_nowhere_21 : decode cX5_nowhere 21 = .ok (.getfield 93, 3) := by decide +kernel
theorem dX5_nowhere_24 : decode cX5_nowhere 24 = .ok (.aload_n 0, 1) := by decide +kernel
theorem dX5_nowhere_25 : decode cX5_nowhere 25 = .ok (.getfield 20, 3) := by decide +kernel
theorem dX5_nowhere_28 : decode cX5_nowhere 28 = .ok (.aload_n 0, 1) := by decide +kernel
theorem dX5_nowhere_29 : decode cX5_nowhere 29 = .ok (.getfield 20, 3) := by decide +kernel
theorem dX5_nowhere_32 : decode cX5_nowhere 32 = .ok (.getfield 77, 3) := by decide +kernel
theorem dX5_nowhere_35 : decode cX5_nowhere 35 = .ok (.invokevirtual 104, 3) := by decide +kernel
theorem dX5_nowhere_38 : decode cX5_nowhere 38 = .ok (.iconst 0, 1) := by decide +kernel
theorem dX5_nowhere_39 : decode cX5_nowhere 39 = .ok (.istore_n 1, 1) := by decide +kernel
theorem dX5_nowhere_40 : decode cX5_nowhere 40 = .ok (.iconst 0, 1) := by decide +kernel
theorem dX5_nowhere_41 : decode cX5_nowhere 41 = .ok (.istore_n 2, 1) := by decide +kernel
theorem dX5_nowhere_42 : decode cX5_nowhere 42 = .ok (.iload_n 2, 1) := by decide +kernel
theorem dX5_nowhere_43 : decode cX5_nowhere 43 = .ok (.aload_n 0, 1) := by decide +kernel
theorem dX5_nowhere_44 : decode cX5_nowhere 44 = .ok (.getfield 34, 3) := by decide +kernel
theorem dX5_nowhere_47 : decode cX5_nowhere 47 = .ok (.getfield 147, 3) := by decide +kernel
theorem dX5_nowhere_50 : decode cX5_nowhere 50 = .ok (.if_icmp .ge 24, 3) := by decide +kernel
theorem dX5_nowhere_53 : decode cX5_nowhere 53 = .ok (.aload_n 0, 1) := by decide +kernel
theorem dX5_nowhere_54 : decode cX5_nowhere 54 = .ok (.getfield 34, 3) := by decide +kernel
theorem dX5_nowhere_57 : decode cX5_nowhere 57 = .ok (.getfield 141, 3) := by decide +kernel
theorem dX5_nowhere_60 : decode cX5_nowhere 60 = .ok (.iload_n 2, 1) := by decide +kernel
theorem dX5_nowhere_61 : decode cX5_nowhere 61 = .ok (.iaload, 1) := by decide +kernel
theorem dX5_nowhere_62 : decode cX5_nowhere 62 = .ok (.ifCond .ne 6, 3) := by decide +kernel
theorem dX5_nowhere_65 : decode cX5_nowhere 65 = .ok (.iinc 1 1, 3) := by decide +kernel
theorem dX5_nowhere_68 : decode cX5_nowhere 68 = .ok (.iinc 2 1, 3) := by decide +kernel
theorem dX5_nowhere_71 : decode cX5_nowhere 71 = .ok (.goto (-29), 3) := by decide +kernel
theorem dX5_nowhere_74 : decode cX5_nowhere 74 = .ok (.iload_n 1, 1) := by decide +kernel
theorem dX5_nowhere_75 : decode cX5_nowhere 75 = .ok (.ireturn, 1) := by decide +kernel
theorem dX5_minds_0 : decode cX5_minds 0 = .ok (.aload_n 0, 1) := by decide +kernel
theorem dX5_minds_1 : decode cX5_minds 1 = .ok (.getfield 20, 3) := by decide +kernel
theorem dX5_minds_4 : decode cX5_minds 4 = .ok (.iload_n 1, 1) := by decide +kernel
theorem dX5_minds_5 : decode cX5_minds 5 = .ok (.invokevirtual 90, 3) := by decide +kernel
theorem dX5_minds_8 : decode cX5_minds 8 = .ok (.ifCond .eq 10, 3) := by decide +kernel
theorem dX5_minds_11 : decode cX5_minds 11 = .ok (.iload_n 2, 1) := by decide +kernel
theorem dX5_minds_12 : decode cX5_minds 12 = .ok (.invokestatic 73, 3) := by decide +kernel
theorem dX5_minds_15 : decode cX5_minds 15 = .ok (.ifCond .ne 5, 3) := by decide +kernel
theorem dX5_minds_18 : decode cX5_minds 18 = .ok (.iconst (-1), 1) := by decide +kernel
theorem dX5_minds_19 : decode cX5_minds 19 = .ok (.ireturn, 1) := by decide +kernel
theorem dX5_minds_20 : decode cX5_minds 20 = .ok (.aload_n 0, 1) := by decide +kernel
theorem dX5_minds_21 : decode cX5_minds 21 = .ok (.getfield 20, 3) := by decide +kernel
theorem dX5_minds_24 : decode cX5_minds 24 = .ok (.invokevirtual 100, 3) := by decide +kernel
theorem dX5_minds_27 : decode cX5_minds 27 = .ok (.ifCond .ne 6, 3) := by decide +kernel
theorem dX5_minds_30 : decode cX5_minds 30 = .ok (.bipush (-3), 2) := by decide +kernel
theorem dX5_minds_32 : decode cX5_minds 32 = .ok (.ireturn, 1) := by decide +kernel
theorem dX5_minds_33 : decode cX5_minds 33 = .ok (.aload_n 0, 1) := by decide +kernel
theorem dX5_minds_34 : decode cX5_minds 34 = .ok (.getfield 34, 3) := by decide +kernel
theorem dX5_minds_37 : decode cX5_minds 37 = .ok (.aload_n 0, 1) := by decide +kernel
theorem dX5_minds_38 : decode cX5_minds 38 = .ok (.getfield 20, 3) := by decide +kernel
theorem dX5_minds_41 : decode cX5_minds 41 = .ok (.getfield 93, 3) := by decide +kernel
theorem dX5_minds_44 : decode cX5_minds 44 = .ok (.aload_n 0, 1) := by decide +kernel
theorem dX5_minds_45 : decode cX5_minds 45 = .ok (.getfield 20, 3) := by decide +kernel
theorem dX5_minds_48 : decode cX5_minds 48 = .ok (.aload_n 0, 1) := by decide +kernel
theorem dX5_minds_49 : decode cX5_minds 49 = .ok (.getfield 20, 3) := by decide +kernel
theorem dX5_minds_52 : decode cX5_minds 52 = .ok (.getfield 77, 3) := by decide +kernel
theorem dX5_minds_55 : decode cX5_minds 55 = .ok (.invokevirtual 104, 3) := by decide +kernel
theorem dX5_minds_58 : decode cX5_minds 58 = .ok (.aload_n 0, 1) := by decide +kernel
theorem dX5_minds_59 : decode cX5_minds 59 = .ok (.getfield 34, 3) := by decide +kernel
theorem dX5_minds_62 : decode cX5_minds 62 = .ok (.iload_n 1, 1) := by decide +kernel
theorem dX5_minds_63 : decode cX5_minds 63 = .ok (.iload_n 2, 1) := by decide +kernel
theorem dX5_minds_64 : decode cX5_minds 64 = .ok (.invokevirtual 148, 3) := by decide +kernel
theorem dX5_minds_67 : decode cX5_minds 67 = .ok (.ireturn, 1) := by decide +kernel
theorem dX5_one_0 : decode cX5_one 0 = .ok (.iload_n 1, 1) := by decide +kernel
theorem dX5_one_1 : decode cX5_one 1 = .ok (.ifCond .lt 8, 3) := by decide +kernel
theorem dX5_one_4 : decode cX5_one 4 = .ok (.iload_n 1, 1) := by decide +kernel
theorem dX5_one_5 : decode cX5_one 5 = .ok (.iconst 2, 1) := by decide +kernel
theorem dX5_one_6 : decode cX5_one 6 = .ok (.if_icmp .le 6, 3) := by decide +kernel
theorem dX5_one_9 : decode cX5_one 9 = .ok (.bipush (-2), 2) := by decide +kernel
theorem dX5_one_11 : decode cX5_one 11 = .ok (.ireturn, 1) := by decide +kernel
theorem dX5_one_12 : decode cX5_one 12 = .ok (.aload_n 0, 1) := by decide +kernel
theorem dX5_one_13 : decode cX5_one 13 = .ok (.getfield 20, 3) := by decide +kernel
theorem dX5_one_16 : decode cX5_one 16 = .ok (.invokevirtual 100, 3) := by decide +kernel
theorem dX5_one_19 : decode cX5_one 19 = .ok (.ifCond .ne 6, 3) := by decide +kernel
theorem dX5_one_22 : decode cX5_one 22 = .ok (.bipush (-3), 2) := by decide +kernel
theorem dX5_one_24 : decode cX5_one 24 = .ok (.ireturn, 1) := by decide +kernel
theorem dX5_one_25 : decode cX5_one 25 = .ok (.aload_n 0, 1) := by decide +kernel
theorem dX5_one_26 : decode cX5_one 26 = .ok (.getfield 34, 3) := by decide +kernel
theorem dX5_one_29 : decode cX5_one 29 = .ok (.aload_n 0, 1) := by decide +kernel
theorem dX5_one_30 : decode cX5_one 30 = .ok (.getfield 20, 3) := by decide +kernel
theorem dX5_one_33 : decode cX5_one 33 = .ok (.getfield 93, 3) := by decide +kernel
theorem dX5_one_36 : decode cX5_one 36 = .ok (.aload_n 0, 1) := by decide +kernel
theorem dX5_one_37 : decode cX5_one 37 = .ok (.getfield 20, 3) := by decide +kernel
theorem dX5_one_40 : decode cX5_one 40 = .ok (.aload_n 0, 1) := by decide +kernel
theorem dX5_one_41 : decode cX5_one 41 = .ok (.getfield 20, 3) := by decide +kernel
theorem dX5_one_44 : decode cX5_one 44 = .ok (.getfield 77, 3) := by decide +kernel
theorem dX5_one_47 : decode cX5_one 47 = .ok (.invokevirtual 104, 3) := by decide +kernel
theorem dX5_one_50 : decode cX5_one 50 = .ok (.iconst 0, 1) := by decide +kernel
theorem dX5_one_51 : decode cX5_one 51 = .ok (.istore_n 2, 1) := by decide +kernel
theorem dX5_one_52 : decode cX5_one 52 = .ok (.bipush (-6), 2) := by decide +kernel
theorem dX5_one_54 : decode cX5_one 54 = .ok (.istore_n 3, 1) := by decide +kernel
theorem dX5_one_55 : decode cX5_one 55 = .ok (.bipush (-6), 2) := by decide +kernel
theorem dX5_one_57 : decode cX5_one 57 = .ok (.istore 4, 2) := by decide +kernel
theorem dX5_one_59 : decode cX5_one 59 = .ok (.iconst 0, 1) := by decide +kernel
theorem dX5_one_60 : decode cX5_one 60 = .ok (.istore 5, 2) := by decide +kernel
theorem dX5_one_62 : decode cX5_one 62 = .ok (.iload 5, 2) := by decide +kernel
theorem dX5_one_64 : decode cX5_one 64 = .ok (.aload_n 0, 1) := by decide +kernel
theorem dX5_one_65 : decode cX5_one 65 = .ok (.getfield 34, 3) := by decide +kernel
theorem dX5_one_68 : decode cX5_one 68 = .ok (.getfield 147, 3) := by decide +kernel
theorem dX5_one_71 : decode cX5_one 71 = .ok (.if_icmp .ge 54, 3) := by decide +kernel
theorem dX5_one_74 : decode cX5_one 74 = .ok (.iconst 1, 1) := by decide +kernel
theorem dX5_one_75 : decode cX5_one 75 = .ok (.istore 6, 2) := by decide +kernel
theorem dX5_one_77 : decode cX5_one 77 = .ok (.iload 6, 2) := by decide +kernel
theorem dX5_one_79 : decode cX5_one 79 = .ok (.bipush 10, 2) := by decide +kernel
theorem dX5_one_81 : decode cX5_one 81 = .ok (.if_icmp .gt 38, 3) := by decide +kernel
theorem dX5_one_84 : decode cX5_one 84 = .ok (.aload_n 0, 1) := by decide +kernel
theorem dX5_one_85 : decode cX5_one 85 = .ok (.getfield 34, 3) := by decide +kernel
theorem dX5_one_88 : decode cX5_one 88 = .ok (.iload 5, 2) := by decide +kernel
theorem dX5_one_90 : decode cX5_one 90 = .ok (.iload 6, 2) := by decide +kernel
theorem dX5_one_92 : decode cX5_one 92 = .ok (.invokevirtual 148, 3) := by decide +kernel
theorem dX5_one_95 : decode cX5_one 95 = .ok (.istore 7, 2) := by decide +kernel
theorem dX5_one_97 : decode cX5_one 97 = .ok (.iload 7, 2) := by decide +kernel
theorem dX5_one_99 : decode cX5_one 99 = .ok (.iload_n 2, 1) := by decide +kernel
theorem dX5_one_100 : decode cX5_one 100 = .ok (.if_icmp .le 13, 3) := by decide +kernel
theorem dX5_one_103 : decode cX5_one 103 = .ok (.iload 7, 2) := by decide +kernel
theorem dX5_one_105 : decode cX5_one 105 = .ok (.istore_n 2, 1) := by decide +kernel
theorem dX5_one_106 : decode cX5_one 106 = .ok (.iload 5, 2) := by decide +kernel
theorem dX5_one_108 : decode cX5_one 108 = .ok (.istore_n 3, 1) := by decide +kernel
theorem dX5_one_109 : decode cX5_one 109 = .ok (.iload 6, 2) := by decide +kernel
theorem dX5_one_111 : decode cX5_one 111 = .ok (.istore 4, 2) := by decide +kernel
theorem dX5_one_113 : decode cX5_one 113 = .ok (.iinc 6 1, 3) := by decide +kernel
theorem dX5_one_116 : decode cX5_one 116 = .ok (.goto (-39), 3) := by decide +kernel
theorem dX5_one_119 : decode cX5_one 119 = .ok (.iinc 5 1, 3) := by decide +kernel
theorem dX5_one_122 : decode cX5_one 122 = .ok (.goto (-60), 3) := by decide +kernel
theorem dX5_one_125 : decode cX5_one 125 = .ok (.iload_n 1, 1) := by decide +kernel
theorem dX5_one_126 : decode cX5_one 126 = .ok (.ifCond .ne 5, 3) := by decide +kernel
theorem dX5_one_129 : decode cX5_one 129 = .ok (.iload_n 3, 1) := by decide +kernel
theorem dX5_one_130 : decode cX5_one 130 = .ok (.ireturn, 1) := by decide +kernel
theorem dX5_one_131 : decode cX5_one 131 = .ok (.iload_n 1, 1) := by decide +kernel
theorem dX5_one_132 : decode cX5_one 132 = .ok (.iconst 1, 1) := by decide +kernel
theorem dX5_one_133 : decode cX5_one 133 = .ok (.if_icmp .ne 8, 3) := by decide +kernel
theorem dX5_one_136 : decode cX5_one 136 = .ok (.iload 4, 2) := by decide +kernel
theorem dX5_one_138 : decode cX5_one 138 = .ok (.goto 4, 3) := by decide +kernel
theorem dX5_one_141 : decode cX5_one 141 = .ok (.iload_n 2, 1) := by decide +kernel
theorem dX5_one_142 : decode cX5_one 142 = .ok (.ireturn, 1) := by decide +kernel
theorem dX5_best_0 : decode cX5_best 0 = .ok (.iload_n 1, 1) := by decide +kernel
theorem dX5_best_1 : decode cX5_best 1 = .ok (.ifCond .lt 8, 3) := by decide +kernel
theorem dX5_best_4 : decode cX5_best 4 = .ok (.iload_n 1, 1) := by decide +kernel
theorem dX5_best_5 : decode cX5_best 5 = .ok (.iconst 1, 1) := by decide +kernel
theorem dX5_best_6 : decode cX5_best 6 = .ok (.if_icmp .le 6, 3) := by decide +kernel
theorem dX5_best_9 : decode cX5_best 9 = .ok (.bipush (-2), 2) := by decide +kernel
theorem dX5_best_11 : decode cX5_best 11 = .ok (.ireturn, 1) := by decide +kernel
theorem dX5_best_12 : decode cX5_best 12 = .ok (.aload_n 0, 1) := by decide +kernel
theorem dX5_best_13 : decode cX5_best 13 = .ok (.getfield 20, 3) := by decide +kernel
theorem dX5_best_16 : decode cX5_best 16 = .ok (.invokevirtual 100, 3) := by decide +kernel
theorem dX5_best_19 : decode cX5_best 19 = .ok (.ifCond .ne 6, 3) := by decide +kernel
theorem dX5_best_22 : decode cX5_best 22 = .ok (.bipush (-3), 2) := by decide +kernel
theorem dX5_best_24 : decode cX5_best 24 = .ok (.ireturn, 1) := by decide +kernel
theorem dX5_best_25 : decode cX5_best 25 = .ok (.iconst 0, 1) := by decide +kernel
theorem dX5_best_26 : decode cX5_best 26 = .ok (.istore_n 2, 1) := by decide +kernel
theorem dX5_best_27 : decode cX5_best 27 = .ok (.iconst 1, 1) := by decide +kernel
theorem dX5_best_28 : decode cX5_best 28 = .ok (.istore_n 3, 1) := by decide +kernel
theorem dX5_best_29 : decode cX5_best 29 = .ok (.iconst 1, 1) := by decide +kernel
theorem dX5_best_30 : decode cX5_best 30 = .ok (.istore 4, 2) := by decide +kernel
theorem dX5_best_32 : decode cX5_best 32 = .ok (.iload 4, 2) := by decide +kernel
theorem dX5_best_34 : decode cX5_best 34 = .ok (.bipush 10, 2) := by decide +kernel
theorem dX5_best_36 : decode cX5_best 36 = .ok (.if_icmp .gt 50, 3) := by decide +kernel
theorem dX5_best_39 : decode cX5_best 39 = .ok (.aload_n 0, 1) := by decide +kernel
theorem dX5_best_40 : decode cX5_best 40 = .ok (.getfield 34, 3) := by decide +kernel
theorem dX5_best_43 : decode cX5_best 43 = .ok (.aload_n 0, 1) := by decide +kernel
theorem dX5_best_44 : decode cX5_best 44 = .ok (.getfield 20, 3) := by decide +kernel
theorem dX5_best_47 : decode cX5_best 47 = .ok (.getfield 93, 3) := by decide +kernel
theorem dX5_best_50 : decode cX5_best 50 = .ok (.aload_n 0, 1) := by decide +kernel
theorem dX5_best_51 : decode cX5_best 51 = .ok (.getfield 20, 3) := by decide +kernel
theorem dX5_best_54 : decode cX5_best 54 = .ok (.iload 4, 2) := by decide +kernel
theorem dX5_best_56 : decode cX5_best 56 = .ok (.invokevirtual 104, 3) := by decide +kernel
theorem dX5_best_59 : decode cX5_best 59 = .ok (.aload_n 0, 1) := by decide +kernel
theorem dX5_best_60 : decode cX5_best 60 = .ok (.getfield 34, 3) := by decide +kernel
theorem dX5_best_63 : decode cX5_best 63 = .ok (.invokevirtual 152, 3) := by decide +kernel
theorem dX5_best_66 : decode cX5_best 66 = .ok (.istore 5, 2) := by decide +kernel
theorem dX5_best_68 : decode cX5_best 68 = .ok (.iload 5, 2) := by decide +kernel
theorem dX5_best_70 : decode cX5_best 70 = .ok (.iload_n 2, 1) := by decide +kernel
theorem dX5_best_71 : decode cX5_best 71 = .ok (.if_icmp .le 9, 3) := by decide +kernel
theorem dX5_best_74 : decode cX5_best 74 = .ok (.iload 5, 2) := by decide +kernel
theorem dX5_best_76 : decode cX5_best 76 = .ok (.istore_n 2, 1) := by decide +kernel
theorem dX5_best_77 : decode cX5_best 77 = .ok (.iload 4, 2) := by decide +kernel
theorem dX5_best_79 : decode cX5_best 79 = .ok (.istore_n 3, 1) := by decide +kernel
theorem dX5_best_80 : decode cX5_best 80 = .ok (.iinc 4 1, 3) := by decide +kernel
theorem dX5_best_83 : decode cX5_best 83 = .ok (.goto (-51), 3) := by decide +kernel
theorem dX5_best_86 : decode cX5_best 86 = .ok (.iload_n 1, 1) := by decide +kernel
theorem dX5_best_87 : decode cX5_best 87 = .ok (.ifCond .ne 7, 3) := by decide +kernel
theorem dX5_best_90 : decode cX5_best 90 = .ok (.iload_n 3, 1) := by decide +kernel
theorem dX5_best_91 : decode cX5_best 91 = .ok (.goto 4, 3) := by decide +kernel
theorem dX5_best_94 : decode cX5_best 94 = .ok (.iload_n 2, 1) := by decide +kernel
theorem dX5_best_95 : decode cX5_best 95 = .ok (.ireturn, 1) := by decide +kernel
theorem dX5_likely_0 : decode cX5_likely 0 = .ok (.aload_n 0, 1) := by decide +kernel
theorem dX5_likely_1 : decode cX5_likely 1 = .ok (.getfield 20, 3) := by decide +kernel
theorem dX5_likely_4 : decode cX5_likely 4 = .ok (.iload_n 1, 1) := by decide +kernel
theorem dX5_likely_5 : decode cX5_likely 5 = .ok (.invokevirtual 90, 3) := by decide +kernel
theorem dX5_likely_8 : decode cX5_likely 8 = .ok (.ifCond .eq 14, 3) := by decide +kernel
theorem dX5_likely_11 : decode cX5_likely 11 = .ok (.aload_n 0, 1) := by decide +kernel
theorem dX5_likely_12 : decode cX5_likely 12 = .ok (.getfield 20, 3) := by decide +kernel
theorem dX5_likely_15 : decode cX5_likely 15 = .ok (.iload_n 2, 1) := by decide +kernel
theorem dX5_likely_16 : decode cX5_likely 16 = .ok (.invokevirtual 90, 3) := by decide +kernel
theorem dX5_likely_19 : decode cX5_likely 19 = .ok (.ifCond .ne 7, 3) := by decide +kernel
theorem dX5_likely_22 : decode cX5_likely 22 = .ok (.ldc2_w 155, 3) := by decide +kernel
theorem dX5_likely_25 : decode cX5_likely 25 = .ok (.lreturn, 1) := by decide +kernel
theorem dX5_likely_26 : decode cX5_likely 26 = .ok (.iload_n 3, 1) := by decide +kernel
theorem dX5_likely_27 : decode cX5_likely 27 = .ok (.invokestatic 157, 3) := by decide +kernel
theorem dX5_likely_30 : decode cX5_likely 30 = .ok (.ifCond .ne 7, 3) := by decide +kernel
theorem dX5_likely_33 : decode cX5_likely 33 = .ok (.ldc2_w 160, 3) := by decide +kernel
theorem dX5_likely_36 : decode cX5_likely 36 = .ok (.lreturn, 1) := by decide +kernel
theorem dX5_likely_37 : decode cX5_likely 37 = .ok (.aload_n 0, 1) := by decide +kernel
theorem dX5_likely_38 : decode cX5_likely 38 = .ok (.getfield 20, 3) := by decide +kernel
theorem dX5_likely_41 : decode cX5_likely 41 = .ok (.bipush 42, 2) := by decide +kernel
theorem dX5_likely_43 : decode cX5_likely 43 = .ok (.invokevirtual 162, 3) := by decide +kernel
theorem dX5_likely_46 : decode cX5_likely 46 = .ok (.ifCond .le 7, 3) := by decide +kernel
theorem dX5_likely_49 : decode cX5_likely 49 = .ok (.ldc2_w 166, 3) := by decide +kernel
theorem dX5_likely_52 : decode cX5_likely 52 = .ok (.lreturn, 1) := by decide +kernel
theorem dX5_likely_53 : decode cX5_likely 53 = .ok (.aload_n 0, 1) := by decide +kernel
theorem dX5_likely_54 : decode cX5_likely 54 = .ok (.lconst 1, 1) := by decide +kernel
theorem dX5_likely_55 : decode cX5_likely 55 = .ok (.iload_n 1, 1) := by decide +kernel
theorem dX5_likely_56 : decode cX5_likely 56 = .ok (.lshl, 1) := by decide +kernel
theorem dX5_likely_57 : decode cX5_likely 57 = .ok (.lconst 1, 1) := by decide +kernel
theorem dX5_likely_58 : decode cX5_likely 58 = .ok (.iload_n 2, 1) := by decide +kernel
theorem dX5_likely_59 : decode cX5_likely 59 = .ok (.lshl, 1) := by decide +kernel
theorem dX5_likely_60 : decode cX5_likely 60 = .ok (.lor, 1) := by decide +kernel
theorem dX5_likely_61 : decode cX5_likely 61 = .ok (.iload_n 3, 1) := by decide +kernel
theorem dX5_likely_62 : decode cX5_likely 62 = .ok (.invokevirtual 168, 3) := by decide +kernel
theorem dX5_likely_65 : decode cX5_likely 65 = .ok (.lreturn, 1) := by decide +kernel
theorem dX5_all_0 : decode cX5_all 0 = .ok (.iload_n 1, 1) := by decide +kernel
theorem dX5_all_1 : decode cX5_all 1 = .ok (.invokestatic 157, 3) := by decide +kernel
theorem dX5_all_4 : decode cX5_all 4 = .ok (.ifCond .ne 7, 3) := by decide +kernel
theorem dX5_all_7 : decode cX5_all 7 = .ok (.ldc2_w 160, 3) := by decide +kernel
theorem dX5_all_10 : decode cX5_all 10 = .ok (.lreturn, 1) := by decide +kernel
theorem dX5_all_11 : decode cX5_all 11 = .ok (.aload_n 0, 1) := by decide +kernel
theorem dX5_all_12 : decode cX5_all 12 = .ok (.getfield 20, 3) := by decide +kernel
theorem dX5_all_15 : decode cX5_all 15 = .ok (.bipush 42, 2) := by decide +kernel
theorem dX5_all_17 : decode cX5_all 17 = .ok (.invokevirtual 162, 3) := by decide +kernel
theorem dX5_all_20 : decode cX5_all 20 = .ok (.ifCond .le 7, 3) := by decide +kernel
theorem dX5_all_23 : decode cX5_all 23 = .ok (.ldc2_w 166, 3) := by decide +kernel
theorem dX5_all_26 : decode cX5_all 26 = .ok (.lreturn, 1) := by decide +kernel
theorem dX5_all_27 : decode cX5_all 27 = .ok (.aload_n 0, 1) := by decide +kernel
theorem dX5_all_28 : decode cX5_all 28 = .ok (.lconst 1, 1) := by decide +kernel
theorem dX5_all_29 : decode cX5_all 29 = .ok (.aload_n 0, 1) := by decide +kernel
theorem dX5_all_30 : decode cX5_all 30 = .ok (.getfield 20, 3) := by decide +kernel
theorem dX5_all_33 : decode cX5_all 33 = .ok (.getfield 70, 3) := by decide +kernel
theorem dX5_all_36 : decode cX5_all 36 = .ok (.lshl, 1) := by decide +kernel
theorem dX5_all_37 : decode cX5_all 37 = .ok (.lconst 1, 1) := by decide +kernel
theorem dX5_all_38 : decode cX5_all 38 = .ok (.lsub, 1) := by decide +kernel
theorem dX5_all_39 : decode cX5_all 39 = .ok (.iload_n 1, 1) := by decide +kernel
theorem dX5_all_40 : decode cX5_all 40 = .ok (.invokevirtual 168, 3) := by decide +kernel
theorem dX5_all_43 : decode cX5_all 43 = .ok (.lreturn, 1) := by decide +kernel
theorem dX5_write_0 : decode cX5_write 0 = .ok (.iload_n 1, 1) := by decide +kernel
theorem dX5_write_1 : decode cX5_write 1 = .ok (.iconst 3, 1) := by decide +kernel
theorem dX5_write_2 : decode cX5_write 2 = .ok (.if_icmp .ne 16, 3) := by decide +kernel
theorem dX5_write_5 : decode cX5_write 5 = .ok (.aload_n 0, 1) := by decide +kernel
theorem dX5_write_6 : decode cX5_write 6 = .ok (.getfield 20, 3) := by decide +kernel
theorem dX5_write_9 : decode cX5_write 9 = .ok (.iload_n 2, 1) := by decide +kernel
theorem dX5_write_10 : decode cX5_write 10 = .ok (.invokevirtual 90, 3) := by decide +kernel
theorem dX5_write_13 : decode cX5_write 13 = .ok (.ifCond .ne 5, 3) := by decide +kernel
theorem dX5_write_16 : decode cX5_write 16 = .ok (.iconst (-1), 1) := by decide +kernel
theorem dX5_write_17 : decode cX5_write 17 = .ok (.ireturn, 1) := by decide +kernel
theorem dX5_write_18 : decode cX5_write 18 = .ok (.iload_n 1, 1) := by decide +kernel
theorem dX5_write_19 : decode cX5_write 19 = .ok (.ifCond .lt 8, 3) := by decide +kernel
theorem dX5_write_22 : decode cX5_write 22 = .ok (.iload_n 1, 1) := by decide +kernel
theorem dX5_write_23 : decode cX5_write 23 = .ok (.iconst 3, 1) := by decide +kernel
theorem dX5_write_24 : decode cX5_write 24 = .ok (.if_icmp .le 6, 3) := by decide +kernel
theorem dX5_write_27 : decode cX5_write 27 = .ok (.bipush (-2), 2) := by decide +kernel
theorem dX5_write_29 : decode cX5_write 29 = .ok (.ireturn, 1) := by decide +kernel
theorem dX5_write_30 : decode cX5_write 30 = .ok (.aload_n 0, 1) := by decide +kernel
theorem dX5_write_31 : decode cX5_write 31 = .ok (.getfield 20, 3) := by decide +kernel
theorem dX5_write_34 : decode cX5_write 34 = .ok (.bipush 63, 2) := by decide +kernel
theorem dX5_write_36 : decode cX5_write 36 = .ok (.invokevirtual 162, 3) := by decide +kernel
theorem dX5_write_39 : decode cX5_write 39 = .ok (.ifCond .le 6, 3) := by decide +kernel
theorem dX5_write_42 : decode cX5_write 42 = .ok (.bipush (-3), 2) := by decide +kernel
theorem dX5_write_44 : decode cX5_write 44 = .ok (.ireturn, 1) := by decide +kernel
theorem dX5_write_45 : decode cX5_write 45 = .ok (.aload_n 0, 1) := by decide +kernel
theorem dX5_write_46 : decode cX5_write 46 = .ok (.getfield 34, 3) := by decide +kernel
theorem dX5_write_49 : decode cX5_write 49 = .ok (.aload_n 0, 1) := by decide +kernel
theorem dX5_write_50 : decode cX5_write 50 = .ok (.getfield 20, 3) := by decide +kernel
theorem dX5_write_53 : decode cX5_write 53 = .ok (.getfield 93, 3) := by decide +kernel
theorem dX5_write_56 : decode cX5_write 56 = .ok (.aload_n 0, 1) := by decide +kernel
theorem dX5_write_57 : decode cX5_write 57 = .ok (.getfield 20, 3) := by decide +kernel
theorem dX5_write_60 : decode cX5_write 60 = .ok (.aload_n 0, 1) := by decide +kernel
theorem dX5_write_61 : decode cX5_write 61 = .ok (.getfield 20, 3) := by decide +kernel
theorem dX5_write_64 : decode cX5_write 64 = .ok (.getfield 77, 3) := by decide +kernel
theorem dX5_write_67 : decode cX5_write 67 = .ok (.invokevirtual 114, 3) := by decide +kernel
theorem dX5_write_70 : decode cX5_write 70 = .ok (.aload_n 0, 1) := by decide +kernel
theorem dX5_write_71 : decode cX5_write 71 = .ok (.getfield 48, 3) := by decide +kernel
theorem dX5_write_74 : decode cX5_write 74 = .ok (.aload_n 0, 1) := by decide +kernel
theorem dX5_write_75 : decode cX5_write 75 = .ok (.getfield 34, 3) := by decide +kernel
theorem dX5_write_78 : decode cX5_write 78 = .ok (.aload_n 0, 1) := by decide +kernel
theorem dX5_write_79 : decode cX5_write 79 = .ok (.getfield 20, 3) := by decide +kernel
theorem dX5_write_82 : decode cX5_write 82 = .ok (.getfield 80, 3) := by decide +kernel
theorem dX5_write_85 : decode cX5_write 85 = .ok (.iload_n 1, 1) := by decide +kernel
theorem dX5_write_86 : decode cX5_write 86 = .ok (.iload_n 2, 1) := by decide +kernel
theorem dX5_write_87 : decode cX5_write 87 = .ok (.iconst 0, 1) := by decide +kernel
theorem dX5_write_88 : decode cX5_write 88 = .ok (.invokevirtual 172, 3) := by decide +kernel
theorem dX5_write_91 : decode cX5_write 91 = .ok (.iload_n 3, 1) := by decide +kernel
theorem dX5_write_92 : decode cX5_write 92 = .ok (.iconst (-1), 1) := by decide +kernel
theorem dX5_write_93 : decode cX5_write 93 = .ok (.if_icmp .ne 13, 3) := by decide +kernel
theorem dX5_write_96 : decode cX5_write 96 = .ok (.aload_n 0, 1) := by decide +kernel
theorem dX5_write_97 : decode cX5_write 97 = .ok (.getfield 48, 3) := by decide +kernel
theorem dX5_write_100 : decode cX5_write 100 = .ok (.getfield 176, 3) := by decide +kernel
theorem dX5_write_103 : decode cX5_write 103 = .ok (.goto 8, 3) := by decide +kernel
theorem dX5_write_106 : decode cX5_write 106 = .ok (.aload_n 0, 1) := by decide +kernel
theorem dX5_write_107 : decode cX5_write 107 = .ok (.iload_n 3, 1) := by decide +kernel
theorem dX5_write_108 : decode cX5_write 108 = .ok (.invokevirtual 179, 3) := by decide +kernel
theorem dX5_write_111 : decode cX5_write 111 = .ok (.ireturn, 1) := by decide +kernel
theorem dX5_soonest_0 : decode cX5_soonest 0 = .ok (.aload_n 0, 1) := by decide +kernel
theorem dX5_soonest_1 : decode cX5_soonest 1 = .ok (.getfield 20, 3) := by decide +kernel
theorem dX5_soonest_4 : decode cX5_soonest 4 = .ok (.bipush 63, 2) := by decide +kernel
theorem dX5_soonest_6 : decode cX5_soonest 6 = .ok (.invokevirtual 162, 3) := by decide +kernel
theorem dX5_soonest_9 : decode cX5_soonest 9 = .ok (.ifCond .le 6, 3) := by decide +kernel
theorem dX5_soonest_12 : decode cX5_soonest 12 = .ok (.bipush (-3), 2) := by decide +kernel
theorem dX5_soonest_14 : decode cX5_soonest 14 = .ok (.ireturn, 1) := by decide +kernel
theorem dX5_soonest_15 : decode cX5_soonest 15 = .ok (.aload_n 0, 1) := by decide +kernel
theorem dX5_soonest_16 : decode cX5_soonest 16 = .ok (.getfield 34, 3) := by decide +kernel
theorem dX5_soonest_19 : decode cX5_soonest 19 = .ok (.aload_n 0, 1) := by decide +kernel
theorem dX5_soonest_20 : decode cX5_soonest 20 = .ok (.getfield 20, 3) := by decide +kernel
theorem dX5_soonest_23 : decode cX5_soonest 23 = .ok (.getfield 93, 3) := by decide +kernel
theorem dX5_soonest_26 : decode cX5_soonest 26 = .ok (.aload_n 0, 1) := by decide +kernel
theorem dX5_soonest_27 : decode cX5_soonest 27 = .ok (.getfield 20, 3) := by decide +kernel
theorem dX5_soonest_30 : decode cX5_soonest 30 = .ok (.aload_n 0, 1) := by decide +kernel
theorem dX5_soonest_31 : decode cX5_soonest 31 = .ok (.getfield 20, 3) := by decide +kernel
theorem dX5_soonest_34 : decode cX5_soonest 34 = .ok (.getfield 77, 3) := by decide +kernel
theorem dX5_soonest_37 : decode cX5_soonest 37 = .ok (.invokevirtual 114, 3) := by decide +kernel
theorem dX5_soonest_40 : decode cX5_soonest 40 = .ok (.aload_n 0, 1) := by decide +kernel
theorem dX5_soonest_41 : decode cX5_soonest 41 = .ok (.getfield 48, 3) := by decide +kernel
theorem dX5_soonest_44 : decode cX5_soonest 44 = .ok (.aload_n 0, 1) := by decide +kernel
theorem dX5_soonest_45 : decode cX5_soonest 45 = .ok (.getfield 34, 3) := by decide +kernel
theorem dX5_soonest_48 : decode cX5_soonest 48 = .ok (.aload_n 0, 1) := by decide +kernel
theorem dX5_soonest_49 : decode cX5_soonest 49 = .ok (.getfield 20, 3) := by decide +kernel
theorem dX5_soonest_52 : decode cX5_soonest 52 = .ok (.getfield 80, 3) := by decide +kernel
theorem dX5_soonest_55 : decode cX5_soonest 55 = .ok (.iconst 0, 1) := by decide +kernel
theorem dX5_soonest_56 : decode cX5_soonest 56 = .ok (.iconst 0, 1) := by decide +kernel
theorem dX5_soonest_57 : decode cX5_soonest 57 = .ok (.iconst 1, 1) := by decide +kernel
theorem dX5_soonest_58 : decode cX5_soonest 58 = .ok (.invokevirtual 172, 3) := by decide +kernel
theorem dX5_soonest_61 : decode cX5_soonest 61 = .ok (.iload_n 1, 1) := by decide +kernel
theorem dX5_soonest_62 : decode cX5_soonest 62 = .ok (.iconst (-1), 1) := by decide +kernel
theorem dX5_soonest_63 : decode cX5_soonest 63 = .ok (.if_icmp .ne 26, 3) := by decide +kernel
theorem dX5_soonest_66 : decode cX5_soonest 66 = .ok (.aload_n 0, 1) := by decide +kernel
theorem dX5_soonest_67 : decode cX5_soonest 67 = .ok (.getfield 48, 3) := by decide +kernel
theorem dX5_soonest_70 : decode cX5_soonest 70 = .ok (.getfield 176, 3) := by decide +kernel
theorem dX5_soonest_73 : decode cX5_soonest 73 = .ok (.ifCond .ne 8, 3) := by decide +kernel
theorem dX5_soonest_76 : decode cX5_soonest 76 = .ok (.bipush (-6), 2) := by decide +kernel
theorem dX5_soonest_78 : decode cX5_soonest 78 = .ok (.goto 10, 3) := by decide +kernel
theorem dX5_soonest_81 : decode cX5_soonest 81 = .ok (.aload_n 0, 1) := by decide +kernel
theorem dX5_soonest_82 : decode cX5_soonest 82 = .ok (.getfield 48, 3) := by decide +kernel
theorem dX5_soonest_85 : decode cX5_soonest 85 = .ok (.getfield 183, 3) := by decide +kernel
theorem dX5_soonest_88 : decode cX5_soonest 88 = .ok (.ireturn, 1) := by decide +kernel
theorem dX5_soonest_89 : decode cX5_soonest 89 = .ok (.aload_n 0, 1) := by decide +kernel
theorem dX5_soonest_90 : decode cX5_soonest 90 = .ok (.iload_n 1, 1) := by decide +kernel
theorem dX5_soonest_91 : decode cX5_soonest 91 = .ok (.invokevirtual 179, 3) := by decide +kernel
theorem dX5_soonest_94 : decode cX5_soonest 94 = .ok (.ireturn, 1) := by decide +kernel
theorem dX5_seen_0 : decode cX5_seen 0 = .ok (.aload_n 0, 1) := by decide +kernel
theorem dX5_seen_1 : decode cX5_seen 1 = .ok (.getfield 20, 3) := by decide +kernel
theorem dX5_seen_4 : decode cX5_seen 4 = .ok (.iload_n 1, 1) := by decide +kernel
theorem dX5_seen_5 : decode cX5_seen 5 = .ok (.invokevirtual 90, 3) := by decide +kernel
theorem dX5_seen_8 : decode cX5_seen 8 = .ok (.ifCond .eq 14, 3) := by decide +kernel
theorem dX5_seen_11 : decode cX5_seen 11 = .ok (.aload_n 0, 1) := by decide +kernel
theorem dX5_seen_12 : decode cX5_seen 12 = .ok (.getfield 20, 3) := by decide +kernel
theorem dX5_seen_15 : decode cX5_seen 15 = .ok (.iload_n 2, 1) := by decide +kernel
theorem dX5_seen_16 : decode cX5_seen 16 = .ok (.invokevirtual 90, 3) := by decide +kernel
theorem dX5_seen_19 : decode cX5_seen 19 = .ok (.ifCond .ne 5, 3) := by decide +kernel
theorem dX5_seen_22 : decode cX5_seen 22 = .ok (.iconst (-1), 1) := by decide +kernel
theorem dX5_seen_23 : decode cX5_seen 23 = .ok (.ireturn, 1) := by decide +kernel
theorem dX5_seen_24 : decode cX5_seen 24 = .ok (.aload_n 0, 1) := by decide +kernel
theorem dX5_seen_25 : decode cX5_seen 25 = .ok (.getfield 20, 3) := by decide +kernel
theorem dX5_seen_28 : decode cX5_seen 28 = .ok (.getfield 186, 3) := by decide +kernel
theorem dX5_seen_31 : decode cX5_seen 31 = .ok (.bipush 6, 2) := by decide +kernel
theorem dX5_seen_33 : decode cX5_seen 33 = .ok (.if_icmp .lt 6, 3) := by decide +kernel
theorem dX5_seen_36 : decode cX5_seen 36 = .ok (.bipush (-4), 2) := by decide +kernel
theorem dX5_seen_38 : decode cX5_seen 38 = .ok (.ireturn, 1) := by decide +kernel
theorem dX5_seen_39 : decode cX5_seen 39 = .ok (.aload_n 0, 1) := by decide +kernel
theorem dX5_seen_40 : decode cX5_seen 40 = .ok (.getfield 20, 3) := by decide +kernel
theorem dX5_seen_43 : decode cX5_seen 43 = .ok (.getfield 189, 3) := by decide +kernel
theorem dX5_seen_46 : decode cX5_seen 46 = .ok (.aload_n 0, 1) := by decide +kernel
theorem dX5_seen_47 : decode cX5_seen 47 = .ok (.getfield 20, 3) := by decide +kernel
theorem dX5_seen_50 : decode cX5_seen 50 = .ok (.getfield 186, 3) := by decide +kernel
theorem dX5_seen_53 : decode cX5_seen 53 = .ok (.iload_n 1, 1) := by decide +kernel
theorem dX5_seen_54 : decode cX5_seen 54 = .ok (.iastore, 1) := by decide +kernel
theorem dX5_seen_55 : decode cX5_seen 55 = .ok (.aload_n 0, 1) := by decide +kernel
theorem dX5_seen_56 : decode cX5_seen 56 = .ok (.getfield 20, 3) := by decide +kernel
theorem dX5_seen_59 : decode cX5_seen 59 = .ok (.getfield 192, 3) := by decide +kernel
theorem dX5_seen_62 : decode cX5_seen 62 = .ok (.aload_n 0, 1) := by decide +kernel
theorem dX5_seen_63 : decode cX5_seen 63 = .ok (.getfield 20, 3) := by decide +kernel
theorem dX5_seen_66 : decode cX5_seen 66 = .ok (.getfield 186, 3) := by decide +kernel
theorem dX5_seen_69 : decode cX5_seen 69 = .ok (.iload_n 2, 1) := by decide +kernel
theorem dX5_seen_70 : decode cX5_seen 70 = .ok (.iastore, 1) := by decide +kernel
theorem dX5_seen_71 : decode cX5_seen 71 = .ok (.aload_n 0, 1) := by decide +kernel
theorem dX5_seen_72 : decode cX5_seen 72 = .ok (.getfield 20, 3) := by decide +kernel
theorem dX5_seen_75 : decode cX5_seen 75 = .ok (.dup, 1) := by decide +kernel
theorem dX5_seen_76 : decode cX5_seen 76 = .ok (.getfield 186, 3) := by decide +kernel
theorem dX5_seen_79 : decode cX5_seen 79 = .ok (.iconst 1, 1) := by decide +kernel
theorem dX5_seen_80 : decode cX5_seen 80 = .ok (.iadd, 1) := by decide +kernel
theorem dX5_seen_81 : decode cX5_seen 81 = .ok (.putfield 186, 3) := by decide +kernel
theorem dX5_seen_84 : decode cX5_seen 84 = .ok (.aload_n 0, 1) := by decide +kernel
theorem dX5_seen_85 : decode cX5_seen 85 = .ok (.getfield 20, 3) := by decide +kernel
theorem dX5_seen_88 : decode cX5_seen 88 = .ok (.getfield 186, 3) := by decide +kernel
theorem dX5_seen_91 : decode cX5_seen 91 = .ok (.ireturn, 1) := by decide +kernel
theorem dX5_forget_0 : decode cX5_forget 0 = .ok (.aload_n 0, 1) := by decide +kernel
theorem dX5_forget_1 : decode cX5_forget 1 = .ok (.getfield 20, 3) := by decide +kernel
theorem dX5_forget_4 : decode cX5_forget 4 = .ok (.getfield 186, 3) := by decide +kernel
theorem dX5_forget_7 : decode cX5_forget 7 = .ok (.istore_n 1, 1) := by decide +kernel
theorem dX5_forget_8 : decode cX5_forget 8 = .ok (.aload_n 0, 1) := by decide +kernel
theorem dX5_forget_9 : decode cX5_forget 9 = .ok (.getfield 20, 3) := by decide +kernel
theorem dX5_forget_12 : decode cX5_forget 12 = .ok (.iconst 0, 1) := by decide +kernel
theorem dX5_forget_13 : decode cX5_forget 13 = .ok (.putfield 186, 3) := by decide +kernel
theorem dX5_forget_16 : decode cX5_forget 16 = .ok (.iload_n 1, 1) := by decide +kernel
theorem dX5_forget_17 : decode cX5_forget 17 = .ok (.ireturn, 1) := by decide +kernel
theorem dX5_fits_0 : decode cX5_fits 0 = .ok (.aload_n 0, 1) := by decide +kernel
theorem dX5_fits_1 : decode cX5_fits 1 = .ok (.getfield 20, 3) := by decide +kernel
theorem dX5_fits_4 : decode cX5_fits 4 = .ok (.bipush 42, 2) := by decide +kernel
theorem dX5_fits_6 : decode cX5_fits 6 = .ok (.invokevirtual 162, 3) := by decide +kernel
theorem dX5_fits_9 : decode cX5_fits 9 = .ok (.ifCond .le 6, 3) := by decide +kernel
theorem dX5_fits_12 : decode cX5_fits 12 = .ok (.bipush (-3), 2) := by decide +kernel
theorem dX5_fits_14 : decode cX5_fits 14 = .ok (.ireturn, 1) := by decide +kernel
theorem dX5_fits_15 : decode cX5_fits 15 = .ok (.aload_n 0, 1) := by decide +kernel
theorem dX5_fits_16 : decode cX5_fits 16 = .ok (.getfield 34, 3) := by decide +kernel
theorem dX5_fits_19 : decode cX5_fits 19 = .ok (.aload_n 0, 1) := by decide +kernel
theorem dX5_fits_20 : decode cX5_fits 20 = .ok (.getfield 20, 3) := by decide +kernel
theorem dX5_fits_23 : decode cX5_fits 23 = .ok (.getfield 93, 3) := by decide +kernel
theorem dX5_fits_26 : decode cX5_fits 26 = .ok (.aload_n 0, 1) := by decide +kernel
theorem dX5_fits_27 : decode cX5_fits 27 = .ok (.getfield 20, 3) := by decide +kernel
theorem dX5_fits_30 : decode cX5_fits 30 = .ok (.aload_n 0, 1) := by decide +kernel
theorem dX5_fits_31 : decode cX5_fits 31 = .ok (.getfield 20, 3) := by decide +kernel
theorem dX5_fits_34 : decode cX5_fits 34 = .ok (.getfield 77, 3) := by decide +kernel
theorem dX5_fits_37 : decode cX5_fits 37 = .ok (.invokevirtual 114, 3) := by decide +kernel
theorem dX5_fits_40 : decode cX5_fits 40 = .ok (.aload_n 0, 1) := by decide +kernel
theorem dX5_fits_41 : decode cX5_fits 41 = .ok (.getfield 55, 3) := by decide +kernel
theorem dX5_fits_44 : decode cX5_fits 44 = .ok (.aload_n 0, 1) := by decide +kernel
theorem dX5_fits_45 : decode cX5_fits 45 = .ok (.getfield 34, 3) := by decide +kernel
theorem dX5_fits_48 : decode cX5_fits 48 = .ok (.aload_n 0, 1) := by decide +kernel
theorem dX5_fits_49 : decode cX5_fits 49 = .ok (.getfield 20, 3) := by decide +kernel
theorem dX5_fits_52 : decode cX5_fits 52 = .ok (.iconst (-1), 1) := by decide +kernel
theorem dX5_fits_53 : decode cX5_fits 53 = .ok (.iconst 0, 1) := by decide +kernel
theorem dX5_fits_54 : decode cX5_fits 54 = .ok (.invokevirtual 195, 3) := by decide +kernel
theorem dX5_fits_57 : decode cX5_fits 57 = .ok (.aload_n 0, 1) := by decide +kernel
theorem dX5_fits_58 : decode cX5_fits 58 = .ok (.getfield 55, 3) := by decide +kernel
theorem dX5_fits_61 : decode cX5_fits 61 = .ok (.getfield 198, 3) := by decide +kernel
theorem dX5_fits_64 : decode cX5_fits 64 = .ok (.ireturn, 1) := by decide +kernel
theorem dX5_drawn_0 : decode cX5_drawn 0 = .ok (.iload_n 1, 1) := by decide +kernel
theorem dX5_drawn_1 : decode cX5_drawn 1 = .ok (.ifCond .lt 23, 3) := by decide +kernel
theorem dX5_drawn_4 : decode cX5_drawn 4 = .ok (.iload_n 1, 1) := by decide +kernel
theorem dX5_drawn_5 : decode cX5_drawn 5 = .ok (.aload_n 0, 1) := by decide +kernel
theorem dX5_drawn_6 : decode cX5_drawn 6 = .ok (.getfield 20, 3) := by decide +kernel
theorem dX5_drawn_9 : decode cX5_drawn 9 = .ok (.bipush 63, 2) := by decide +kernel
theorem dX5_drawn_11 : decode cX5_drawn 11 = .ok (.invokevirtual 162, 3) := by decide +kernel
theorem dX5_drawn_14 : decode cX5_drawn 14 = .ok (.if_icmp .ge 10, 3) := by decide +kernel
theorem dX5_drawn_17 : decode cX5_drawn 17 = .ok (.iload_n 2, 1) := by decide +kernel
theorem dX5_drawn_18 : decode cX5_drawn 18 = .ok (.invokestatic 73, 3) := by decide +kernel
theorem dX5_drawn_21 : decode cX5_drawn 21 = .ok (.ifCond .ne 7, 3) := by decide +kernel
theorem dX5_drawn_24 : decode cX5_drawn 24 = .ok (.ldc2_w 155, 3) := by decide +kernel
theorem dX5_drawn_27 : decode cX5_drawn 27 = .ok (.lreturn, 1) := by decide +kernel
theorem dX5_drawn_28 : decode cX5_drawn 28 = .ok (.iload_n 3, 1) := by decide +kernel
theorem dX5_drawn_29 : decode cX5_drawn 29 = .ok (.invokestatic 157, 3) := by decide +kernel
theorem dX5_drawn_32 : decode cX5_drawn 32 = .ok (.ifCond .ne 7, 3) := by decide +kernel
theorem dX5_drawn_35 : decode cX5_drawn 35 = .ok (.ldc2_w 160, 3) := by decide +kernel
theorem dX5_drawn_38 : decode cX5_drawn 38 = .ok (.lreturn, 1) := by decide +kernel
theorem dX5_drawn_39 : decode cX5_drawn 39 = .ok (.aload_n 0, 1) := by decide +kernel
theorem dX5_drawn_40 : decode cX5_drawn 40 = .ok (.getfield 20, 3) := by decide +kernel
theorem dX5_drawn_43 : decode cX5_drawn 43 = .ok (.bipush 42, 2) := by decide +kernel
theorem dX5_drawn_45 : decode cX5_drawn 45 = .ok (.invokevirtual 162, 3) := by decide +kernel
theorem dX5_drawn_48 : decode cX5_drawn 48 = .ok (.ifCond .le 7, 3) := by decide +kernel
theorem dX5_drawn_51 : decode cX5_drawn 51 = .ok (.ldc2_w 166, 3) := by decide +kernel
theorem dX5_drawn_54 : decode cX5_drawn 54 = .ok (.lreturn, 1) := by decide +kernel
theorem dX5_drawn_55 : decode cX5_drawn 55 = .ok (.aload_n 0, 1) := by decide +kernel
theorem dX5_drawn_56 : decode cX5_drawn 56 = .ok (.getfield 34, 3) := by decide +kernel
theorem dX5_drawn_59 : decode cX5_drawn 59 = .ok (.aload_n 0, 1) := by decide +kernel
theorem dX5_drawn_60 : decode cX5_drawn 60 = .ok (.getfield 20, 3) := by decide +kernel
theorem dX5_drawn_63 : decode cX5_drawn 63 = .ok (.getfield 93, 3) := by decide +kernel
theorem dX5_drawn_66 : decode cX5_drawn 66 = .ok (.aload_n 0, 1) := by decide +kernel
theorem dX5_drawn_67 : decode cX5_drawn 67 = .ok (.getfield 20, 3) := by decide +kernel
theorem dX5_drawn_70 : decode cX5_drawn 70 = .ok (.aload_n 0, 1) := by decide +kernel
theorem dX5_drawn_71 : decode cX5_drawn 71 = .ok (.getfield 20, 3) := by decide +kernel
theorem dX5_drawn_74 : decode cX5_drawn 74 = .ok (.getfield 77, 3) := by decide +kernel
theorem dX5_drawn_77 : decode cX5_drawn 77 = .ok (.invokevirtual 114, 3) := by decide +kernel
theorem dX5_drawn_80 : decode cX5_drawn 80 = .ok (.aload_n 0, 1) := by decide +kernel
theorem dX5_drawn_81 : decode cX5_drawn 81 = .ok (.getfield 55, 3) := by decide +kernel
theorem dX5_drawn_84 : decode cX5_drawn 84 = .ok (.aload_n 0, 1) := by decide +kernel
theorem dX5_drawn_85 : decode cX5_drawn 85 = .ok (.getfield 34, 3) := by decide +kernel
theorem dX5_drawn_88 : decode cX5_drawn 88 = .ok (.aload_n 0, 1) := by decide +kernel
theorem dX5_drawn_89 : decode cX5_drawn 89 = .ok (.getfield 20, 3) := by decide +kernel
theorem dX5_drawn_92 : decode cX5_drawn 92 = .ok (.iload_n 1, 1) := by decide +kernel
theorem dX5_drawn_93 : decode cX5_drawn 93 = .ok (.iload_n 2, 1) := by decide +kernel
theorem dX5_drawn_94 : decode cX5_drawn 94 = .ok (.invokevirtual 195, 3) := by decide +kernel
theorem dX5_drawn_97 : decode cX5_drawn 97 = .ok (.aload_n 0, 1) := by decide +kernel
theorem dX5_drawn_98 : decode cX5_drawn 98 = .ok (.getfield 55, 3) := by decide +kernel
theorem dX5_drawn_101 : decode cX5_drawn 101 = .ok (.getfield 198, 3) := by decide +kernel
theorem dX5_drawn_104 : decode cX5_drawn 104 = .ok (.ifCond .ne 7, 3) := by decide +kernel
theorem dX5_drawn_107 : decode cX5_drawn 107 = .ok (.ldc2_w 166, 3) := by decide +kernel
theorem dX5_drawn_110 : decode cX5_drawn 110 = .ok (.lreturn, 1) := by decide +kernel
theorem dX5_drawn_111 : decode cX5_drawn 111 = .ok (.aload_n 0, 1) := by decide +kernel
theorem dX5_drawn_112 : decode cX5_drawn 112 = .ok (.getfield 55, 3) := by decide +kernel
theorem dX5_drawn_115 : decode cX5_drawn 115 = .ok (.getfield 199, 3) := by decide +kernel
theorem dX5_drawn_118 : decode cX5_drawn 118 = .ok (.aload_n 0, 1) := by decide +kernel
theorem dX5_drawn_119 : decode cX5_drawn 119 = .ok (.getfield 55, 3) := by decide +kernel
theorem dX5_drawn_122 : decode cX5_drawn 122 = .ok (.getfield 203, 3) := by decide +kernel
theorem dX5_drawn_125 : decode cX5_drawn 125 = .ok (.iload_n 3, 1) := by decide +kernel
theorem dX5_drawn_126 : decode cX5_drawn 126 = .ok (.invokestatic 206, 3) := by decide +kernel
theorem dX5_drawn_129 : decode cX5_drawn 129 = .ok (.lreturn, 1) := by decide +kernel
theorem dX5_shuffle_0 : decode cX5_shuffle 0 = .ok (.iload_n 1, 1) := by decide +kernel
theorem dX5_shuffle_1 : decode cX5_shuffle 1 = .ok (.ifCond .lt 10, 3) := by decide +kernel
theorem dX5_shuffle_4 : decode cX5_shuffle 4 = .ok (.iload_n 1, 1) := by decide +kernel
theorem dX5_shuffle_5 : decode cX5_shuffle 5 = .ok (.sipush 9999, 3) := by decide +kernel
theorem dX5_shuffle_8 : decode cX5_shuffle 8 = .ok (.if_icmp .le 6, 3) := by decide +kernel
theorem dX5_shuffle_11 : decode cX5_shuffle 11 = .ok (.bipush (-2), 2) := by decide +kernel
theorem dX5_shuffle_13 : decode cX5_shuffle 13 = .ok (.ireturn, 1) := by decide +kernel
theorem dX5_shuffle_14 : decode cX5_shuffle 14 = .ok (.aload_n 0, 1) := by decide +kernel
theorem dX5_shuffle_15 : decode cX5_shuffle 15 = .ok (.getfield 20, 3) := by decide +kernel
theorem dX5_shuffle_18 : decode cX5_shuffle 18 = .ok (.getfield 93, 3) := by decide +kernel
theorem dX5_shuffle_21 : decode cX5_shuffle 21 = .ok (.aload_n 0, 1) := by decide +kernel
theorem dX5_shuffle_22 : decode cX5_shuffle 22 = .ok (.getfield 20, 3) := by decide +kernel
theorem dX5_shuffle_25 : decode cX5_shuffle 25 = .ok (.getfield 67, 3) := by decide +kernel
theorem dX5_shuffle_28 : decode cX5_shuffle 28 = .ok (.iload_n 1, 1) := by decide +kernel
theorem dX5_shuffle_29 : decode cX5_shuffle 29 = .ok (.invokestatic 210, 3) := by decide +kernel
theorem dX5_shuffle_32 : decode cX5_shuffle 32 = .ok (.aload_n 0, 1) := by decide +kernel
theorem dX5_shuffle_33 : decode cX5_shuffle 33 = .ok (.getfield 20, 3) := by decide +kernel
theorem dX5_shuffle_36 : decode cX5_shuffle 36 = .ok (.getfield 67, 3) := by decide +kernel
theorem dX5_shuffle_39 : decode cX5_shuffle 39 = .ok (.ireturn, 1) := by decide +kernel
theorem dX5_wrong_0 : decode cX5_wrong 0 = .ok (.aload_n 0, 1) := by decide +kernel
theorem dX5_wrong_1 : decode cX5_wrong 1 = .ok (.getfield 20, 3) := by decide +kernel
theorem dX5_wrong_4 : decode cX5_wrong 4 = .ok (.iload_n 1, 1) := by decide +kernel
theorem dX5_wrong_5 : decode cX5_wrong 5 = .ok (.invokevirtual 90, 3) := by decide +kernel
theorem dX5_wrong_8 : decode cX5_wrong 8 = .ok (.ifCond .eq 14, 3) := by decide +kernel
theorem dX5_wrong_11 : decode cX5_wrong 11 = .ok (.aload_n 0, 1) := by decide +kernel
theorem dX5_wrong_12 : decode cX5_wrong 12 = .ok (.getfield 20, 3) := by decide +kernel
theorem dX5_wrong_15 : decode cX5_wrong 15 = .ok (.iload_n 2, 1) := by decide +kernel
theorem dX5_wrong_16 : decode cX5_wrong 16 = .ok (.invokevirtual 90, 3) := by decide +kernel
theorem dX5_wrong_19 : decode cX5_wrong 19 = .ok (.ifCond .ne 5, 3) := by decide +kernel
theorem dX5_wrong_22 : decode cX5_wrong 22 = .ok (.iconst (-1), 1) := by decide +kernel
theorem dX5_wrong_23 : decode cX5_wrong 23 = .ok (.ireturn, 1) := by decide +kernel
theorem dX5_wrong_24 : decode cX5_wrong 24 = .ok (.aload_n 0, 1) := by decide +kernel
theorem dX5_wrong_25 : decode cX5_wrong 25 = .ok (.getfield 20, 3) := by decide +kernel
theorem dX5_wrong_28 : decode cX5_wrong 28 = .ok (.invokevirtual 100, 3) := by decide +kernel
theorem dX5_wrong_31 : decode cX5_wrong 31 = .ok (.ifCond .ne 6, 3) := by decide +kernel
theorem dX5_wrong_34 : decode cX5_wrong 34 = .ok (.bipush (-3), 2) := by decide +kernel
theorem dX5_wrong_36 : decode cX5_wrong 36 = .ok (.ireturn, 1) := by decide +kernel
theorem dX5_wrong_37 : decode cX5_wrong 37 = .ok (.iconst 0, 1) := by decide +kernel
theorem dX5_wrong_38 : decode cX5_wrong 38 = .ok (.istore_n 3, 1) := by decide +kernel
theorem dX5_wrong_39 : decode cX5_wrong 39 = .ok (.iconst 0, 1) := by decide +kernel
theorem dX5_wrong_40 : decode cX5_wrong 40 = .ok (.istore 4, 2) := by decide +kernel
theorem dX5_wrong_42 : decode cX5_wrong 42 = .ok (.iload 4, 2) := by decide +kernel
theorem dX5_wrong_44 : decode cX5_wrong 44 = .ok (.bipush 100, 2) := by decide +kernel
theorem dX5_wrong_46 : decode cX5_wrong 46 = .ok (.if_icmp .ge 89, 3) := by decide +kernel
theorem dX5_wrong_49 : decode cX5_wrong 49 = .ok (.aload_n 0, 1) := by decide +kernel
theorem dX5_wrong_50 : decode cX5_wrong 50 = .ok (.getfield 20, 3) := by decide +kernel
theorem dX5_wrong_53 : decode cX5_wrong 53 = .ok (.getfield 93, 3) := by decide +kernel
theorem dX5_wrong_56 : decode cX5_wrong 56 = .ok (.iconst 0, 1) := by decide +kernel
theorem dX5_wrong_57 : decode cX5_wrong 57 = .ok (.aload_n 0, 1) := by decide +kernel
theorem dX5_wrong_58 : decode cX5_wrong 58 = .ok (.getfield 28, 3) := by decide +kernel
theorem dX5_wrong_61 : decode cX5_wrong 61 = .ok (.iconst 0, 1) := by decide +kernel
theorem dX5_wrong_62 : decode cX5_wrong 62 = .ok (.bipush 40, 2) := by decide +kernel
theorem dX5_wrong_64 : decode cX5_wrong 64 = .ok (.invokestatic 214, 3) := by decide +kernel
theorem dX5_wrong_67 : decode cX5_wrong 67 = .ok (.aload_n 0, 1) := by decide +kernel
theorem dX5_wrong_68 : decode cX5_wrong 68 = .ok (.getfield 28, 3) := by decide +kernel
theorem dX5_wrong_71 : decode cX5_wrong 71 = .ok (.aload_n 0, 1) := by decide +kernel
theorem dX5_wrong_72 : decode cX5_wrong 72 = .ok (.getfield 20, 3) := by decide +kernel
theorem dX5_wrong_75 : decode cX5_wrong 75 = .ok (.getfield 67, 3) := by decide +kernel
theorem dX5_wrong_78 : decode cX5_wrong 78 = .ok (.iload 4, 2) := by decide +kernel
theorem dX5_wrong_80 : decode cX5_wrong 80 = .ok (.invokestatic 210, 3) := by decide +kernel
theorem dX5_wrong_83 : decode cX5_wrong 83 = .ok (.aload_n 0, 1) := by decide +kernel
theorem dX5_wrong_84 : decode cX5_wrong 84 = .ok (.getfield 34, 3) := by decide +kernel
theorem dX5_wrong_87 : decode cX5_wrong 87 = .ok (.aload_n 0, 1) := by decide +kernel
theorem dX5_wrong_88 : decode cX5_wrong 88 = .ok (.getfield 28, 3) := by decide +kernel
theorem dX5_wrong_91 : decode cX5_wrong 91 = .ok (.aload_n 0, 1) := by decide +kernel
theorem dX5_wrong_92 : decode cX5_wrong 92 = .ok (.getfield 20, 3) := by decide +kernel
theorem dX5_wrong_95 : decode cX5_wrong 95 = .ok (.aload_n 0, 1) := by decide +kernel
theorem dX5_wrong_96 : decode cX5_wrong 96 = .ok (.getfield 20, 3) := by decide +kernel
theorem dX5_wrong_99 : decode cX5_wrong 99 = .ok (.getfield 77, 3) := by decide +kernel
theorem dX5_wrong_102 : decode cX5_wrong 102 = .ok (.invokevirtual 104, 3) := by decide +kernel
theorem dX5_wrong_105 : decode cX5_wrong 105 = .ok (.aload_n 0, 1) := by decide +kernel
theorem dX5_wrong_106 : decode cX5_wrong 106 = .ok (.getfield 34, 3) := by decide +kernel
theorem dX5_wrong_109 : decode cX5_wrong 109 = .ok (.getfield 108, 3) := by decide +kernel
theorem dX5_wrong_112 : decode cX5_wrong 112 = .ok (.iload_n 1, 1) := by decide +kernel
theorem dX5_wrong_113 : decode cX5_wrong 113 = .ok (.iaload, 1) := by decide +kernel
theorem dX5_wrong_114 : decode cX5_wrong 114 = .ok (.aload_n 0, 1) := by decide +kernel
theorem dX5_wrong_115 : decode cX5_wrong 115 = .ok (.getfield 34, 3) := by decide +kernel
theorem dX5_wrong_118 : decode cX5_wrong 118 = .ok (.getfield 108, 3) := by decide +kernel
theorem dX5_wrong_121 : decode cX5_wrong 121 = .ok (.iload_n 2, 1) := by decide +kernel
theorem dX5_wrong_122 : decode cX5_wrong 122 = .ok (.iaload, 1) := by decide +kernel
theorem dX5_wrong_123 : decode cX5_wrong 123 = .ok (.if_icmp .eq 6, 3) := by decide +kernel
theorem dX5_wrong_126 : decode cX5_wrong 126 = .ok (.iinc 3 1, 3) := by decide +kernel
theorem dX5_wrong_129 : decode cX5_wrong 129 = .ok (.iinc 4 1, 3) := by decide +kernel
theorem dX5_wrong_132 : decode cX5_wrong 132 = .ok (.goto (-90), 3) := by decide +kernel
theorem dX5_wrong_135 : decode cX5_wrong 135 = .ok (.iload_n 3, 1) := by decide +kernel
theorem dX5_wrong_136 : decode cX5_wrong 136 = .ok (.ireturn, 1) := by decide +kernel
theorem dX5_image_0 : decode cX5_image 0 = .ok (.iload_n 1, 1) := by decide +kernel
theorem dX5_image_1 : decode cX5_image 1 = .ok (.ifCond .lt 8, 3) := by decide +kernel
theorem dX5_image_4 : decode cX5_image 4 = .ok (.iload_n 1, 1) := by decide +kernel
theorem dX5_image_5 : decode cX5_image 5 = .ok (.iconst 2, 1) := by decide +kernel
theorem dX5_image_6 : decode cX5_image 6 = .ok (.if_icmp .lt 6, 3) := by decide +kernel
theorem dX5_image_9 : decode cX5_image 9 = .ok (.bipush (-2), 2) := by decide +kernel
theorem dX5_image_11 : decode cX5_image 11 = .ok (.ireturn, 1) := by decide +kernel
theorem dX5_image_12 : decode cX5_image 12 = .ok (.aload_n 0, 1) := by decide +kernel
theorem dX5_image_13 : decode cX5_image 13 = .ok (.getfield 24, 3) := by decide +kernel
theorem dX5_image_16 : decode cX5_image 16 = .ok (.iload_n 1, 1) := by decide +kernel
theorem dX5_image_17 : decode cX5_image 17 = .ok (.aaload, 1) := by decide +kernel
theorem dX5_image_18 : decode cX5_image 18 = .ok (.aload_n 0, 1) := by decide +kernel
theorem dX5_image_19 : decode cX5_image 19 = .ok (.getfield 20, 3) := by decide +kernel
theorem dX5_image_22 : decode cX5_image 22 = .ok (.invokevirtual 220, 3) := by decide +kernel
theorem dX5_image_25 : decode cX5_image 25 = .ok (.aload_n 0, 1) := by decide +kernel
theorem dX5_image_26 : decode cX5_image 26 = .ok (.getfield 24, 3) := by decide +kernel
theorem dX5_image_29 : decode cX5_image 29 = .ok (.iload_n 1, 1) := by decide +kernel
theorem dX5_image_30 : decode cX5_image 30 = .ok (.aaload, 1) := by decide +kernel
theorem dX5_image_31 : decode cX5_image 31 = .ok (.iconst 1, 1) := by decide +kernel
theorem dX5_image_32 : decode cX5_image 32 = .ok (.putfield 224, 3) := by decide +kernel
theorem dX5_image_35 : decode cX5_image 35 = .ok (.iconst 1, 1) := by decide +kernel
theorem dX5_image_36 : decode cX5_image 36 = .ok (.ireturn, 1) := by decide +kernel
theorem dX5_restore_0 : decode cX5_restore 0 = .ok (.iload_n 1, 1) := by decide +kernel
theorem dX5_restore_1 : decode cX5_restore 1 = .ok (.ifCond .lt 8, 3) := by decide +kernel
theorem dX5_restore_4 : decode cX5_restore 4 = .ok (.iload_n 1, 1) := by decide +kernel
theorem dX5_restore_5 : decode cX5_restore 5 = .ok (.iconst 2, 1) := by decide +kernel
theorem dX5_restore_6 : decode cX5_restore 6 = .ok (.if_icmp .lt 6, 3) := by decide +kernel
theorem dX5_restore_9 : decode cX5_restore 9 = .ok (.bipush (-2), 2) := by decide +kernel
theorem dX5_restore_11 : decode cX5_restore 11 = .ok (.ireturn, 1) := by decide +kernel
theorem dX5_restore_12 : decode cX5_restore 12 = .ok (.aload_n 0, 1) := by decide +kernel
theorem dX5_restore_13 : decode cX5_restore 13 = .ok (.getfield 24, 3) := by decide +kernel
theorem dX5_restore_16 : decode cX5_restore 16 = .ok (.iload_n 1, 1) := by decide +kernel
theorem dX5_restore_17 : decode cX5_restore 17 = .ok (.aaload, 1) := by decide +kernel
theorem dX5_restore_18 : decode cX5_restore 18 = .ok (.getfield 224, 3) := by decide +kernel
theorem dX5_restore_21 : decode cX5_restore 21 = .ok (.ifCond .ne 6, 3) := by decide +kernel
theorem dX5_restore_24 : decode cX5_restore 24 = .ok (.bipush (-3), 2) := by decide +kernel
theorem dX5_restore_26 : decode cX5_restore 26 = .ok (.ireturn, 1) := by decide +kernel
theorem dX5_restore_27 : decode cX5_restore 27 = .ok (.aload_n 0, 1) := by decide +kernel
theorem dX5_restore_28 : decode cX5_restore 28 = .ok (.getfield 20, 3) := by decide +kernel
theorem dX5_restore_31 : decode cX5_restore 31 = .ok (.aload_n 0, 1) := by decide +kernel
theorem dX5_restore_32 : decode cX5_restore 32 = .ok (.getfield 24, 3) := by decide +kernel
theorem dX5_restore_35 : decode cX5_restore 35 = .ok (.iload_n 1, 1) := by decide +kernel
theorem dX5_restore_36 : decode cX5_restore 36 = .ok (.aaload, 1) := by decide +kernel
theorem dX5_restore_37 : decode cX5_restore 37 = .ok (.invokevirtual 220, 3) := by decide +kernel
theorem dX5_restore_40 : decode cX5_restore 40 = .ok (.iconst 1, 1) := by decide +kernel
theorem dX5_restore_41 : decode cX5_restore 41 = .ok (.ireturn, 1) := by decide +kernel
theorem dX5_told_0 : decode cX5_told 0 = .ok (.iload_n 1, 1) := by decide +kernel
theorem dX5_told_1 : decode cX5_told 1 = .ok (.bipush 10, 2) := by decide +kernel
theorem dX5_told_3 : decode cX5_told 3 = .ok (.if_icmp .le 22, 3) := by decide +kernel
theorem dX5_told_6 : decode cX5_told 6 = .ok (.iload_n 1, 1) := by decide +kernel
theorem dX5_told_7 : decode cX5_told 7 = .ok (.bipush 20, 2) := by decide +kernel
theorem dX5_told_9 : decode cX5_told 9 = .ok (.if_icmp .gt 16, 3) := by decide +kernel
theorem dX5_told_12 : decode cX5_told 12 = .ok (.aload_n 0, 1) := by decide +kernel
theorem dX5_told_13 : decode cX5_told 13 = .ok (.getfield 20, 3) := by decide +kernel
theorem dX5_told_16 : decode cX5_told 16 = .ok (.getfield 83, 3) := by decide +kernel
theorem dX5_told_19 : decode cX5_told 19 = .ok (.iload_n 1, 1) := by decide +kernel
theorem dX5_told_20 : decode cX5_told 20 = .ok (.bipush 10, 2) := by decide +kernel
theorem dX5_told_22 : decode cX5_told 22 = .ok (.isub, 1) := by decide +kernel
theorem dX5_told_23 : decode cX5_told 23 = .ok (.iaload, 1) := by decide +kernel
theorem dX5_told_24 : decode cX5_told 24 = .ok (.ireturn, 1) := by decide +kernel
theorem dX5_told_25 : decode cX5_told 25 = .ok (.iload_n 1, 1) := by decide +kernel
theorem dX5_told_26 : decode cX5_told 26 = .ok (.tableswitch 111 0 7 #[46, 51, 59, 67, 75, 83, 93, 103], 46) := by decide +kernel
theorem dX5_told_72 : decode cX5_told 72 = .ok (.aload_n 0, 1) := by decide +kernel
theorem dX5_told_73 : decode cX5_told 73 = .ok (.getfield 13, 3) := by decide +kernel
theorem dX5_told_76 : decode cX5_told 76 = .ok (.ireturn, 1) := by decide +kernel
theorem dX5_told_77 : decode cX5_told 77 = .ok (.aload_n 0, 1) := by decide +kernel
theorem dX5_told_78 : decode cX5_told 78 = .ok (.getfield 20, 3) := by decide +kernel
theorem dX5_told_81 : decode cX5_told 81 = .ok (.getfield 67, 3) := by decide +kernel
theorem dX5_told_84 : decode cX5_told 84 = .ok (.ireturn, 1) := by decide +kernel
theorem dX5_told_85 : decode cX5_told 85 = .ok (.aload_n 0, 1) := by decide +kernel
theorem dX5_told_86 : decode cX5_told 86 = .ok (.getfield 20, 3) := by decide +kernel
theorem dX5_told_89 : decode cX5_told 89 = .ok (.getfield 70, 3) := by decide +kernel
theorem dX5_told_92 : decode cX5_told 92 = .ok (.ireturn, 1) := by decide +kernel
theorem dX5_told_93 : decode cX5_told 93 = .ok (.aload_n 0, 1) := by decide +kernel
theorem dX5_told_94 : decode cX5_told 94 = .ok (.getfield 20, 3) := by decide +kernel
theorem dX5_told_97 : decode cX5_told 97 = .ok (.getfield 77, 3) := by decide +kernel
theorem dX5_told_100 : decode cX5_told 100 = .ok (.ireturn, 1) := by decide +kernel
theorem dX5_told_101 : decode cX5_told 101 = .ok (.aload_n 0, 1) := by decide +kernel
theorem dX5_told_102 : decode cX5_told 102 = .ok (.getfield 20, 3) := by decide +kernel
theorem dX5_told_105 : decode cX5_told 105 = .ok (.getfield 80, 3) := by decide +kernel
theorem dX5_told_108 : decode cX5_told 108 = .ok (.ireturn, 1) := by decide +kernel
theorem dX5_told_109 : decode cX5_told 109 = .ok (.aload_n 0, 1) := by decide +kernel
theorem dX5_told_110 : decode cX5_told 110 = .ok (.getfield 20, 3) := by decide +kernel
theorem dX5_told_113 : decode cX5_told 113 = .ok (.bipush 42, 2) := by decide +kernel
theorem dX5_told_115 : decode cX5_told 115 = .ok (.invokevirtual 162, 3) := by decide +kernel
theorem dX5_told_118 : decode cX5_told 118 = .ok (.ireturn, 1) := by decide +kernel
theorem dX5_told_119 : decode cX5_told 119 = .ok (.aload_n 0, 1) := by decide +kernel
theorem dX5_told_120 : decode cX5_told 120 = .ok (.getfield 20, 3) := by decide +kernel
theorem dX5_told_123 : decode cX5_told 123 = .ok (.bipush 63, 2) := by decide +kernel
theorem dX5_told_125 : decode cX5_told 125 = .ok (.invokevirtual 162, 3) := by decide +kernel
theorem dX5_told_128 : decode cX5_told 128 = .ok (.ireturn, 1) := by decide +kernel
theorem dX5_told_129 : decode cX5_told 129 = .ok (.aload_n 0, 1) := by decide +kernel
theorem dX5_told_130 : decode cX5_told 130 = .ok (.getfield 20, 3) := by decide +kernel
theorem dX5_told_133 : decode cX5_told 133 = .ok (.getfield 186, 3) := by decide +kernel
theorem dX5_told_136 : decode cX5_told 136 = .ok (.ireturn, 1) := by decide +kernel
theorem dX5_told_137 : decode cX5_told 137 = .ok (.bipush (-2), 2) := by decide +kernel
theorem dX5_told_139 : decode cX5_told 139 = .ok (.ireturn, 1) := by decide +kernel
theorem dX5_firstFault_0 : decode cX5_firstFault 0 = .ok (.iconst 0, 1) := by decide +kernel
theorem dX5_firstFault_1 : decode cX5_firstFault 1 = .ok (.istore_n 1, 1) := by decide +kernel
theorem dX5_firstFault_2 : decode cX5_firstFault 2 = .ok (.iconst 0, 1) := by decide +kernel
theorem dX5_firstFault_3 : decode cX5_firstFault 3 = .ok (.istore_n 2, 1) := by decide +kernel
theorem dX5_firstFault_4 : decode cX5_firstFault 4 = .ok (.iconst 0, 1) := by decide +kernel
theorem dX5_firstFault_5 : decode cX5_firstFault 5 = .ok (.istore_n 3, 1) := by decide +kernel
theorem dX5_firstFault_6 : decode cX5_firstFault 6 = .ok (.iload_n 3, 1) := by decide +kernel
theorem dX5_firstFault_7 : decode cX5_firstFault 7 = .ok (.aload_n 0, 1) := by decide +kernel
theorem dX5_firstFault_8 : decode cX5_firstFault 8 = .ok (.getfield 13, 3) := by decide +kernel
theorem dX5_firstFault_11 : decode cX5_firstFault 11 = .ok (.if_icmp .ge 72, 3) := by decide +kernel
theorem dX5_firstFault_14 : decode cX5_firstFault 14 = .ok (.aload_n 0, 1) := by decide +kernel
theorem dX5_firstFault_15 : decode cX5_firstFault 15 = .ok (.getfield 9, 3) := by decide +kernel
theorem dX5_firstFault_18 : decode cX5_firstFault 18 = .ok (.iload_n 3, 1) := by decide +kernel
theorem dX5_firstFault_19 : decode cX5_firstFault 19 = .ok (.caload, 1) := by decide +kernel
theorem dX5_firstFault_20 : decode cX5_firstFault 20 = .ok (.istore 4, 2) := by decide +kernel
theorem dX5_firstFault_22 : decode cX5_firstFault 22 = .ok (.iload 4, 2) := by decide +kernel
theorem dX5_firstFault_24 : decode cX5_firstFault 24 = .ok (.bipush 42, 2) := by decide +kernel
theorem dX5_firstFault_26 : decode cX5_firstFault 26 = .ok (.if_icmp .ne 9, 3) := by decide +kernel
theorem dX5_firstFault_29 : decode cX5_firstFault 29 = .ok (.iinc 1 1, 3) := by decide +kernel
theorem dX5_firstFault_32 : decode cX5_firstFault 32 = .ok (.goto 27, 3) := by decide +kernel
theorem dX5_firstFault_35 : decode cX5_firstFault 35 = .ok (.iload 4, 2) := by decide +kernel
theorem dX5_firstFault_37 : decode cX5_firstFault 37 = .ok (.bipush 63, 2) := by decide +kernel
theorem dX5_firstFault_39 : decode cX5_firstFault 39 = .ok (.if_icmp .ne 9, 3) := by decide +kernel
theorem dX5_firstFault_42 : decode cX5_firstFault 42 = .ok (.iinc 2 1, 3) := by decide +kernel
theorem dX5_firstFault_45 : decode cX5_firstFault 45 = .ok (.goto 14, 3) := by decide +kernel
theorem dX5_firstFault_48 : decode cX5_firstFault 48 = .ok (.iload 4, 2) := by decide +kernel
theorem dX5_firstFault_50 : decode cX5_firstFault 50 = .ok (.iconst 1, 1) := by decide +kernel
theorem dX5_firstFault_51 : decode cX5_firstFault 51 = .ok (.invokestatic 96, 3) := by decide +kernel
theorem dX5_firstFault_54 : decode cX5_firstFault 54 = .ok (.ifCond .ne 5, 3) := by decide +kernel
theorem dX5_firstFault_57 : decode cX5_firstFault 57 = .ok (.iload_n 3, 1) := by decide +kernel
theorem dX5_firstFault_58 : decode cX5_firstFault 58 = .ok (.ireturn, 1) := by decide +kernel
theorem dX5_firstFault_59 : decode cX5_firstFault 59 = .ok (.iload_n 3, 1) := by decide +kernel
theorem dX5_firstFault_60 : decode cX5_firstFault 60 = .ok (.bipush 40, 2) := by decide +kernel
theorem dX5_firstFault_62 : decode cX5_firstFault 62 = .ok (.if_icmp .ge 13, 3) := by decide +kernel
theorem dX5_firstFault_65 : decode cX5_firstFault 65 = .ok (.iload_n 1, 1) := by decide +kernel
theorem dX5_firstFault_66 : decode cX5_firstFault 66 = .ok (.iconst 4, 1) := by decide +kernel
theorem dX5_firstFault_67 : decode cX5_firstFault 67 = .ok (.if_icmp .gt 8, 3) := by decide +kernel
theorem dX5_firstFault_70 : decode cX5_firstFault 70 = .ok (.iload_n 2, 1) := by decide +kernel
theorem dX5_firstFault_71 : decode cX5_firstFault 71 = .ok (.iconst 5, 1) := by decide +kernel
theorem dX5_firstFault_72 : decode cX5_firstFault 72 = .ok (.if_icmp .le 5, 3) := by decide +kernel
theorem dX5_firstFault_75 : decode cX5_firstFault 75 = .ok (.iload_n 3, 1) := by decide +kernel
theorem dX5_firstFault_76 : decode cX5_firstFault 76 = .ok (.ireturn, 1) := by decide +kernel
theorem dX5_firstFault_77 : decode cX5_firstFault 77 = .ok (.iinc 3 1, 3) := by decide +kernel
theorem dX5_firstFault_80 : decode cX5_firstFault 80 = .ok (.goto (-74), 3) := by decide +kernel
theorem dX5_firstFault_83 : decode cX5_firstFault 83 = .ok (.aload_n 0, 1) := by decide +kernel
theorem dX5_firstFault_84 : decode cX5_firstFault 84 = .ok (.getfield 13, 3) := by decide +kernel
theorem dX5_firstFault_87 : decode cX5_firstFault 87 = .ok (.ifCond .ne 7, 3) := by decide +kernel
theorem dX5_firstFault_90 : decode cX5_firstFault 90 = .ok (.iconst 0, 1) := by decide +kernel
theorem dX5_firstFault_91 : decode cX5_firstFault 91 = .ok (.goto 5, 3) := by decide +kernel
theorem dX5_firstFault_94 : decode cX5_firstFault 94 = .ok (.bipush (-6), 2) := by decide +kernel
theorem dX5_firstFault_96 : decode cX5_firstFault 96 = .ok (.ireturn, 1) := by decide +kernel
theorem dX5_chanceOfOneStream_0 : decode cX5_chanceOfOneStream 0 = .ok (.aload_n 0, 1) := by decide +kernel
theorem dX5_chanceOfOneStream_1 : decode cX5_chanceOfOneStream 1 = .ok (.getfield 34, 3) := by decide +kernel
theorem dX5_chanceOfOneStream_4 : decode cX5_chanceOfOneStream 4 = .ok (.aload_n 0, 1) := by decide +kernel
theorem dX5_chanceOfOneStream_5 : decode cX5_chanceOfOneStream 5 = .ok (.getfield 20, 3) := by decide +kernel
theorem dX5_chanceOfOneStream_8 : decode cX5_chanceOfOneStream 8 = .ok (.getfield 93, 3) := by decide +kernel
theorem dX5_chanceOfOneStream_11 : decode cX5_chanceOfOneStream 11 = .ok (.aload_n 0, 1) := by decide +kernel
theorem dX5_chanceOfOneStream_12 : decode cX5_chanceOfOneStream 12 = .ok (.getfield 20, 3) := by decide +kernel
theorem dX5_chanceOfOneStream_15 : decode cX5_chanceOfOneStream 15 = .ok (.aload_n 0, 1) := by decide +kernel
theorem dX5_chanceOfOneStream_16 : decode cX5_chanceOfOneStream 16 = .ok (.getfield 20, 3) := by decide +kernel
theorem dX5_chanceOfOneStream_19 : decode cX5_chanceOfOneStream 19 = .ok (.getfield 77, 3) := by decide +kernel
theorem dX5_chanceOfOneStream_22 : decode cX5_chanceOfOneStream 22 = .ok (.invokevirtual 114, 3) := by decide +kernel
theorem dX5_chanceOfOneStream_25 : decode cX5_chanceOfOneStream 25 = .ok (.aload_n 0, 1) := by decide +kernel
theorem dX5_chanceOfOneStream_26 : decode cX5_chanceOfOneStream 26 = .ok (.getfield 41, 3) := by decide +kernel
theorem dX5_chanceOfOneStream_29 : decode cX5_chanceOfOneStream 29 = .ok (.aload_n 0, 1) := by decide +kernel
theorem dX5_chanceOfOneStream_30 : decode cX5_chanceOfOneStream 30 = .ok (.getfield 34, 3) := by decide +kernel
theorem dX5_chanceOfOneStream_33 : decode cX5_chanceOfOneStream 33 = .ok (.aload_n 0, 1) := by decide +kernel
theorem dX5_chanceOfOneStream_34 : decode cX5_chanceOfOneStream 34 = .ok (.getfield 20, 3) := by decide +kernel
theorem dX5_chanceOfOneStream_37 : decode cX5_chanceOfOneStream 37 = .ok (.getfield 83, 3) := by decide +kernel
theorem dX5_chanceOfOneStream_40 : decode cX5_chanceOfOneStream 40 = .ok (.aload_n 0, 1) := by decide +kernel
theorem dX5_chanceOfOneStream_41 : decode cX5_chanceOfOneStream 41 = .ok (.getfield 20, 3) := by decide +kernel
theorem dX5_chanceOfOneStream_44 : decode cX5_chanceOfOneStream 44 = .ok (.invokevirtual 87, 3) := by decide +kernel
theorem dX5_chanceOfOneStream_47 : decode cX5_chanceOfOneStream 47 = .ok (.lload_n 1, 1) := by decide +kernel
theorem dX5_chanceOfOneStream_48 : decode cX5_chanceOfOneStream 48 = .ok (.invokevirtual 228, 3) := by decide +kernel
theorem dX5_chanceOfOneStream_51 : decode cX5_chanceOfOneStream 51 = .ok (.aload_n 0, 1) := by decide +kernel
theorem dX5_chanceOfOneStream_52 : decode cX5_chanceOfOneStream 52 = .ok (.getfield 41, 3) := by decide +kernel
theorem dX5_chanceOfOneStream_55 : decode cX5_chanceOfOneStream 55 = .ok (.getfield 232, 3) := by decide +kernel
theorem dX5_chanceOfOneStream_58 : decode cX5_chanceOfOneStream 58 = .ok (.aload_n 0, 1) := by decide +kernel
theorem dX5_chanceOfOneStream_59 : decode cX5_chanceOfOneStream 59 = .ok (.getfield 41, 3) := by decide +kernel
theorem dX5_chanceOfOneStream_62 : decode cX5_chanceOfOneStream 62 = .ok (.getfield 235, 3) := by decide +kernel
theorem dX5_chanceOfOneStream_65 : decode cX5_chanceOfOneStream 65 = .ok (.iload_n 3, 1) := by decide +kernel
theorem dX5_chanceOfOneStream_66 : decode cX5_chanceOfOneStream 66 = .ok (.invokestatic 206, 3) := by decide +kernel
theorem dX5_chanceOfOneStream_69 : decode cX5_chanceOfOneStream 69 = .ok (.lreturn, 1) := by decide +kernel
theorem dX5_writtenAt_0 : decode cX5_writtenAt 0 = .ok (.iload_n 1, 1) := by decide +kernel
theorem dX5_writtenAt_1 : decode cX5_writtenAt 1 = .ok (.ifCond .lt 31, 3) := by decide +kernel
theorem dX5_writtenAt_4 : decode cX5_writtenAt 4 = .ok (.iload_n 1, 1) := by decide +kernel
theorem dX5_writtenAt_5 : decode cX5_writtenAt 5 = .ok (.aload_n 0, 1) := by decide +kernel
theorem dX5_writtenAt_6 : decode cX5_writtenAt 6 = .ok (.getfield 20, 3) := by decide +kernel
theorem dX5_writtenAt_9 : decode cX5_writtenAt 9 = .ok (.bipush 42, 2) := by decide +kernel
theorem dX5_writtenAt_11 : decode cX5_writtenAt 11 = .ok (.invokevirtual 162, 3) := by decide +kernel
theorem dX5_writtenAt_14 : decode cX5_writtenAt 14 = .ok (.if_icmp .ge 18, 3) := by decide +kernel
theorem dX5_writtenAt_17 : decode cX5_writtenAt 17 = .ok (.iload_n 1, 1) := by decide +kernel
theorem dX5_writtenAt_18 : decode cX5_writtenAt 18 = .ok (.iconst 4, 1) := by decide +kernel
theorem dX5_writtenAt_19 : decode cX5_writtenAt 19 = .ok (.if_icmp .ge 13, 3) := by decide +kernel
theorem dX5_writtenAt_22 : decode cX5_writtenAt 22 = .ok (.aload_n 0, 1) := by decide +kernel
theorem dX5_writtenAt_23 : decode cX5_writtenAt 23 = .ok (.getfield 48, 3) := by decide +kernel
theorem dX5_writtenAt_26 : decode cX5_writtenAt 26 = .ok (.getfield 176, 3) := by decide +kernel
theorem dX5_writtenAt_29 : decode cX5_writtenAt 29 = .ok (.ifCond .ne 6, 3) := by decide +kernel
theorem dX5_writtenAt_32 : decode cX5_writtenAt 32 = .ok (.bipush (-6), 2) := by decide +kernel
theorem dX5_writtenAt_34 : decode cX5_writtenAt 34 = .ok (.ireturn, 1) := by decide +kernel
theorem dX5_writtenAt_35 : decode cX5_writtenAt 35 = .ok (.aload_n 0, 1) := by decide +kernel
theorem dX5_writtenAt_36 : decode cX5_writtenAt 36 = .ok (.getfield 48, 3) := by decide +kernel
theorem dX5_writtenAt_39 : decode cX5_writtenAt 39 = .ok (.getfield 238, 3) := by decide +kernel
theorem dX5_writtenAt_42 : decode cX5_writtenAt 42 = .ok (.iload_n 1, 1) := by decide +kernel
theorem dX5_writtenAt_43 : decode cX5_writtenAt 43 = .ok (.iaload, 1) := by decide +kernel
theorem dX5_writtenAt_44 : decode cX5_writtenAt 44 = .ok (.ireturn, 1) := by decide +kernel
theorem dX5_isCount_0 : decode cX5_isCount 0 = .ok (.iload_n 0, 1) := by decide +kernel
theorem dX5_isCount_1 : decode cX5_isCount 1 = .ok (.iconst 1, 1) := by decide +kernel
theorem dX5_isCount_2 : decode cX5_isCount 2 = .ok (.if_icmp .lt 13, 3) := by decide +kernel
theorem dX5_isCount_5 : decode cX5_isCount 5 = .ok (.iload_n 0, 1) := by decide +kernel
theorem dX5_isCount_6 : decode cX5_isCount 6 = .ok (.bipush 10, 2) := by decide +kernel
theorem dX5_isCount_8 : decode cX5_isCount 8 = .ok (.if_icmp .gt 7, 3) := by decide +kernel
theorem dX5_isCount_11 : decode cX5_isCount 11 = .ok (.iconst 1, 1) := by decide +kernel
theorem dX5_isCount_12 : decode cX5_isCount 12 = .ok (.goto 4, 3) := by decide +kernel
theorem dX5_isCount_15 : decode cX5_isCount 15 = .ok (.iconst 0, 1) := by decide +kernel
theorem dX5_isCount_16 : decode cX5_isCount 16 = .ok (.ireturn, 1) := by decide +kernel
theorem dX5_isPart_0 : decode cX5_isPart 0 = .ok (.iload_n 0, 1) := by decide +kernel
theorem dX5_isPart_1 : decode cX5_isPart 1 = .ok (.ifCond .eq 8, 3) := by decide +kernel
theorem dX5_isPart_4 : decode cX5_isPart 4 = .ok (.iload_n 0, 1) := by decide +kernel
theorem dX5_isPart_5 : decode cX5_isPart 5 = .ok (.iconst 1, 1) := by decide +kernel
theorem dX5_isPart_6 : decode cX5_isPart 6 = .ok (.if_icmp .ne 7, 3) := by decide +kernel
theorem dX5_isPart_9 : decode cX5_isPart 9 = .ok (.iconst 1, 1) := by decide +kernel
theorem dX5_isPart_10 : decode cX5_isPart 10 = .ok (.goto 4, 3) := by decide +kernel
theorem dX5_isPart_13 : decode cX5_isPart 13 = .ok (.iconst 0, 1) := by decide +kernel
theorem dX5_isPart_14 : decode cX5_isPart 14 = .ok (.ireturn, 1) := by decide +kernel
theorem dX5_countOf_0 : decode cX5_countOf 0 = .ok (.iload_n 0, 1) := by decide +kernel
theorem dX5_countOf_1 : decode cX5_countOf 1 = .ok (.bipush 49, 2) := by decide +kernel
theorem dX5_countOf_3 : decode cX5_countOf 3 = .ok (.if_icmp .lt 14, 3) := by decide +kernel
theorem dX5_countOf_6 : decode cX5_countOf 6 = .ok (.iload_n 0, 1) := by decide +kernel
theorem dX5_countOf_7 : decode cX5_countOf 7 = .ok (.bipush 57, 2) := by decide +kernel
theorem dX5_countOf_9 : decode cX5_countOf 9 = .ok (.if_icmp .gt 8, 3) := by decide +kernel
theorem dX5_countOf_12 : decode cX5_countOf 12 = .ok (.iload_n 0, 1) := by decide +kernel
theorem dX5_countOf_13 : decode cX5_countOf 13 = .ok (.bipush 48, 2) := by decide +kernel
theorem dX5_countOf_15 : decode cX5_countOf 15 = .ok (.isub, 1) := by decide +kernel
theorem dX5_countOf_16 : decode cX5_countOf 16 = .ok (.ireturn, 1) := by decide +kernel
theorem dX5_countOf_17 : decode cX5_countOf 17 = .ok (.iload_n 0, 1) := by decide +kernel
theorem dX5_countOf_18 : decode cX5_countOf 18 = .ok (.bipush 65, 2) := by decide +kernel
theorem dX5_countOf_20 : decode cX5_countOf 20 = .ok (.if_icmp .ne 5, 3) := by decide +kernel
theorem dX5_countOf_23 : decode cX5_countOf 23 = .ok (.iconst 1, 1) := by decide +kernel
theorem dX5_countOf_24 : decode cX5_countOf 24 = .ok (.ireturn, 1) := by decide +kernel
theorem dX5_countOf_25 : decode cX5_countOf 25 = .ok (.iload_n 0, 1) := by decide +kernel
theorem dX5_countOf_26 : decode cX5_countOf 26 = .ok (.bipush 84, 2) := by decide +kernel
theorem dX5_countOf_28 : decode cX5_countOf 28 = .ok (.if_icmp .ne 6, 3) := by decide +kernel
theorem dX5_countOf_31 : decode cX5_countOf 31 = .ok (.bipush 10, 2) := by decide +kernel
theorem dX5_countOf_33 : decode cX5_countOf 33 = .ok (.ireturn, 1) := by decide +kernel
theorem dX5_countOf_34 : decode cX5_countOf 34 = .ok (.iload_n 0, 1) := by decide +kernel
theorem dX5_countOf_35 : decode cX5_countOf 35 = .ok (.bipush 74, 2) := by decide +kernel
theorem dX5_countOf_37 : decode cX5_countOf 37 = .ok (.if_icmp .eq 15, 3) := by decide +kernel
theorem dX5_countOf_40 : decode cX5_countOf 40 = .ok (.iload_n 0, 1) := by decide +kernel
theorem dX5_countOf_41 : decode cX5_countOf 41 = .ok (.bipush 81, 2) := by decide +kernel
theorem dX5_countOf_43 : decode cX5_countOf 43 = .ok (.if_icmp .eq 9, 3) := by decide +kernel
theorem dX5_countOf_46 : decode cX5_countOf 46 = .ok (.iload_n 0, 1) := by decide +kernel
theorem dX5_countOf_47 : decode cX5_countOf 47 = .ok (.bipush 75, 2) := by decide +kernel
theorem dX5_countOf_49 : decode cX5_countOf 49 = .ok (.if_icmp .ne 7, 3) := by decide +kernel
theorem dX5_countOf_52 : decode cX5_countOf 52 = .ok (.iload_n 1, 1) := by decide +kernel
theorem dX5_countOf_53 : decode cX5_countOf 53 = .ok (.goto 4, 3) := by decide +kernel
theorem dX5_countOf_56 : decode cX5_countOf 56 = .ok (.iconst 0, 1) := by decide +kernel
theorem dX5_countOf_57 : decode cX5_countOf 57 = .ok (.ireturn, 1) := by decide +kernel
theorem dX5_leastBit_0 : decode cX5_leastBit 0 = .ok (.lload_n 0, 1) := by decide +kernel
theorem dX5_leastBit_1 : decode cX5_leastBit 1 = .ok (.lload_n 0, 1) := by decide +kernel
theorem dX5_leastBit_2 : decode cX5_leastBit 2 = .ok (.lneg, 1) := by decide +kernel
theorem dX5_leastBit_3 : decode cX5_leastBit 3 = .ok (.land, 1) := by decide +kernel
theorem dX5_leastBit_4 : decode cX5_leastBit 4 = .ok (.lconst 1, 1) := by decide +kernel
theorem dX5_leastBit_5 : decode cX5_leastBit 5 = .ok (.lsub, 1) := by decide +kernel
theorem dX5_leastBit_6 : decode cX5_leastBit 6 = .ok (.invokestatic 129, 3) := by decide +kernel
theorem dX5_leastBit_9 : decode cX5_leastBit 9 = .ok (.ireturn, 1) := by decide +kernel
theorem dX5_bitAt_0 : decode cX5_bitAt 0 = .ok (.iconst 0, 1) := by decide +kernel
theorem dX5_bitAt_1 : decode cX5_bitAt 1 = .ok (.istore_n 3, 1) := by decide +kernel
theorem dX5_bitAt_2 : decode cX5_bitAt 2 = .ok (.iconst 0, 1) := by decide +kernel
theorem dX5_bitAt_3 : decode cX5_bitAt 3 = .ok (.istore 4, 2) := by decide +kernel
theorem dX5_bitAt_5 : decode cX5_bitAt 5 = .ok (.iload 4, 2) := by decide +kernel
theorem dX5_bitAt_7 : decode cX5_bitAt 7 = .ok (.bipush 40, 2) := by decide +kernel
theorem dX5_bitAt_9 : decode cX5_bitAt 9 = .ok (.if_icmp .ge 34, 3) := by decide +kernel
theorem dX5_bitAt_12 : decode cX5_bitAt 12 = .ok (.lload_n 0, 1) := by decide +kernel
theorem dX5_bitAt_13 : decode cX5_bitAt 13 = .ok (.iload 4, 2) := by decide +kernel
theorem dX5_bitAt_15 : decode cX5_bitAt 15 = .ok (.lushr, 1) := by decide +kernel
theorem dX5_bitAt_16 : decode cX5_bitAt 16 = .ok (.lconst 1, 1) := by decide +kernel
theorem dX5_bitAt_17 : decode cX5_bitAt 17 = .ok (.land, 1) := by decide +kernel
theorem dX5_bitAt_18 : decode cX5_bitAt 18 = .ok (.lconst 0, 1) := by decide +kernel
theorem dX5_bitAt_19 : decode cX5_bitAt 19 = .ok (.lcmp, 1) := by decide +kernel
theorem dX5_bitAt_20 : decode cX5_bitAt 20 = .ok (.ifCond .ne 6, 3) := by decide +kernel
theorem dX5_bitAt_23 : decode cX5_bitAt 23 = .ok (.goto 14, 3) := by decide +kernel
theorem dX5_bitAt_26 : decode cX5_bitAt 26 = .ok (.iload_n 3, 1) := by decide +kernel
theorem dX5_bitAt_27 : decode cX5_bitAt 27 = .ok (.iload_n 2, 1) := by decide +kernel
theorem dX5_bitAt_28 : decode cX5_bitAt 28 = .ok (.if_icmp .ne 6, 3) := by decide +kernel
theorem dX5_bitAt_31 : decode cX5_bitAt 31 = .ok (.iload 4, 2) := by decide +kernel
theorem dX5_bitAt_33 : decode cX5_bitAt 33 = .ok (.ireturn, 1) := by decide +kernel
theorem dX5_bitAt_34 : decode cX5_bitAt 34 = .ok (.iinc 3 1, 3) := by decide +kernel
theorem dX5_bitAt_37 : decode cX5_bitAt 37 = .ok (.iinc 4 1, 3) := by decide +kernel
theorem dX5_bitAt_40 : decode cX5_bitAt 40 = .ok (.goto (-35), 3) := by decide +kernel
theorem dX5_bitAt_43 : decode cX5_bitAt 43 = .ok (.bipush (-6), 2) := by decide +kernel
theorem dX5_bitAt_45 : decode cX5_bitAt 45 = .ok (.ireturn, 1) := by decide +kernel
theorem dX5_lowestTerms_0 : decode cX5_lowestTerms 0 = .ok (.lload_n 2, 1) := by decide +kernel
theorem dX5_lowestTerms_1 : decode cX5_lowestTerms 1 = .ok (.lstore 5, 2) := by decide +kernel
theorem dX5_lowestTerms_3 : decode cX5_lowestTerms 3 = .ok (.lload_n 0, 1) := by decide +kernel
theorem dX5_lowestTerms_4 : decode cX5_lowestTerms 4 = .ok (.lstore 7, 2) := by decide +kernel
theorem dX5_lowestTerms_6 : decode cX5_lowestTerms 6 = .ok (.iconst 0, 1) := by decide +kernel
theorem dX5_lowestTerms_7 : decode cX5_lowestTerms 7 = .ok (.istore 9, 2) := by decide +kernel
theorem dX5_lowestTerms_9 : decode cX5_lowestTerms 9 = .ok (.iload 9, 2) := by decide +kernel
theorem dX5_lowestTerms_11 : decode cX5_lowestTerms 11 = .ok (.bipush 100, 2) := by decide +kernel
theorem dX5_lowestTerms_13 : decode cX5_lowestTerms 13 = .ok (.if_icmp .ge 31, 3) := by decide +kernel
theorem dX5_lowestTerms_16 : decode cX5_lowestTerms 16 = .ok (.lload 7, 2) := by decide +kernel
theorem dX5_lowestTerms_18 : decode cX5_lowestTerms 18 = .ok (.lconst 0, 1) := by decide +kernel
theorem dX5_lowestTerms_19 : decode cX5_lowestTerms 19 = .ok (.lcmp, 1) := by decide +kernel
theorem dX5_lowestTerms_20 : decode cX5_lowestTerms 20 = .ok (.ifCond .eq 24, 3) := by decide +kernel
theorem dX5_lowestTerms_23 : decode cX5_lowestTerms 23 = .ok (.lload 5, 2) := by decide +kernel
theorem dX5_lowestTerms_25 : decode cX5_lowestTerms 25 = .ok (.lload 7, 2) := by decide +kernel
theorem dX5_lowestTerms_27 : decode cX5_lowestTerms 27 = .ok (.lrem, 1) := by decide +kernel
theorem dX5_lowestTerms_28 : decode cX5_lowestTerms 28 = .ok (.lstore 10, 2) := by decide +kernel
theorem dX5_lowestTerms_30 : decode cX5_lowestTerms 30 = .ok (.lload 7, 2) := by decide +kernel
theorem dX5_lowestTerms_32 : decode cX5_lowestTerms 32 = .ok (.lstore 5, 2) := by decide +kernel
theorem dX5_lowestTerms_34 : decode cX5_lowestTerms 34 = .ok (.lload 10, 2) := by decide +kernel
theorem dX5_lowestTerms_36 : decode cX5_lowestTerms 36 = .ok (.lstore 7, 2) := by decide +kernel
theorem dX5_lowestTerms_38 : decode cX5_lowestTerms 38 = .ok (.iinc 9 1, 3) := by decide +kernel
theorem dX5_lowestTerms_41 : decode cX5_lowestTerms 41 = .ok (.goto (-32), 3) := by decide +kernel
theorem dX5_lowestTerms_44 : decode cX5_lowestTerms 44 = .ok (.iload 4, 2) := by decide +kernel
theorem dX5_lowestTerms_46 : decode cX5_lowestTerms 46 = .ok (.ifCond .ne 7, 3) := by decide +kernel
theorem dX5_lowestTerms_49 : decode cX5_lowestTerms 49 = .ok (.lload_n 0, 1) := by decide +kernel
theorem dX5_lowestTerms_50 : decode cX5_lowestTerms 50 = .ok (.goto 4, 3) := by decide +kernel
theorem dX5_lowestTerms_53 : decode cX5_lowestTerms 53 = .ok (.lload_n 2, 1) := by decide +kernel
theorem dX5_lowestTerms_54 : decode cX5_lowestTerms 54 = .ok (.lstore 9, 2) := by decide +kernel
theorem dX5_lowestTerms_56 : decode cX5_lowestTerms 56 = .ok (.lload 5, 2) := by decide +kernel
theorem dX5_lowestTerms_58 : decode cX5_lowestTerms 58 = .ok (.lconst 0, 1) := by decide +kernel
theorem dX5_lowestTerms_59 : decode cX5_lowestTerms 59 = .ok (.lcmp, 1) := by decide +kernel
theorem dX5_lowestTerms_60 : decode cX5_lowestTerms 60 = .ok (.ifCond .ne 8, 3) := by decide +kernel
theorem dX5_lowestTerms_63 : decode cX5_lowestTerms 63 = .ok (.lload 9, 2) := by decide +kernel
theorem dX5_lowestTerms_65 : decode cX5_lowestTerms 65 = .ok (.goto 8, 3) := by decide +kernel
theorem dX5_lowestTerms_68 : decode cX5_lowestTerms 68 = .ok (.lload 9, 2) := by decide +kernel
theorem dX5_lowestTerms_70 : decode cX5_lowestTerms 70 = .ok (.lload 5, 2) := by decide +kernel
theorem dX5_lowestTerms_72 : decode cX5_lowestTerms 72 = .ok (.ldiv, 1) := by decide +kernel
theorem dX5_lowestTerms_73 : decode cX5_lowestTerms 73 = .ok (.lreturn, 1) := by decide +kernel
theorem dX5_mix_0 : decode cX5_mix 0 = .ok (.iload_n 2, 1) := by decide +kernel
theorem dX5_mix_1 : decode cX5_mix 1 = .ok (.istore_n 3, 1) := by decide +kernel
theorem dX5_mix_2 : decode cX5_mix 2 = .ok (.iload_n 1, 1) := by decide +kernel
theorem dX5_mix_3 : decode cX5_mix 3 = .ok (.iconst 1, 1) := by decide +kernel
theorem dX5_mix_4 : decode cX5_mix 4 = .ok (.isub, 1) := by decide +kernel
theorem dX5_mix_5 : decode cX5_mix 5 = .ok (.istore 4, 2) := by decide +kernel
theorem dX5_mix_7 : decode cX5_mix 7 = .ok (.iload 4, 2) := by decide +kernel
theorem dX5_mix_9 : decode cX5_mix 9 = .ok (.iconst 1, 1) := by decide +kernel
theorem dX5_mix_10 : decode cX5_mix 10 = .ok (.if_icmp .lt 48, 3) := by decide +kernel
theorem dX5_mix_13 : decode cX5_mix 13 = .ok (.iload_n 3, 1) := by decide +kernel
theorem dX5_mix_14 : decode cX5_mix 14 = .ok (.bipush 75, 2) := by decide +kernel
theorem dX5_mix_16 : decode cX5_mix 16 = .ok (.imul, 1) := by decide +kernel
theorem dX5_mix_17 : decode cX5_mix 17 = .ok (.bipush 74, 2) := by decide +kernel
theorem dX5_mix_19 : decode cX5_mix 19 = .ok (.iadd, 1) := by decide +kernel
theorem dX5_mix_20 : decode cX5_mix 20 = .ok (.ldc 240, 2) := by decide +kernel
theorem dX5_mix_22 : decode cX5_mix 22 = .ok (.irem, 1) := by decide +kernel
theorem dX5_mix_23 : decode cX5_mix 23 = .ok (.istore_n 3, 1) := by decide +kernel
theorem dX5_mix_24 : decode cX5_mix 24 = .ok (.iload_n 3, 1) := by decide +kernel
theorem dX5_mix_25 : decode cX5_mix 25 = .ok (.iload 4, 2) := by decide +kernel
theorem dX5_mix_27 : decode cX5_mix 27 = .ok (.iconst 1, 1) := by decide +kernel
theorem dX5_mix_28 : decode cX5_mix 28 = .ok (.iadd, 1) := by decide +kernel
theorem dX5_mix_29 : decode cX5_mix 29 = .ok (.irem, 1) := by decide +kernel
theorem dX5_mix_30 : decode cX5_mix 30 = .ok (.istore 5, 2) := by decide +kernel
theorem dX5_mix_32 : decode cX5_mix 32 = .ok (.aload_n 0, 1) := by decide +kernel
theorem dX5_mix_33 : decode cX5_mix 33 = .ok (.iload 4, 2) := by decide +kernel
theorem dX5_mix_35 : decode cX5_mix 35 = .ok (.caload, 1) := by decide +kernel
theorem dX5_mix_36 : decode cX5_mix 36 = .ok (.istore 6, 2) := by decide +kernel
theorem dX5_mix_38 : decode cX5_mix 38 = .ok (.aload_n 0, 1) := by decide +kernel
theorem dX5_mix_39 : decode cX5_mix 39 = .ok (.iload 4, 2) := by decide +kernel
theorem dX5_mix_41 : decode cX5_mix 41 = .ok (.aload_n 0, 1) := by decide +kernel
theorem dX5_mix_42 : decode cX5_mix 42 = .ok (.iload 5, 2) := by decide +kernel
theorem dX5_mix_44 : decode cX5_mix 44 = .ok (.caload, 1) := by decide +kernel
theorem dX5_mix_45 : decode cX5_mix 45 = .ok (.castore, 1) := by decide +kernel
theorem dX5_mix_46 : decode cX5_mix 46 = .ok (.aload_n 0, 1) := by decide +kernel
theorem dX5_mix_47 : decode cX5_mix 47 = .ok (.iload 5, 2) := by decide +kernel
theorem dX5_mix_49 : decode cX5_mix 49 = .ok (.iload 6, 2) := by decide +kernel
theorem dX5_mix_51 : decode cX5_mix 51 = .ok (.castore, 1) := by decide +kernel
theorem dX5_mix_52 : decode cX5_mix 52 = .ok (.iinc 4 (-1), 3) := by decide +kernel
theorem dX5_mix_55 : decode cX5_mix 55 = .ok (.goto (-48), 3) := by decide +kernel
theorem dX5_mix_58 : decode cX5_mix 58 = .ok (.return_, 1) := by decide +kernel
