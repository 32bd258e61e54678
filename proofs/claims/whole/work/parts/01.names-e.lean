theorem dX3_init_0 : decode cX3_init 0 = .ok (.aload_n 0, 1) := by decide +kernel
theorem dX3_init_1 : decode cX3_init 1 = .ok (.invokespecial 1, 3) := by decide +kernel
theorem dX3_init_4 : decode cX3_init 4 = .ok (.aload_n 0, 1) := by decide +kernel
theorem dX3_init_5 : decode cX3_init 5 = .ok (.sipush 4416, 3) := by decide +kernel
theorem dX3_init_8 : decode cX3_init 8 = .ok (.newarray .int, 2) := by decide +kernel
theorem dX3_init_10 : decode cX3_init 10 = .ok (.putfield 7, 3) := by decide +kernel
theorem dX3_init_13 : decode cX3_init 13 = .ok (.aload_n 0, 1) := by decide +kernel
theorem dX3_init_14 : decode cX3_init 14 = .ok (.sipush 4416, 3) := by decide +kernel
theorem dX3_init_17 : decode cX3_init 17 = .ok (.newarray .int, 2) := by decide +kernel
theorem dX3_init_19 : decode cX3_init 19 = .ok (.putfield 13, 3) := by decide +kernel
theorem dX3_init_22 : decode cX3_init 22 = .ok (.aload_n 0, 1) := by decide +kernel
theorem dX3_init_23 : decode cX3_init 23 = .ok (.sipush 17664, 3) := by decide +kernel
theorem dX3_init_26 : decode cX3_init 26 = .ok (.newarray .int, 2) := by decide +kernel
theorem dX3_init_28 : decode cX3_init 28 = .ok (.putfield 16, 3) := by decide +kernel
theorem dX3_init_31 : decode cX3_init 31 = .ok (.aload_n 0, 1) := by decide +kernel
theorem dX3_init_32 : decode cX3_init 32 = .ok (.iconst 4, 1) := by decide +kernel
theorem dX3_init_33 : decode cX3_init 33 = .ok (.newarray .int, 2) := by decide +kernel
theorem dX3_init_35 : decode cX3_init 35 = .ok (.putfield 19, 3) := by decide +kernel
theorem dX3_init_38 : decode cX3_init 38 = .ok (.aload_n 0, 1) := by decide +kernel
theorem dX3_init_39 : decode cX3_init 39 = .ok (.getfield 7, 3) := by decide +kernel
theorem dX3_init_42 : decode cX3_init 42 = .ok (.iconst 0, 1) := by decide +kernel
theorem dX3_init_43 : decode cX3_init 43 = .ok (.sipush 1000, 3) := by decide +kernel
theorem dX3_init_46 : decode cX3_init 46 = .ok (.iastore, 1) := by decide +kernel
theorem dX3_init_47 : decode cX3_init 47 = .ok (.aload_n 0, 1) := by decide +kernel
theorem dX3_init_48 : decode cX3_init 48 = .ok (.getfield 7, 3) := by decide +kernel
theorem dX3_init_51 : decode cX3_init 51 = .ok (.iconst 1, 1) := by decide +kernel
theorem dX3_init_52 : decode cX3_init 52 = .ok (.bipush 9, 2) := by decide +kernel
theorem dX3_init_54 : decode cX3_init 54 = .ok (.iastore, 1) := by decide +kernel
theorem dX3_init_55 : decode cX3_init 55 = .ok (.aload_n 0, 1) := by decide +kernel
theorem dX3_init_56 : decode cX3_init 56 = .ok (.getfield 7, 3) := by decide +kernel
theorem dX3_init_59 : decode cX3_init 59 = .ok (.iconst 2, 1) := by decide +kernel
theorem dX3_init_60 : decode cX3_init 60 = .ok (.bipush 25, 2) := by decide +kernel
theorem dX3_init_62 : decode cX3_init 62 = .ok (.iastore, 1) := by decide +kernel
theorem dX3_init_63 : decode cX3_init 63 = .ok (.aload_n 0, 1) := by decide +kernel
theorem dX3_init_64 : decode cX3_init 64 = .ok (.getfield 7, 3) := by decide +kernel
theorem dX3_init_67 : decode cX3_init 67 = .ok (.iconst 3, 1) := by decide +kernel
theorem dX3_init_68 : decode cX3_init 68 = .ok (.sipush 400, 3) := by decide +kernel
theorem dX3_init_71 : decode cX3_init 71 = .ok (.iastore, 1) := by decide +kernel
theorem dX3_init_72 : decode cX3_init 72 = .ok (.aload_n 0, 1) := by decide +kernel
theorem dX3_init_73 : decode cX3_init 73 = .ok (.getfield 7, 3) := by decide +kernel
theorem dX3_init_76 : decode cX3_init 76 = .ok (.iconst 4, 1) := by decide +kernel
theorem dX3_init_77 : decode cX3_init 77 = .ok (.sipush 1200, 3) := by decide +kernel
theorem dX3_init_80 : decode cX3_init 80 = .ok (.iastore, 1) := by decide +kernel
theorem dX3_init_81 : decode cX3_init 81 = .ok (.aload_n 0, 1) := by decide +kernel
theorem dX3_init_82 : decode cX3_init 82 = .ok (.getfield 7, 3) := by decide +kernel
theorem dX3_init_85 : decode cX3_init 85 = .ok (.bipush 6, 2) := by decide +kernel
theorem dX3_init_87 : decode cX3_init 87 = .ok (.sipush 2000, 3) := by decide +kernel
theorem dX3_init_90 : decode cX3_init 90 = .ok (.iastore, 1) := by decide +kernel
theorem dX3_init_91 : decode cX3_init 91 = .ok (.aload_n 0, 1) := by decide +kernel
theorem dX3_init_92 : decode cX3_init 92 = .ok (.getfield 7, 3) := by decide +kernel
theorem dX3_init_95 : decode cX3_init 95 = .ok (.bipush 7, 2) := by decide +kernel
theorem dX3_init_97 : decode cX3_init 97 = .ok (.sipush 8000, 3) := by decide +kernel
theorem dX3_init_100 : decode cX3_init 100 = .ok (.iastore, 1) := by decide +kernel
theorem dX3_init_101 : decode cX3_init 101 = .ok (.aload_n 0, 1) := by decide +kernel
theorem dX3_init_102 : decode cX3_init 102 = .ok (.invokevirtual 22, 3) := by decide +kernel
theorem dX3_init_105 : decode cX3_init 105 = .ok (.return_, 1) := by decide +kernel
theorem dX3_in_0 : decode cX3_in 0 = .ok (.iload_n 0, 1) := by decide +kernel
theorem dX3_in_1 : decode cX3_in 1 = .ok (.iload_n 1, 1) := by decide +kernel
theorem dX3_in_2 : decode cX3_in 2 = .ok (.if_icmp .lt 12, 3) := by decide +kernel
theorem dX3_in_5 : decode cX3_in 5 = .ok (.iload_n 0, 1) := by decide +kernel
theorem dX3_in_6 : decode cX3_in 6 = .ok (.iload_n 2, 1) := by decide +kernel
theorem dX3_in_7 : decode cX3_in 7 = .ok (.if_icmp .gt 7, 3) := by decide +kernel
theorem dX3_in_10 : decode cX3_in 10 = .ok (.iconst 1, 1) := by decide +kernel
theorem dX3_in_11 : decode cX3_in 11 = .ok (.goto 4, 3) := by decide +kernel
theorem dX3_in_14 : decode cX3_in 14 = .ok (.iconst 0, 1) := by decide +kernel
theorem dX3_in_15 : decode cX3_in 15 = .ok (.ireturn, 1) := by decide +kernel
theorem dX3_error_0 : decode cX3_error 0 = .ok (.aload_n 0, 1) := by decide +kernel
theorem dX3_error_1 : decode cX3_error 1 = .ok (.getfield 19, 3) := by decide +kernel
theorem dX3_error_4 : decode cX3_error 4 = .ok (.bipush (-2), 2) := by decide +kernel
theorem dX3_error_6 : decode cX3_error 6 = .ok (.iload_n 1, 1) := by decide +kernel
theorem dX3_error_7 : decode cX3_error 7 = .ok (.isub, 1) := by decide +kernel
theorem dX3_error_8 : decode cX3_error 8 = .ok (.dup2, 1) := by decide +kernel
theorem dX3_error_9 : decode cX3_error 9 = .ok (.iaload, 1) := by decide +kernel
theorem dX3_error_10 : decode cX3_error 10 = .ok (.iconst 1, 1) := by decide +kernel
theorem dX3_error_11 : decode cX3_error 11 = .ok (.iadd, 1) := by decide +kernel
theorem dX3_error_12 : decode cX3_error 12 = .ok (.iastore, 1) := by decide +kernel
theorem dX3_error_13 : decode cX3_error 13 = .ok (.iload_n 1, 1) := by decide +kernel
theorem dX3_error_14 : decode cX3_error 14 = .ok (.ireturn, 1) := by decide +kernel
theorem dX3_copy_0 : decode cX3_copy 0 = .ok (.iconst 0, 1) := by decide +kernel
theorem dX3_copy_1 : decode cX3_copy 1 = .ok (.istore 4, 2) := by decide +kernel
theorem dX3_copy_3 : decode cX3_copy 3 = .ok (.iload 4, 2) := by decide +kernel
theorem dX3_copy_5 : decode cX3_copy 5 = .ok (.bipush 16, 2) := by decide +kernel
theorem dX3_copy_7 : decode cX3_copy 7 = .ok (.if_icmp .ge 21, 3) := by decide +kernel
theorem dX3_copy_10 : decode cX3_copy 10 = .ok (.aload_n 2, 1) := by decide +kernel
theorem dX3_copy_11 : decode cX3_copy 11 = .ok (.iload_n 3, 1) := by decide +kernel
theorem dX3_copy_12 : decode cX3_copy 12 = .ok (.iload 4, 2) := by decide +kernel
theorem dX3_copy_14 : decode cX3_copy 14 = .ok (.iadd, 1) := by decide +kernel
theorem dX3_copy_15 : decode cX3_copy 15 = .ok (.aload_n 0, 1) := by decide +kernel
theorem dX3_copy_16 : decode cX3_copy 16 = .ok (.iload_n 1, 1) := by decide +kernel
theorem dX3_copy_17 : decode cX3_copy 17 = .ok (.iload 4, 2) := by decide +kernel
theorem dX3_copy_19 : decode cX3_copy 19 = .ok (.iadd, 1) := by decide +kernel
theorem dX3_copy_20 : decode cX3_copy 20 = .ok (.iaload, 1) := by decide +kernel
theorem dX3_copy_21 : decode cX3_copy 21 = .ok (.iastore, 1) := by decide +kernel
theorem dX3_copy_22 : decode cX3_copy 22 = .ok (.iinc 4 1, 3) := by decide +kernel
theorem dX3_copy_25 : decode cX3_copy 25 = .ok (.goto (-22), 3) := by decide +kernel
theorem dX3_copy_28 : decode cX3_copy 28 = .ok (.iconst 0, 1) := by decide +kernel
theorem dX3_copy_29 : decode cX3_copy 29 = .ok (.istore 4, 2) := by decide +kernel
theorem dX3_copy_31 : decode cX3_copy 31 = .ok (.iload 4, 2) := by decide +kernel
theorem dX3_copy_33 : decode cX3_copy 33 = .ok (.iconst 2, 1) := by decide +kernel
theorem dX3_copy_34 : decode cX3_copy 34 = .ok (.if_icmp .ge 87, 3) := by decide +kernel
theorem dX3_copy_37 : decode cX3_copy 37 = .ok (.bipush 16, 2) := by decide +kernel
theorem dX3_copy_39 : decode cX3_copy 39 = .ok (.sipush 2200, 3) := by decide +kernel
theorem dX3_copy_42 : decode cX3_copy 42 = .ok (.iload 4, 2) := by decide +kernel
theorem dX3_copy_44 : decode cX3_copy 44 = .ok (.imul, 1) := by decide +kernel
theorem dX3_copy_45 : decode cX3_copy 45 = .ok (.iadd, 1) := by decide +kernel
theorem dX3_copy_46 : decode cX3_copy 46 = .ok (.istore 5, 2) := by decide +kernel
theorem dX3_copy_48 : decode cX3_copy 48 = .ok (.iconst 0, 1) := by decide +kernel
theorem dX3_copy_49 : decode cX3_copy 49 = .ok (.istore 6, 2) := by decide +kernel
theorem dX3_copy_51 : decode cX3_copy 51 = .ok (.iload 6, 2) := by decide +kernel
theorem dX3_copy_53 : decode cX3_copy 53 = .ok (.aload_n 0, 1) := by decide +kernel
theorem dX3_copy_54 : decode cX3_copy 54 = .ok (.iload_n 1, 1) := by decide +kernel
theorem dX3_copy_55 : decode cX3_copy 55 = .ok (.bipush 11, 2) := by decide +kernel
theorem dX3_copy_57 : decode cX3_copy 57 = .ok (.iadd, 1) := by decide +kernel
theorem dX3_copy_58 : decode cX3_copy 58 = .ok (.iload 4, 2) := by decide +kernel
theorem dX3_copy_60 : decode cX3_copy 60 = .ok (.iadd, 1) := by decide +kernel
theorem dX3_copy_61 : decode cX3_copy 61 = .ok (.iaload, 1) := by decide +kernel
theorem dX3_copy_62 : decode cX3_copy 62 = .ok (.if_icmp .ge 53, 3) := by decide +kernel
theorem dX3_copy_65 : decode cX3_copy 65 = .ok (.aload_n 2, 1) := by decide +kernel
theorem dX3_copy_66 : decode cX3_copy 66 = .ok (.iload_n 3, 1) := by decide +kernel
theorem dX3_copy_67 : decode cX3_copy 67 = .ok (.iload 5, 2) := by decide +kernel
theorem dX3_copy_69 : decode cX3_copy 69 = .ok (.iadd, 1) := by decide +kernel
theorem dX3_copy_70 : decode cX3_copy 70 = .ok (.iload 6, 2) := by decide +kernel
theorem dX3_copy_72 : decode cX3_copy 72 = .ok (.iadd, 1) := by decide +kernel
theorem dX3_copy_73 : decode cX3_copy 73 = .ok (.aload_n 0, 1) := by decide +kernel
theorem dX3_copy_74 : decode cX3_copy 74 = .ok (.iload_n 1, 1) := by decide +kernel
theorem dX3_copy_75 : decode cX3_copy 75 = .ok (.iload 5, 2) := by decide +kernel
theorem dX3_copy_77 : decode cX3_copy 77 = .ok (.iadd, 1) := by decide +kernel
theorem dX3_copy_78 : decode cX3_copy 78 = .ok (.iload 6, 2) := by decide +kernel
theorem dX3_copy_80 : decode cX3_copy 80 = .ok (.iadd, 1) := by decide +kernel
theorem dX3_copy_81 : decode cX3_copy 81 = .ok (.iaload, 1) := by decide +kernel
theorem dX3_copy_82 : decode cX3_copy 82 = .ok (.iastore, 1) := by decide +kernel
theorem dX3_copy_83 : decode cX3_copy 83 = .ok (.aload_n 2, 1) := by decide +kernel
theorem dX3_copy_84 : decode cX3_copy 84 = .ok (.iload_n 3, 1) := by decide +kernel
theorem dX3_copy_85 : decode cX3_copy 85 = .ok (.iload 5, 2) := by decide +kernel
theorem dX3_copy_87 : decode cX3_copy 87 = .ok (.iadd, 1) := by decide +kernel
theorem dX3_copy_88 : decode cX3_copy 88 = .ok (.sipush 1100, 3) := by decide +kernel
theorem dX3_copy_91 : decode cX3_copy 91 = .ok (.iadd, 1) := by decide +kernel
theorem dX3_copy_92 : decode cX3_copy 92 = .ok (.iload 6, 2) := by decide +kernel
theorem dX3_copy_94 : decode cX3_copy 94 = .ok (.iadd, 1) := by decide +kernel
theorem dX3_copy_95 : decode cX3_copy 95 = .ok (.aload_n 0, 1) := by decide +kernel
theorem dX3_copy_96 : decode cX3_copy 96 = .ok (.iload_n 1, 1) := by decide +kernel
theorem dX3_copy_97 : decode cX3_copy 97 = .ok (.iload 5, 2) := by decide +kernel
theorem dX3_copy_99 : decode cX3_copy 99 = .ok (.iadd, 1) := by decide +kernel
theorem dX3_copy_100 : decode cX3_copy 100 = .ok (.sipush 1100, 3) := by decide +kernel
theorem dX3_copy_103 : decode cX3_copy 103 = .ok (.iadd, 1) := by decide +kernel
theorem dX3_copy_104 : decode cX3_copy 104 = .ok (.iload 6, 2) := by decide +kernel
theorem dX3_copy_106 : decode cX3_copy 106 = .ok (.iadd, 1) := by decide +kernel
theorem dX3_copy_107 : decode cX3_copy 107 = .ok (.iaload, 1) := by decide +kernel
theorem dX3_copy_108 : decode cX3_copy 108 = .ok (.iastore, 1) := by decide +kernel
theorem dX3_copy_109 : decode cX3_copy 109 = .ok (.iinc 6 1, 3) := by decide +kernel
theorem dX3_copy_112 : decode cX3_copy 112 = .ok (.goto (-61), 3) := by decide +kernel
theorem dX3_copy_115 : decode cX3_copy 115 = .ok (.iinc 4 1, 3) := by decide +kernel
theorem dX3_copy_118 : decode cX3_copy 118 = .ok (.goto (-87), 3) := by decide +kernel
theorem dX3_copy_121 : decode cX3_copy 121 = .ok (.return_, 1) := by decide +kernel
theorem dX3_save_0 : decode cX3_save 0 = .ok (.aload_n 0, 1) := by decide +kernel
theorem dX3_save_1 : decode cX3_save 1 = .ok (.getfield 25, 3) := by decide +kernel
theorem dX3_save_4 : decode cX3_save 4 = .ok (.iconst 4, 1) := by decide +kernel
theorem dX3_save_5 : decode cX3_save 5 = .ok (.if_icmp .ne 49, 3) := by decide +kernel
theorem dX3_save_8 : decode cX3_save 8 = .ok (.iconst 1, 1) := by decide +kernel
theorem dX3_save_9 : decode cX3_save 9 = .ok (.istore_n 1, 1) := by decide +kernel
theorem dX3_save_10 : decode cX3_save 10 = .ok (.iload_n 1, 1) := by decide +kernel
theorem dX3_save_11 : decode cX3_save 11 = .ok (.iconst 4, 1) := by decide +kernel
theorem dX3_save_12 : decode cX3_save 12 = .ok (.if_icmp .ge 32, 3) := by decide +kernel
theorem dX3_save_15 : decode cX3_save 15 = .ok (.aload_n 0, 1) := by decide +kernel
theorem dX3_save_16 : decode cX3_save 16 = .ok (.getfield 16, 3) := by decide +kernel
theorem dX3_save_19 : decode cX3_save 19 = .ok (.sipush 4416, 3) := by decide +kernel
theorem dX3_save_22 : decode cX3_save 22 = .ok (.iload_n 1, 1) := by decide +kernel
theorem dX3_save_23 : decode cX3_save 23 = .ok (.imul, 1) := by decide +kernel
theorem dX3_save_24 : decode cX3_save 24 = .ok (.aload_n 0, 1) := by decide +kernel
theorem dX3_save_25 : decode cX3_save 25 = .ok (.getfield 16, 3) := by decide +kernel
theorem dX3_save_28 : decode cX3_save 28 = .ok (.sipush 4416, 3) := by decide +kernel
theorem dX3_save_31 : decode cX3_save 31 = .ok (.iload_n 1, 1) := by decide +kernel
theorem dX3_save_32 : decode cX3_save 32 = .ok (.iconst 1, 1) := by decide +kernel
theorem dX3_save_33 : decode cX3_save 33 = .ok (.isub, 1) := by decide +kernel
theorem dX3_save_34 : decode cX3_save 34 = .ok (.imul, 1) := by decide +kernel
theorem dX3_save_35 : decode cX3_save 35 = .ok (.invokestatic 29, 3) := by decide +kernel
theorem dX3_save_38 : decode cX3_save 38 = .ok (.iinc 1 1, 3) := by decide +kernel
theorem dX3_save_41 : decode cX3_save 41 = .ok (.goto (-31), 3) := by decide +kernel
theorem dX3_save_44 : decode cX3_save 44 = .ok (.aload_n 0, 1) := by decide +kernel
theorem dX3_save_45 : decode cX3_save 45 = .ok (.dup, 1) := by decide +kernel
theorem dX3_save_46 : decode cX3_save 46 = .ok (.getfield 25, 3) := by decide +kernel
theorem dX3_save_49 : decode cX3_save 49 = .ok (.iconst 1, 1) := by decide +kernel
theorem dX3_save_50 : decode cX3_save 50 = .ok (.isub, 1) := by decide +kernel
theorem dX3_save_51 : decode cX3_save 51 = .ok (.putfield 25, 3) := by decide +kernel
theorem dX3_save_54 : decode cX3_save 54 = .ok (.aload_n 0, 1) := by decide +kernel
theorem dX3_save_55 : decode cX3_save 55 = .ok (.getfield 7, 3) := by decide +kernel
theorem dX3_save_58 : decode cX3_save 58 = .ok (.iconst 0, 1) := by decide +kernel
theorem dX3_save_59 : decode cX3_save 59 = .ok (.aload_n 0, 1) := by decide +kernel
theorem dX3_save_60 : decode cX3_save 60 = .ok (.getfield 16, 3) := by decide +kernel
theorem dX3_save_63 : decode cX3_save 63 = .ok (.sipush 4416, 3) := by decide +kernel
theorem dX3_save_66 : decode cX3_save 66 = .ok (.aload_n 0, 1) := by decide +kernel
theorem dX3_save_67 : decode cX3_save 67 = .ok (.getfield 25, 3) := by decide +kernel
theorem dX3_save_70 : decode cX3_save 70 = .ok (.imul, 1) := by decide +kernel
theorem dX3_save_71 : decode cX3_save 71 = .ok (.invokestatic 29, 3) := by decide +kernel
theorem dX3_save_74 : decode cX3_save 74 = .ok (.aload_n 0, 1) := by decide +kernel
theorem dX3_save_75 : decode cX3_save 75 = .ok (.dup, 1) := by decide +kernel
theorem dX3_save_76 : decode cX3_save 76 = .ok (.getfield 25, 3) := by decide +kernel
theorem dX3_save_79 : decode cX3_save 79 = .ok (.iconst 1, 1) := by decide +kernel
theorem dX3_save_80 : decode cX3_save 80 = .ok (.iadd, 1) := by decide +kernel
theorem dX3_save_81 : decode cX3_save 81 = .ok (.putfield 25, 3) := by decide +kernel
theorem dX3_save_84 : decode cX3_save 84 = .ok (.return_, 1) := by decide +kernel
theorem dX3_volumeAt_0 : decode cX3_volumeAt 0 = .ok (.bipush 16, 2) := by decide +kernel
theorem dX3_volumeAt_2 : decode cX3_volumeAt 2 = .ok (.sipush 2200, 3) := by decide +kernel
theorem dX3_volumeAt_5 : decode cX3_volumeAt 5 = .ok (.iload_n 0, 1) := by decide +kernel
theorem dX3_volumeAt_6 : decode cX3_volumeAt 6 = .ok (.imul, 1) := by decide +kernel
theorem dX3_volumeAt_7 : decode cX3_volumeAt 7 = .ok (.iadd, 1) := by decide +kernel
theorem dX3_volumeAt_8 : decode cX3_volumeAt 8 = .ok (.iload_n 1, 1) := by decide +kernel
theorem dX3_volumeAt_9 : decode cX3_volumeAt 9 = .ok (.iadd, 1) := by decide +kernel
theorem dX3_volumeAt_10 : decode cX3_volumeAt 10 = .ok (.ireturn, 1) := by decide +kernel
theorem dX3_densityAt_0 : decode cX3_densityAt 0 = .ok (.iload_n 0, 1) := by decide +kernel
theorem dX3_densityAt_1 : decode cX3_densityAt 1 = .ok (.iload_n 1, 1) := by decide +kernel
theorem dX3_densityAt_2 : decode cX3_densityAt 2 = .ok (.invokestatic 33, 3) := by decide +kernel
theorem dX3_densityAt_5 : decode cX3_densityAt 5 = .ok (.sipush 1100, 3) := by decide +kernel
theorem dX3_densityAt_8 : decode cX3_densityAt 8 = .ok (.iadd, 1) := by decide +kernel
theorem dX3_densityAt_9 : decode cX3_densityAt 9 = .ok (.ireturn, 1) := by decide +kernel
theorem dX3_volumeOf_0 : decode cX3_volumeOf 0 = .ok (.aload_n 0, 1) := by decide +kernel
theorem dX3_volumeOf_1 : decode cX3_volumeOf 1 = .ok (.getfield 7, 3) := by decide +kernel
theorem dX3_volumeOf_4 : decode cX3_volumeOf 4 = .ok (.iconst 0, 1) := by decide +kernel
theorem dX3_volumeOf_5 : decode cX3_volumeOf 5 = .ok (.iaload, 1) := by decide +kernel
theorem dX3_volumeOf_6 : decode cX3_volumeOf 6 = .ok (.aload_n 0, 1) := by decide +kernel
theorem dX3_volumeOf_7 : decode cX3_volumeOf 7 = .ok (.getfield 7, 3) := by decide +kernel
theorem dX3_volumeOf_10 : decode cX3_volumeOf 10 = .ok (.iconst 1, 1) := by decide +kernel
theorem dX3_volumeOf_11 : decode cX3_volumeOf 11 = .ok (.iload_n 1, 1) := by decide +kernel
theorem dX3_volumeOf_12 : decode cX3_volumeOf 12 = .ok (.iadd, 1) := by decide +kernel
theorem dX3_volumeOf_13 : decode cX3_volumeOf 13 = .ok (.iaload, 1) := by decide +kernel
theorem dX3_volumeOf_14 : decode cX3_volumeOf 14 = .ok (.imul, 1) := by decide +kernel
theorem dX3_volumeOf_15 : decode cX3_volumeOf 15 = .ok (.ireturn, 1) := by decide +kernel
theorem dX3_fill_0 : decode cX3_fill 0 = .ok (.iconst 0, 1) := by decide +kernel
theorem dX3_fill_1 : decode cX3_fill 1 = .ok (.istore_n 1, 1) := by decide +kernel
theorem dX3_fill_2 : decode cX3_fill 2 = .ok (.iload_n 1, 1) := by decide +kernel
theorem dX3_fill_3 : decode cX3_fill 3 = .ok (.iconst 2, 1) := by decide +kernel
theorem dX3_fill_4 : decode cX3_fill 4 = .ok (.if_icmp .ge 50, 3) := by decide +kernel
theorem dX3_fill_7 : decode cX3_fill 7 = .ok (.aload_n 0, 1) := by decide +kernel
theorem dX3_fill_8 : decode cX3_fill 8 = .ok (.getfield 7, 3) := by decide +kernel
theorem dX3_fill_11 : decode cX3_fill 11 = .ok (.bipush 11, 2) := by decide +kernel
theorem dX3_fill_13 : decode cX3_fill 13 = .ok (.iload_n 1, 1) := by decide +kernel
theorem dX3_fill_14 : decode cX3_fill 14 = .ok (.iadd, 1) := by decide +kernel
theorem dX3_fill_15 : decode cX3_fill 15 = .ok (.iconst 1, 1) := by decide +kernel
theorem dX3_fill_16 : decode cX3_fill 16 = .ok (.iastore, 1) := by decide +kernel
theorem dX3_fill_17 : decode cX3_fill 17 = .ok (.aload_n 0, 1) := by decide +kernel
theorem dX3_fill_18 : decode cX3_fill 18 = .ok (.getfield 7, 3) := by decide +kernel
theorem dX3_fill_21 : decode cX3_fill 21 = .ok (.iload_n 1, 1) := by decide +kernel
theorem dX3_fill_22 : decode cX3_fill 22 = .ok (.iconst 0, 1) := by decide +kernel
theorem dX3_fill_23 : decode cX3_fill 23 = .ok (.invokestatic 33, 3) := by decide +kernel
theorem dX3_fill_26 : decode cX3_fill 26 = .ok (.aload_n 0, 1) := by decide +kernel
theorem dX3_fill_27 : decode cX3_fill 27 = .ok (.iload_n 1, 1) := by decide +kernel
theorem dX3_fill_28 : decode cX3_fill 28 = .ok (.invokevirtual 37, 3) := by decide +kernel
theorem dX3_fill_31 : decode cX3_fill 31 = .ok (.iastore, 1) := by decide +kernel
theorem dX3_fill_32 : decode cX3_fill 32 = .ok (.aload_n 0, 1) := by decide +kernel
theorem dX3_fill_33 : decode cX3_fill 33 = .ok (.getfield 7, 3) := by decide +kernel
theorem dX3_fill_36 : decode cX3_fill 36 = .ok (.iload_n 1, 1) := by decide +kernel
theorem dX3_fill_37 : decode cX3_fill 37 = .ok (.iconst 0, 1) := by decide +kernel
theorem dX3_fill_38 : decode cX3_fill 38 = .ok (.invokestatic 41, 3) := by decide +kernel
theorem dX3_fill_41 : decode cX3_fill 41 = .ok (.aload_n 0, 1) := by decide +kernel
theorem dX3_fill_42 : decode cX3_fill 42 = .ok (.getfield 7, 3) := by decide +kernel
theorem dX3_fill_45 : decode cX3_fill 45 = .ok (.iconst 4, 1) := by decide +kernel
theorem dX3_fill_46 : decode cX3_fill 46 = .ok (.iaload, 1) := by decide +kernel
theorem dX3_fill_47 : decode cX3_fill 47 = .ok (.iastore, 1) := by decide +kernel
theorem dX3_fill_48 : decode cX3_fill 48 = .ok (.iinc 1 1, 3) := by decide +kernel
theorem dX3_fill_51 : decode cX3_fill 51 = .ok (.goto (-49), 3) := by decide +kernel
theorem dX3_fill_54 : decode cX3_fill 54 = .ok (.aload_n 0, 1) := by decide +kernel
theorem dX3_fill_55 : decode cX3_fill 55 = .ok (.getfield 7, 3) := by decide +kernel
theorem dX3_fill_58 : decode cX3_fill 58 = .ok (.bipush 8, 2) := by decide +kernel
theorem dX3_fill_60 : decode cX3_fill 60 = .ok (.iconst 0, 1) := by decide +kernel
theorem dX3_fill_61 : decode cX3_fill 61 = .ok (.iastore, 1) := by decide +kernel
theorem dX3_fill_62 : decode cX3_fill 62 = .ok (.aload_n 0, 1) := by decide +kernel
theorem dX3_fill_63 : decode cX3_fill 63 = .ok (.getfield 7, 3) := by decide +kernel
theorem dX3_fill_66 : decode cX3_fill 66 = .ok (.bipush 9, 2) := by decide +kernel
theorem dX3_fill_68 : decode cX3_fill 68 = .ok (.iconst 0, 1) := by decide +kernel
theorem dX3_fill_69 : decode cX3_fill 69 = .ok (.iastore, 1) := by decide +kernel
theorem dX3_fill_70 : decode cX3_fill 70 = .ok (.aload_n 0, 1) := by decide +kernel
theorem dX3_fill_71 : decode cX3_fill 71 = .ok (.getfield 7, 3) := by decide +kernel
theorem dX3_fill_74 : decode cX3_fill 74 = .ok (.bipush 10, 2) := by decide +kernel
theorem dX3_fill_76 : decode cX3_fill 76 = .ok (.iconst 0, 1) := by decide +kernel
theorem dX3_fill_77 : decode cX3_fill 77 = .ok (.iastore, 1) := by decide +kernel
theorem dX3_fill_78 : decode cX3_fill 78 = .ok (.return_, 1) := by decide +kernel
theorem dX3_putOnTop_0 : decode cX3_putOnTop 0 = .ok (.aload_n 0, 1) := by decide +kernel
theorem dX3_putOnTop_1 : decode cX3_putOnTop 1 = .ok (.getfield 7, 3) := by decide +kernel
theorem dX3_putOnTop_4 : decode cX3_putOnTop 4 = .ok (.iconst 0, 1) := by decide +kernel
theorem dX3_putOnTop_5 : decode cX3_putOnTop 5 = .ok (.iconst 0, 1) := by decide +kernel
theorem dX3_putOnTop_6 : decode cX3_putOnTop 6 = .ok (.invokestatic 41, 3) := by decide +kernel
theorem dX3_putOnTop_9 : decode cX3_putOnTop 9 = .ok (.iaload, 1) := by decide +kernel
theorem dX3_putOnTop_10 : decode cX3_putOnTop 10 = .ok (.iload_n 2, 1) := by decide +kernel
theorem dX3_putOnTop_11 : decode cX3_putOnTop 11 = .ok (.if_icmp .ne 18, 3) := by decide +kernel
theorem dX3_putOnTop_14 : decode cX3_putOnTop 14 = .ok (.aload_n 0, 1) := by decide +kernel
theorem dX3_putOnTop_15 : decode cX3_putOnTop 15 = .ok (.getfield 7, 3) := by decide +kernel
theorem dX3_putOnTop_18 : decode cX3_putOnTop 18 = .ok (.iconst 0, 1) := by decide +kernel
theorem dX3_putOnTop_19 : decode cX3_putOnTop 19 = .ok (.iconst 0, 1) := by decide +kernel
theorem dX3_putOnTop_20 : decode cX3_putOnTop 20 = .ok (.invokestatic 33, 3) := by decide +kernel
theorem dX3_putOnTop_23 : decode cX3_putOnTop 23 = .ok (.dup2, 1) := by decide +kernel
theorem dX3_putOnTop_24 : decode cX3_putOnTop 24 = .ok (.iaload, 1) := by decide +kernel
theorem dX3_putOnTop_25 : decode cX3_putOnTop 25 = .ok (.iload_n 1, 1) := by decide +kernel
theorem dX3_putOnTop_26 : decode cX3_putOnTop 26 = .ok (.iadd, 1) := by decide +kernel
theorem dX3_putOnTop_27 : decode cX3_putOnTop 27 = .ok (.iastore, 1) := by decide +kernel
theorem dX3_putOnTop_28 : decode cX3_putOnTop 28 = .ok (.return_, 1) := by decide +kernel
theorem dX3_putOnTop_29 : decode cX3_putOnTop 29 = .ok (.aload_n 0, 1) := by decide +kernel
theorem dX3_putOnTop_30 : decode cX3_putOnTop 30 = .ok (.getfield 7, 3) := by decide +kernel
theorem dX3_putOnTop_33 : decode cX3_putOnTop 33 = .ok (.bipush 11, 2) := by decide +kernel
theorem dX3_putOnTop_35 : decode cX3_putOnTop 35 = .ok (.iaload, 1) := by decide +kernel
theorem dX3_putOnTop_36 : decode cX3_putOnTop 36 = .ok (.istore_n 3, 1) := by decide +kernel
theorem dX3_putOnTop_37 : decode cX3_putOnTop 37 = .ok (.iload_n 3, 1) := by decide +kernel
theorem dX3_putOnTop_38 : decode cX3_putOnTop 38 = .ok (.ifCond .le 53, 3) := by decide +kernel
theorem dX3_putOnTop_41 : decode cX3_putOnTop 41 = .ok (.aload_n 0, 1) := by decide +kernel
theorem dX3_putOnTop_42 : decode cX3_putOnTop 42 = .ok (.getfield 7, 3) := by decide +kernel
theorem dX3_putOnTop_45 : decode cX3_putOnTop 45 = .ok (.iconst 0, 1) := by decide +kernel
theorem dX3_putOnTop_46 : decode cX3_putOnTop 46 = .ok (.iload_n 3, 1) := by decide +kernel
theorem dX3_putOnTop_47 : decode cX3_putOnTop 47 = .ok (.invokestatic 33, 3) := by decide +kernel
theorem dX3_putOnTop_50 : decode cX3_putOnTop 50 = .ok (.aload_n 0, 1) := by decide +kernel
theorem dX3_putOnTop_51 : decode cX3_putOnTop 51 = .ok (.getfield 7, 3) := by decide +kernel
theorem dX3_putOnTop_54 : decode cX3_putOnTop 54 = .ok (.iconst 0, 1) := by decide +kernel
theorem dX3_putOnTop_55 : decode cX3_putOnTop 55 = .ok (.iload_n 3, 1) := by decide +kernel
theorem dX3_putOnTop_56 : decode cX3_putOnTop 56 = .ok (.iconst 1, 1) := by decide +kernel
theorem dX3_putOnTop_57 : decode cX3_putOnTop 57 = .ok (.isub, 1) := by decide +kernel
theorem dX3_putOnTop_58 : decode cX3_putOnTop 58 = .ok (.invokestatic 33, 3) := by decide +kernel
theorem dX3_putOnTop_61 : decode cX3_putOnTop 61 = .ok (.iaload, 1) := by decide +kernel
theorem dX3_putOnTop_62 : decode cX3_putOnTop 62 = .ok (.iastore, 1) := by decide +kernel
theorem dX3_putOnTop_63 : decode cX3_putOnTop 63 = .ok (.aload_n 0, 1) := by decide +kernel
theorem dX3_putOnTop_64 : decode cX3_putOnTop 64 = .ok (.getfield 7, 3) := by decide +kernel
theorem dX3_putOnTop_67 : decode cX3_putOnTop 67 = .ok (.iconst 0, 1) := by decide +kernel
theorem dX3_putOnTop_68 : decode cX3_putOnTop 68 = .ok (.iload_n 3, 1) := by decide +kernel
theorem dX3_putOnTop_69 : decode cX3_putOnTop 69 = .ok (.invokestatic 41, 3) := by decide +kernel
theorem dX3_putOnTop_72 : decode cX3_putOnTop 72 = .ok (.aload_n 0, 1) := by decide +kernel
theorem dX3_putOnTop_73 : decode cX3_putOnTop 73 = .ok (.getfield 7, 3) := by decide +kernel
theorem dX3_putOnTop_76 : decode cX3_putOnTop 76 = .ok (.iconst 0, 1) := by decide +kernel
theorem dX3_putOnTop_77 : decode cX3_putOnTop 77 = .ok (.iload_n 3, 1) := by decide +kernel
theorem dX3_putOnTop_78 : decode cX3_putOnTop 78 = .ok (.iconst 1, 1) := by decide +kernel
theorem dX3_putOnTop_79 : decode cX3_putOnTop 79 = .ok (.isub, 1) := by decide +kernel
theorem dX3_putOnTop_80 : decode cX3_putOnTop 80 = .ok (.invokestatic 41, 3) := by decide +kernel
theorem dX3_putOnTop_83 : decode cX3_putOnTop 83 = .ok (.iaload, 1) := by decide +kernel
theorem dX3_putOnTop_84 : decode cX3_putOnTop 84 = .ok (.iastore, 1) := by decide +kernel
theorem dX3_putOnTop_85 : decode cX3_putOnTop 85 = .ok (.iinc 3 (-1), 3) := by decide +kernel
theorem dX3_putOnTop_88 : decode cX3_putOnTop 88 = .ok (.goto (-51), 3) := by decide +kernel
theorem dX3_putOnTop_91 : decode cX3_putOnTop 91 = .ok (.aload_n 0, 1) := by decide +kernel
theorem dX3_putOnTop_92 : decode cX3_putOnTop 92 = .ok (.getfield 7, 3) := by decide +kernel
theorem dX3_putOnTop_95 : decode cX3_putOnTop 95 = .ok (.iconst 0, 1) := by decide +kernel
theorem dX3_putOnTop_96 : decode cX3_putOnTop 96 = .ok (.iconst 0, 1) := by decide +kernel
theorem dX3_putOnTop_97 : decode cX3_putOnTop 97 = .ok (.invokestatic 33, 3) := by decide +kernel
theorem dX3_putOnTop_100 : decode cX3_putOnTop 100 = .ok (.iload_n 1, 1) := by decide +kernel
theorem dX3_putOnTop_101 : decode cX3_putOnTop 101 = .ok (.iastore, 1) := by decide +kernel
theorem dX3_putOnTop_102 : decode cX3_putOnTop 102 = .ok (.aload_n 0, 1) := by decide +kernel
theorem dX3_putOnTop_103 : decode cX3_putOnTop 103 = .ok (.getfield 7, 3) := by decide +kernel
theorem dX3_putOnTop_106 : decode cX3_putOnTop 106 = .ok (.iconst 0, 1) := by decide +kernel
theorem dX3_putOnTop_107 : decode cX3_putOnTop 107 = .ok (.iconst 0, 1) := by decide +kernel
theorem dX3_putOnTop_108 : decode cX3_putOnTop 108 = .ok (.invokestatic 41, 3) := by decide +kernel
theorem dX3_putOnTop_111 : decode cX3_putOnTop 111 = .ok (.iload_n 2, 1) := by decide +kernel
theorem dX3_putOnTop_112 : decode cX3_putOnTop 112 = .ok (.iastore, 1) := by decide +kernel
theorem dX3_putOnTop_113 : decode cX3_putOnTop 113 = .ok (.aload_n 0, 1) := by decide +kernel
theorem dX3_putOnTop_114 : decode cX3_putOnTop 114 = .ok (.getfield 7, 3) := by decide +kernel
theorem dX3_putOnTop_117 : decode cX3_putOnTop 117 = .ok (.bipush 11, 2) := by decide +kernel
theorem dX3_putOnTop_119 : decode cX3_putOnTop 119 = .ok (.dup2, 1) := by decide +kernel
theorem dX3_putOnTop_120 : decode cX3_putOnTop 120 = .ok (.iaload, 1) := by decide +kernel
theorem dX3_putOnTop_121 : decode cX3_putOnTop 121 = .ok (.iconst 1, 1) := by decide +kernel
theorem dX3_putOnTop_122 : decode cX3_putOnTop 122 = .ok (.iadd, 1) := by decide +kernel
theorem dX3_putOnTop_123 : decode cX3_putOnTop 123 = .ok (.iastore, 1) := by decide +kernel
theorem dX3_putOnTop_124 : decode cX3_putOnTop 124 = .ok (.return_, 1) := by decide +kernel
theorem dX3_enter_0 : decode cX3_enter 0 = .ok (.aload_n 0, 1) := by decide +kernel
theorem dX3_enter_1 : decode cX3_enter 1 = .ok (.getfield 7, 3) := by decide +kernel
theorem dX3_enter_4 : decode cX3_enter 4 = .ok (.bipush 12, 2) := by decide +kernel
theorem dX3_enter_6 : decode cX3_enter 6 = .ok (.iaload, 1) := by decide +kernel
theorem dX3_enter_7 : decode cX3_enter 7 = .ok (.iconst 1, 1) := by decide +kernel
theorem dX3_enter_8 : decode cX3_enter 8 = .ok (.isub, 1) := by decide +kernel
theorem dX3_enter_9 : decode cX3_enter 9 = .ok (.istore_n 3, 1) := by decide +kernel
theorem dX3_enter_10 : decode cX3_enter 10 = .ok (.aload_n 0, 1) := by decide +kernel
theorem dX3_enter_11 : decode cX3_enter 11 = .ok (.getfield 7, 3) := by decide +kernel
theorem dX3_enter_14 : decode cX3_enter 14 = .ok (.iconst 1, 1) := by decide +kernel
theorem dX3_enter_15 : decode cX3_enter 15 = .ok (.iload_n 3, 1) := by decide +kernel
theorem dX3_enter_16 : decode cX3_enter 16 = .ok (.invokestatic 41, 3) := by decide +kernel
theorem dX3_enter_19 : decode cX3_enter 19 = .ok (.iaload, 1) := by decide +kernel
theorem dX3_enter_20 : decode cX3_enter 20 = .ok (.iload_n 2, 1) := by decide +kernel
theorem dX3_enter_21 : decode cX3_enter 21 = .ok (.if_icmp .ne 18, 3) := by decide +kernel
theorem dX3_enter_24 : decode cX3_enter 24 = .ok (.aload_n 0, 1) := by decide +kernel
theorem dX3_enter_25 : decode cX3_enter 25 = .ok (.getfield 7, 3) := by decide +kernel
theorem dX3_enter_28 : decode cX3_enter 28 = .ok (.iconst 1, 1) := by decide +kernel
theorem dX3_enter_29 : decode cX3_enter 29 = .ok (.iload_n 3, 1) := by decide +kernel
theorem dX3_enter_30 : decode cX3_enter 30 = .ok (.invokestatic 33, 3) := by decide +kernel
theorem dX3_enter_33 : decode cX3_enter 33 = .ok (.dup2, 1) := by decide +kernel
theorem dX3_enter_34 : decode cX3_enter 34 = .ok (.iaload, 1) := by decide +kernel
theorem dX3_enter_35 : decode cX3_enter 35 = .ok (.iload_n 1, 1) := by decide +kernel
theorem dX3_enter_36 : decode cX3_enter 36 = .ok (.iadd, 1) := by decide +kernel
theorem dX3_enter_37 : decode cX3_enter 37 = .ok (.iastore, 1) := by decide +kernel
theorem dX3_enter_38 : decode cX3_enter 38 = .ok (.return_, 1) := by decide +kernel
theorem dX3_enter_39 : decode cX3_enter 39 = .ok (.aload_n 0, 1) := by decide +kernel
theorem dX3_enter_40 : decode cX3_enter 40 = .ok (.getfield 7, 3) := by decide +kernel
theorem dX3_enter_43 : decode cX3_enter 43 = .ok (.iconst 1, 1) := by decide +kernel
theorem dX3_enter_44 : decode cX3_enter 44 = .ok (.iload_n 3, 1) := by decide +kernel
theorem dX3_enter_45 : decode cX3_enter 45 = .ok (.iconst 1, 1) := by decide +kernel
theorem dX3_enter_46 : decode cX3_enter 46 = .ok (.iadd, 1) := by decide +kernel
theorem dX3_enter_47 : decode cX3_enter 47 = .ok (.invokestatic 33, 3) := by decide +kernel
theorem dX3_enter_50 : decode cX3_enter 50 = .ok (.iload_n 1, 1) := by decide +kernel
theorem dX3_enter_51 : decode cX3_enter 51 = .ok (.iastore, 1) := by decide +kernel
theorem dX3_enter_52 : decode cX3_enter 52 = .ok (.aload_n 0, 1) := by decide +kernel
theorem dX3_enter_53 : decode cX3_enter 53 = .ok (.getfield 7, 3) := by decide +kernel
theorem dX3_enter_56 : decode cX3_enter 56 = .ok (.iconst 1, 1) := by decide +kernel
theorem dX3_enter_57 : decode cX3_enter 57 = .ok (.iload_n 3, 1) := by decide +kernel
theorem dX3_enter_58 : decode cX3_enter 58 = .ok (.iconst 1, 1) := by decide +kernel
theorem dX3_enter_59 : decode cX3_enter 59 = .ok (.iadd, 1) := by decide +kernel
theorem dX3_enter_60 : decode cX3_enter 60 = .ok (.invokestatic 41, 3) := by decide +kernel
theorem dX3_enter_63 : decode cX3_enter 63 = .ok (.iload_n 2, 1) := by decide +kernel
theorem dX3_enter_64 : decode cX3_enter 64 = .ok (.iastore, 1) := by decide +kernel
theorem dX3_enter_65 : decode cX3_enter 65 = .ok (.aload_n 0, 1) := by decide +kernel
theorem dX3_enter_66 : decode cX3_enter 66 = .ok (.getfield 7, 3) := by decide +kernel
theorem dX3_enter_69 : decode cX3_enter 69 = .ok (.bipush 12, 2) := by decide +kernel
theorem dX3_enter_71 : decode cX3_enter 71 = .ok (.dup2, 1) := by decide +kernel
theorem dX3_enter_72 : decode cX3_enter 72 = .ok (.iaload, 1) := by decide +kernel
theorem dX3_enter_73 : decode cX3_enter 73 = .ok (.iconst 1, 1) := by decide +kernel
theorem dX3_enter_74 : decode cX3_enter 74 = .ok (.iadd, 1) := by decide +kernel
theorem dX3_enter_75 : decode cX3_enter 75 = .ok (.iastore, 1) := by decide +kernel
theorem dX3_enter_76 : decode cX3_enter 76 = .ok (.return_, 1) := by decide +kernel
theorem dX3_passOver_0 : decode cX3_passOver 0 = .ok (.iload_n 1, 1) := by decide +kernel
theorem dX3_passOver_1 : decode cX3_passOver 1 = .ok (.istore_n 2, 1) := by decide +kernel
theorem dX3_passOver_2 : decode cX3_passOver 2 = .ok (.iload_n 2, 1) := by decide +kernel
theorem dX3_passOver_3 : decode cX3_passOver 3 = .ok (.ifCond .le 110, 3) := by decide +kernel
theorem dX3_passOver_6 : decode cX3_passOver 6 = .ok (.aload_n 0, 1) := by decide +kernel
theorem dX3_passOver_7 : decode cX3_passOver 7 = .ok (.getfield 7, 3) := by decide +kernel
theorem dX3_passOver_10 : decode cX3_passOver 10 = .ok (.bipush 11, 2) := by decide +kernel
theorem dX3_passOver_12 : decode cX3_passOver 12 = .ok (.iaload, 1) := by decide +kernel
theorem dX3_passOver_13 : decode cX3_passOver 13 = .ok (.iconst 1, 1) := by decide +kernel
theorem dX3_passOver_14 : decode cX3_passOver 14 = .ok (.isub, 1) := by decide +kernel
theorem dX3_passOver_15 : decode cX3_passOver 15 = .ok (.istore_n 3, 1) := by decide +kernel
theorem dX3_passOver_16 : decode cX3_passOver 16 = .ok (.aload_n 0, 1) := by decide +kernel
theorem dX3_passOver_17 : decode cX3_passOver 17 = .ok (.getfield 7, 3) := by decide +kernel
theorem dX3_passOver_20 : decode cX3_passOver 20 = .ok (.iconst 0, 1) := by decide +kernel
theorem dX3_passOver_21 : decode cX3_passOver 21 = .ok (.iload_n 3, 1) := by decide +kernel
theorem dX3_passOver_22 : decode cX3_passOver 22 = .ok (.invokestatic 33, 3) := by decide +kernel
theorem dX3_passOver_25 : decode cX3_passOver 25 = .ok (.iaload, 1) := by decide +kernel
theorem dX3_passOver_26 : decode cX3_passOver 26 = .ok (.iload_n 2, 1) := by decide +kernel
theorem dX3_passOver_27 : decode cX3_passOver 27 = .ok (.if_icmp .ge 16, 3) := by decide +kernel
theorem dX3_passOver_30 : decode cX3_passOver 30 = .ok (.aload_n 0, 1) := by decide +kernel
theorem dX3_passOver_31 : decode cX3_passOver 31 = .ok (.getfield 7, 3) := by decide +kernel
theorem dX3_passOver_34 : decode cX3_passOver 34 = .ok (.iconst 0, 1) := by decide +kernel
theorem dX3_passOver_35 : decode cX3_passOver 35 = .ok (.iload_n 3, 1) := by decide +kernel
theorem dX3_passOver_36 : decode cX3_passOver 36 = .ok (.invokestatic 33, 3) := by decide +kernel
theorem dX3_passOver_39 : decode cX3_passOver 39 = .ok (.iaload, 1) := by decide +kernel
theorem dX3_passOver_40 : decode cX3_passOver 40 = .ok (.goto 4, 3) := by decide +kernel
theorem dX3_passOver_43 : decode cX3_passOver 43 = .ok (.iload_n 2, 1) := by decide +kernel
theorem dX3_passOver_44 : decode cX3_passOver 44 = .ok (.istore 4, 2) := by decide +kernel
theorem dX3_passOver_46 : decode cX3_passOver 46 = .ok (.aload_n 0, 1) := by decide +kernel
theorem dX3_passOver_47 : decode cX3_passOver 47 = .ok (.iload 4, 2) := by decide +kernel
theorem dX3_passOver_49 : decode cX3_passOver 49 = .ok (.aload_n 0, 1) := by decide +kernel
theorem dX3_passOver_50 : decode cX3_passOver 50 = .ok (.getfield 7, 3) := by decide +kernel
theorem dX3_passOver_53 : decode cX3_passOver 53 = .ok (.iconst 0, 1) := by decide +kernel
theorem dX3_passOver_54 : decode cX3_passOver 54 = .ok (.iload_n 3, 1) := by decide +kernel
theorem dX3_passOver_55 : decode cX3_passOver 55 = .ok (.invokestatic 41, 3) := by decide +kernel
theorem dX3_passOver_58 : decode cX3_passOver 58 = .ok (.iaload, 1) := by decide +kernel
theorem dX3_passOver_59 : decode cX3_passOver 59 = .ok (.invokevirtual 44, 3) := by decide +kernel
theorem dX3_passOver_62 : decode cX3_passOver 62 = .ok (.aload_n 0, 1) := by decide +kernel
theorem dX3_passOver_63 : decode cX3_passOver 63 = .ok (.getfield 7, 3) := by decide +kernel
theorem dX3_passOver_66 : decode cX3_passOver 66 = .ok (.iconst 0, 1) := by decide +kernel
theorem dX3_passOver_67 : decode cX3_passOver 67 = .ok (.iload_n 3, 1) := by decide +kernel
theorem dX3_passOver_68 : decode cX3_passOver 68 = .ok (.invokestatic 33, 3) := by decide +kernel
theorem dX3_passOver_71 : decode cX3_passOver 71 = .ok (.dup2, 1) := by decide +kernel
theorem dX3_passOver_72 : decode cX3_passOver 72 = .ok (.iaload, 1) := by decide +kernel
theorem dX3_passOver_73 : decode cX3_passOver 73 = .ok (.iload 4, 2) := by decide +kernel
theorem dX3_passOver_75 : decode cX3_passOver 75 = .ok (.isub, 1) := by decide +kernel
theorem dX3_passOver_76 : decode cX3_passOver 76 = .ok (.iastore, 1) := by decide +kernel
theorem dX3_passOver_77 : decode cX3_passOver 77 = .ok (.aload_n 0, 1) := by decide +kernel
theorem dX3_passOver_78 : decode cX3_passOver 78 = .ok (.getfield 7, 3) := by decide +kernel
theorem dX3_passOver_81 : decode cX3_passOver 81 = .ok (.bipush 11, 2) := by decide +kernel
theorem dX3_passOver_83 : decode cX3_passOver 83 = .ok (.dup2, 1) := by decide +kernel
theorem dX3_passOver_84 : decode cX3_passOver 84 = .ok (.iaload, 1) := by decide +kernel
theorem dX3_passOver_85 : decode cX3_passOver 85 = .ok (.aload_n 0, 1) := by decide +kernel
theorem dX3_passOver_86 : decode cX3_passOver 86 = .ok (.getfield 7, 3) := by decide +kernel
theorem dX3_passOver_89 : decode cX3_passOver 89 = .ok (.iconst 0, 1) := by decide +kernel
theorem dX3_passOver_90 : decode cX3_passOver 90 = .ok (.iload_n 3, 1) := by decide +kernel
theorem dX3_passOver_91 : decode cX3_passOver 91 = .ok (.invokestatic 33, 3) := by decide +kernel
theorem dX3_passOver_94 : decode cX3_passOver 94 = .ok (.iaload, 1) := by decide +kernel
theorem dX3_passOver_95 : decode cX3_passOver 95 = .ok (.ifCond .ne 7, 3) := by decide +kernel
theorem dX3_passOver_98 : decode cX3_passOver 98 = .ok (.iconst 1, 1) := by decide +kernel
theorem dX3_passOver_99 : decode cX3_passOver 99 = .ok (.goto 4, 3) := by decide +kernel
theorem dX3_passOver_102 : decode cX3_passOver 102 = .ok (.iconst 0, 1) := by decide +kernel
theorem dX3_passOver_103 : decode cX3_passOver 103 = .ok (.isub, 1) := by decide +kernel
theorem dX3_passOver_104 : decode cX3_passOver 104 = .ok (.iastore, 1) := by decide +kernel
theorem dX3_passOver_105 : decode cX3_passOver 105 = .ok (.iload_n 2, 1) := by decide +kernel
theorem dX3_passOver_106 : decode cX3_passOver 106 = .ok (.iload 4, 2) := by decide +kernel
theorem dX3_passOver_108 : decode cX3_passOver 108 = .ok (.isub, 1) := by decide +kernel
theorem dX3_passOver_109 : decode cX3_passOver 109 = .ok (.istore_n 2, 1) := by decide +kernel
theorem dX3_passOver_110 : decode cX3_passOver 110 = .ok (.goto (-108), 3) := by decide +kernel
theorem dX3_passOver_113 : decode cX3_passOver 113 = .ok (.return_, 1) := by decide +kernel
theorem dX3_leave_0 : decode cX3_leave 0 = .ok (.iload_n 1, 1) := by decide +kernel
theorem dX3_leave_1 : decode cX3_leave 1 = .ok (.istore_n 2, 1) := by decide +kernel
theorem dX3_leave_2 : decode cX3_leave 2 = .ok (.iconst 0, 1) := by decide +kernel
theorem dX3_leave_3 : decode cX3_leave 3 = .ok (.istore_n 3, 1) := by decide +kernel
theorem dX3_leave_4 : decode cX3_leave 4 = .ok (.iload_n 2, 1) := by decide +kernel
theorem dX3_leave_5 : decode cX3_leave 5 = .ok (.aload_n 0, 1) := by decide +kernel
theorem dX3_leave_6 : decode cX3_leave 6 = .ok (.getfield 7, 3) := by decide +kernel
theorem dX3_leave_9 : decode cX3_leave 9 = .ok (.iconst 1, 1) := by decide +kernel
theorem dX3_leave_10 : decode cX3_leave 10 = .ok (.iload_n 3, 1) := by decide +kernel
theorem dX3_leave_11 : decode cX3_leave 11 = .ok (.invokestatic 33, 3) := by decide +kernel
theorem dX3_leave_14 : decode cX3_leave 14 = .ok (.iaload, 1) := by decide +kernel
theorem dX3_leave_15 : decode cX3_leave 15 = .ok (.if_icmp .lt 22, 3) := by decide +kernel
theorem dX3_leave_18 : decode cX3_leave 18 = .ok (.iload_n 2, 1) := by decide +kernel
theorem dX3_leave_19 : decode cX3_leave 19 = .ok (.aload_n 0, 1) := by decide +kernel
theorem dX3_leave_20 : decode cX3_leave 20 = .ok (.getfield 7, 3) := by decide +kernel
theorem dX3_leave_23 : decode cX3_leave 23 = .ok (.iconst 1, 1) := by decide +kernel
theorem dX3_leave_24 : decode cX3_leave 24 = .ok (.iload_n 3, 1) := by decide +kernel
theorem dX3_leave_25 : decode cX3_leave 25 = .ok (.invokestatic 33, 3) := by decide +kernel
theorem dX3_leave_28 : decode cX3_leave 28 = .ok (.iaload, 1) := by decide +kernel
theorem dX3_leave_29 : decode cX3_leave 29 = .ok (.isub, 1) := by decide +kernel
theorem dX3_leave_30 : decode cX3_leave 30 = .ok (.istore_n 2, 1) := by decide +kernel
theorem dX3_leave_31 : decode cX3_leave 31 = .ok (.iinc 3 1, 3) := by decide +kernel
theorem dX3_leave_34 : decode cX3_leave 34 = .ok (.goto (-30), 3) := by decide +kernel
theorem dX3_leave_37 : decode cX3_leave 37 = .ok (.aload_n 0, 1) := by decide +kernel
theorem dX3_leave_38 : decode cX3_leave 38 = .ok (.getfield 7, 3) := by decide +kernel
theorem dX3_leave_41 : decode cX3_leave 41 = .ok (.iconst 1, 1) := by decide +kernel
theorem dX3_leave_42 : decode cX3_leave 42 = .ok (.iload_n 3, 1) := by decide +kernel
theorem dX3_leave_43 : decode cX3_leave 43 = .ok (.invokestatic 33, 3) := by decide +kernel
theorem dX3_leave_46 : decode cX3_leave 46 = .ok (.dup2, 1) := by decide +kernel
theorem dX3_leave_47 : decode cX3_leave 47 = .ok (.iaload, 1) := by decide +kernel
theorem dX3_leave_48 : decode cX3_leave 48 = .ok (.iload_n 2, 1) := by decide +kernel
theorem dX3_leave_49 : decode cX3_leave 49 = .ok (.isub, 1) := by decide +kernel
theorem dX3_leave_50 : decode cX3_leave 50 = .ok (.iastore, 1) := by decide +kernel
theorem dX3_leave_51 : decode cX3_leave 51 = .ok (.aload_n 0, 1) := by decide +kernel
theorem dX3_leave_52 : decode cX3_leave 52 = .ok (.getfield 7, 3) := by decide +kernel
theorem dX3_leave_55 : decode cX3_leave 55 = .ok (.bipush 12, 2) := by decide +kernel
theorem dX3_leave_57 : decode cX3_leave 57 = .ok (.dup2, 1) := by decide +kernel
theorem dX3_leave_58 : decode cX3_leave 58 = .ok (.iaload, 1) := by decide +kernel
theorem dX3_leave_59 : decode cX3_leave 59 = .ok (.iload_n 3, 1) := by decide +kernel
theorem dX3_leave_60 : decode cX3_leave 60 = .ok (.isub, 1) := by decide +kernel
theorem dX3_leave_61 : decode cX3_leave 61 = .ok (.iastore, 1) := by decide +kernel
theorem dX3_leave_62 : decode cX3_leave 62 = .ok (.iconst 0, 1) := by decide +kernel
theorem dX3_leave_63 : decode cX3_leave 63 = .ok (.istore 4, 2) := by decide +kernel
theorem dX3_leave_65 : decode cX3_leave 65 = .ok (.iload 4, 2) := by decide +kernel
theorem dX3_leave_67 : decode cX3_leave 67 = .ok (.aload_n 0, 1) := by decide +kernel
theorem dX3_leave_68 : decode cX3_leave 68 = .ok (.getfield 7, 3) := by decide +kernel
theorem dX3_leave_71 : decode cX3_leave 71 = .ok (.bipush 12, 2) := by decide +kernel
theorem dX3_leave_73 : decode cX3_leave 73 = .ok (.iaload, 1) := by decide +kernel
theorem dX3_leave_74 : decode cX3_leave 74 = .ok (.if_icmp .ge 61, 3) := by decide +kernel
theorem dX3_leave_77 : decode cX3_leave 77 = .ok (.iload_n 3, 1) := by decide +kernel
theorem dX3_leave_78 : decode cX3_leave 78 = .ok (.ifCond .le 57, 3) := by decide +kernel
theorem dX3_leave_81 : decode cX3_leave 81 = .ok (.aload_n 0, 1) := by decide +kernel
theorem dX3_leave_82 : decode cX3_leave 82 = .ok (.getfield 7, 3) := by decide +kernel
theorem dX3_leave_85 : decode cX3_leave 85 = .ok (.iconst 1, 1) := by decide +kernel
theorem dX3_leave_86 : decode cX3_leave 86 = .ok (.iload 4, 2) := by decide +kernel
theorem dX3_leave_88 : decode cX3_leave 88 = .ok (.invokestatic 33, 3) := by decide +kernel
theorem dX3_leave_91 : decode cX3_leave 91 = .ok (.aload_n 0, 1) := by decide +kernel
theorem dX3_leave_92 : decode cX3_leave 92 = .ok (.getfield 7, 3) := by decide +kernel
theorem dX3_leave_95 : decode cX3_leave 95 = .ok (.iconst 1, 1) := by decide +kernel
theorem dX3_leave_96 : decode cX3_leave 96 = .ok (.iload 4, 2) := by decide +kernel
theorem dX3_leave_98 : decode cX3_leave 98 = .ok (.iload_n 3, 1) := by decide +kernel
theorem dX3_leave_99 : decode cX3_leave 99 = .ok (.iadd, 1) := by decide +kernel
theorem dX3_leave_100 : decode cX3_leave 100 = .ok (.invokestatic 33, 3) := by decide +kernel
theorem dX3_leave_103 : decode cX3_leave 103 = .ok (.iaload, 1) := by decide +kernel
theorem dX3_leave_104 : decode cX3_leave 104 = .ok (.iastore, 1) := by decide +kernel
theorem dX3_leave_105 : decode cX3_leave 105 = .ok (.aload_n 0, 1) := by decide +kernel
theorem dX3_leave_106 : decode cX3_leave 106 = .ok (.getfield 7, 3) := by decide +kernel
theorem dX3_leave_109 : decode cX3_leave 109 = .ok (.iconst 1, 1) := by decide +kernel
theorem dX3_leave_110 : decode cX3_leave 110 = .ok (.iload 4, 2) := by decide +kernel
theorem dX3_leave_112 : decode cX3_leave 112 = .ok (.invokestatic 41, 3) := by decide +kernel
theorem dX3_leave_115 : decode cX3_leave 115 = .ok (.aload_n 0, 1) := by decide +kernel
theorem dX3_leave_116 : decode cX3_leave 116 = .ok (.getfield 7, 3) := by decide +kernel
theorem dX3_leave_119 : decode cX3_leave 119 = .ok (.iconst 1, 1) := by decide +kernel
theorem dX3_leave_120 : decode cX3_leave 120 = .ok (.iload 4, 2) := by decide +kernel
theorem dX3_leave_122 : decode cX3_leave 122 = .ok (.iload_n 3, 1) := by decide +kernel
theorem dX3_leave_123 : decode cX3_leave 123 = .ok (.iadd, 1) := by decide +kernel
theorem dX3_leave_124 : decode cX3_leave 124 = .ok (.invokestatic 41, 3) := by decide +kernel
theorem dX3_leave_127 : decode cX3_leave 127 = .ok (.iaload, 1) := by decide +kernel
theorem dX3_leave_128 : decode cX3_leave 128 = .ok (.iastore, 1) := by decide +kernel
theorem dX3_leave_129 : decode cX3_leave 129 = .ok (.iinc 4 1, 3) := by decide +kernel
theorem dX3_leave_132 : decode cX3_leave 132 = .ok (.goto (-67), 3) := by decide +kernel
theorem dX3_leave_135 : decode cX3_leave 135 = .ok (.return_, 1) := by decide +kernel
theorem dX3_pumpMud_0 : decode cX3_pumpMud 0 = .ok (.aload_n 0, 1) := by decide +kernel
theorem dX3_pumpMud_1 : decode cX3_pumpMud 1 = .ok (.iload_n 1, 1) := by decide +kernel
theorem dX3_pumpMud_2 : decode cX3_pumpMud 2 = .ok (.iload_n 2, 1) := by decide +kernel
theorem dX3_pumpMud_3 : decode cX3_pumpMud 3 = .ok (.invokevirtual 48, 3) := by decide +kernel
theorem dX3_pumpMud_6 : decode cX3_pumpMud 6 = .ok (.aload_n 0, 1) := by decide +kernel
theorem dX3_pumpMud_7 : decode cX3_pumpMud 7 = .ok (.iload_n 1, 1) := by decide +kernel
theorem dX3_pumpMud_8 : decode cX3_pumpMud 8 = .ok (.invokevirtual 51, 3) := by decide +kernel
theorem dX3_pumpMud_11 : decode cX3_pumpMud 11 = .ok (.aload_n 0, 1) := by decide +kernel
theorem dX3_pumpMud_12 : decode cX3_pumpMud 12 = .ok (.iload_n 1, 1) := by decide +kernel
theorem dX3_pumpMud_13 : decode cX3_pumpMud 13 = .ok (.invokevirtual 55, 3) := by decide +kernel
theorem dX3_pumpMud_16 : decode cX3_pumpMud 16 = .ok (.return_, 1) := by decide +kernel
theorem dX3_pressureOf_0 : decode cX3_pressureOf 0 = .ok (.iload_n 2, 1) := by decide +kernel
theorem dX3_pressureOf_1 : decode cX3_pressureOf 1 = .ok (.aload_n 0, 1) := by decide +kernel
theorem dX3_pressureOf_2 : decode cX3_pressureOf 2 = .ok (.getfield 7, 3) := by decide +kernel
theorem dX3_pressureOf_5 : decode cX3_pressureOf 5 = .ok (.iconst 1, 1) := by decide +kernel
theorem dX3_pressureOf_6 : decode cX3_pressureOf 6 = .ok (.iload_n 1, 1) := by decide +kernel
theorem dX3_pressureOf_7 : decode cX3_pressureOf 7 = .ok (.iadd, 1) := by decide +kernel
theorem dX3_pressureOf_8 : decode cX3_pressureOf 8 = .ok (.iaload, 1) := by decide +kernel
theorem dX3_pressureOf_9 : decode cX3_pressureOf 9 = .ok (.imul, 1) := by decide +kernel
theorem dX3_pressureOf_10 : decode cX3_pressureOf 10 = .ok (.istore_n 3, 1) := by decide +kernel
theorem dX3_pressureOf_11 : decode cX3_pressureOf 11 = .ok (.lconst 0, 1) := by decide +kernel
theorem dX3_pressureOf_12 : decode cX3_pressureOf 12 = .ok (.lstore 4, 2) := by decide +kernel
theorem dX3_pressureOf_14 : decode cX3_pressureOf 14 = .ok (.iconst 0, 1) := by decide +kernel
theorem dX3_pressureOf_15 : decode cX3_pressureOf 15 = .ok (.istore 6, 2) := by decide +kernel
theorem dX3_pressureOf_17 : decode cX3_pressureOf 17 = .ok (.iload 6, 2) := by decide +kernel
theorem dX3_pressureOf_19 : decode cX3_pressureOf 19 = .ok (.aload_n 0, 1) := by decide +kernel
theorem dX3_pressureOf_20 : decode cX3_pressureOf 20 = .ok (.getfield 7, 3) := by decide +kernel
theorem dX3_pressureOf_23 : decode cX3_pressureOf 23 = .ok (.bipush 11, 2) := by decide +kernel
theorem dX3_pressureOf_25 : decode cX3_pressureOf 25 = .ok (.iload_n 1, 1) := by decide +kernel
theorem dX3_pressureOf_26 : decode cX3_pressureOf 26 = .ok (.iadd, 1) := by decide +kernel
theorem dX3_pressureOf_27 : decode cX3_pressureOf 27 = .ok (.iaload, 1) := by decide +kernel
theorem dX3_pressureOf_28 : decode cX3_pressureOf 28 = .ok (.if_icmp .ge 71, 3) := by decide +kernel
theorem dX3_pressureOf_31 : decode cX3_pressureOf 31 = .ok (.iload_n 3, 1) := by decide +kernel
theorem dX3_pressureOf_32 : decode cX3_pressureOf 32 = .ok (.ifCond .le 67, 3) := by decide +kernel
theorem dX3_pressureOf_35 : decode cX3_pressureOf 35 = .ok (.aload_n 0, 1) := by decide +kernel
theorem dX3_pressureOf_36 : decode cX3_pressureOf 36 = .ok (.getfield 7, 3) := by decide +kernel
theorem dX3_pressureOf_39 : decode cX3_pressureOf 39 = .ok (.iload_n 1, 1) := by decide +kernel
theorem dX3_pressureOf_40 : decode cX3_pressureOf 40 = .ok (.iload 6, 2) := by decide +kernel
theorem dX3_pressureOf_42 : decode cX3_pressureOf 42 = .ok (.invokestatic 33, 3) := by decide +kernel
theorem dX3_pressureOf_45 : decode cX3_pressureOf 45 = .ok (.iaload, 1) := by decide +kernel
theorem dX3_pressureOf_46 : decode cX3_pressureOf 46 = .ok (.iload_n 3, 1) := by decide +kernel
theorem dX3_pressureOf_47 : decode cX3_pressureOf 47 = .ok (.if_icmp .ge 17, 3) := by decide +kernel
theorem dX3_pressureOf_50 : decode cX3_pressureOf 50 = .ok (.aload_n 0, 1) := by decide +kernel
theorem dX3_pressureOf_51 : decode cX3_pressureOf 51 = .ok (.getfield 7, 3) := by decide +kernel
theorem dX3_pressureOf_54 : decode cX3_pressureOf 54 = .ok (.iload_n 1, 1) := by decide +kernel
theorem dX3_pressureOf_55 : decode cX3_pressureOf 55 = .ok (.iload 6, 2) := by decide +kernel
theorem dX3_pressureOf_57 : decode cX3_pressureOf 57 = .ok (.invokestatic 33, 3) := by decide +kernel
theorem dX3_pressureOf_60 : decode cX3_pressureOf 60 = .ok (.iaload, 1) := by decide +kernel
theorem dX3_pressureOf_61 : decode cX3_pressureOf 61 = .ok (.goto 4, 3) := by decide +kernel
theorem dX3_pressureOf_64 : decode cX3_pressureOf 64 = .ok (.iload_n 3, 1) := by decide +kernel
theorem dX3_pressureOf_65 : decode cX3_pressureOf 65 = .ok (.istore 7, 2) := by decide +kernel
theorem dX3_pressureOf_67 : decode cX3_pressureOf 67 = .ok (.lload 4, 2) := by decide +kernel
theorem dX3_pressureOf_69 : decode cX3_pressureOf 69 = .ok (.iload 7, 2) := by decide +kernel
theorem dX3_pressureOf_71 : decode cX3_pressureOf 71 = .ok (.i2l, 1) := by decide +kernel
theorem dX3_pressureOf_72 : decode cX3_pressureOf 72 = .ok (.aload_n 0, 1) := by decide +kernel
theorem dX3_pressureOf_73 : decode cX3_pressureOf 73 = .ok (.getfield 7, 3) := by decide +kernel
theorem dX3_pressureOf_76 : decode cX3_pressureOf 76 = .ok (.iload_n 1, 1) := by decide +kernel
theorem dX3_pressureOf_77 : decode cX3_pressureOf 77 = .ok (.iload 6, 2) := by decide +kernel
theorem dX3_pressureOf_79 : decode cX3_pressureOf 79 = .ok (.invokestatic 41, 3) := by decide +kernel
theorem dX3_pressureOf_82 : decode cX3_pressureOf 82 = .ok (.iaload, 1) := by decide +kernel
theorem dX3_pressureOf_83 : decode cX3_pressureOf 83 = .ok (.i2l, 1) := by decide +kernel
theorem dX3_pressureOf_84 : decode cX3_pressureOf 84 = .ok (.lmul, 1) := by decide +kernel
theorem dX3_pressureOf_85 : decode cX3_pressureOf 85 = .ok (.ladd, 1) := by decide +kernel
theorem dX3_pressureOf_86 : decode cX3_pressureOf 86 = .ok (.lstore 4, 2) := by decide +kernel
theorem dX3_pressureOf_88 : decode cX3_pressureOf 88 = .ok (.iload_n 3, 1) := by decide +kernel
theorem dX3_pressureOf_89 : decode cX3_pressureOf 89 = .ok (.iload 7, 2) := by decide +kernel
theorem dX3_pressureOf_91 : decode cX3_pressureOf 91 = .ok (.isub, 1) := by decide +kernel
theorem dX3_pressureOf_92 : decode cX3_pressureOf 92 = .ok (.istore_n 3, 1) := by decide +kernel
theorem dX3_pressureOf_93 : decode cX3_pressureOf 93 = .ok (.iinc 6 1, 3) := by decide +kernel
theorem dX3_pressureOf_96 : decode cX3_pressureOf 96 = .ok (.goto (-79), 3) := by decide +kernel
theorem dX3_pressureOf_99 : decode cX3_pressureOf 99 = .ok (.ldc2_w 58, 3) := by decide +kernel
theorem dX3_pressureOf_102 : decode cX3_pressureOf 102 = .ok (.lload 4, 2) := by decide +kernel
theorem dX3_pressureOf_104 : decode cX3_pressureOf 104 = .ok (.lmul, 1) := by decide +kernel
theorem dX3_pressureOf_105 : decode cX3_pressureOf 105 = .ok (.ldc2_w 60, 3) := by decide +kernel
theorem dX3_pressureOf_108 : decode cX3_pressureOf 108 = .ok (.aload_n 0, 1) := by decide +kernel
theorem dX3_pressureOf_109 : decode cX3_pressureOf 109 = .ok (.getfield 7, 3) := by decide +kernel
theorem dX3_pressureOf_112 : decode cX3_pressureOf 112 = .ok (.iconst 1, 1) := by decide +kernel
theorem dX3_pressureOf_113 : decode cX3_pressureOf 113 = .ok (.iload_n 1, 1) := by decide +kernel
theorem dX3_pressureOf_114 : decode cX3_pressureOf 114 = .ok (.iadd, 1) := by decide +kernel
theorem dX3_pressureOf_115 : decode cX3_pressureOf 115 = .ok (.iaload, 1) := by decide +kernel
theorem dX3_pressureOf_116 : decode cX3_pressureOf 116 = .ok (.i2l, 1) := by decide +kernel
theorem dX3_pressureOf_117 : decode cX3_pressureOf 117 = .ok (.lmul, 1) := by decide +kernel
theorem dX3_pressureOf_118 : decode cX3_pressureOf 118 = .ok (.ldiv, 1) := by decide +kernel
theorem dX3_pressureOf_119 : decode cX3_pressureOf 119 = .ok (.l2i, 1) := by decide +kernel
theorem dX3_pressureOf_120 : decode cX3_pressureOf 120 = .ok (.ireturn, 1) := by decide +kernel
theorem dX3_lacking_0 : decode cX3_lacking 0 = .ok (.aload_n 0, 1) := by decide +kernel
theorem dX3_lacking_1 : decode cX3_lacking 1 = .ok (.getfield 7, 3) := by decide +kernel
theorem dX3_lacking_4 : decode cX3_lacking 4 = .ok (.iconst 5, 1) := by decide +kernel
theorem dX3_lacking_5 : decode cX3_lacking 5 = .ok (.iaload, 1) := by decide +kernel
theorem dX3_lacking_6 : decode cX3_lacking 6 = .ok (.aload_n 0, 1) := by decide +kernel
theorem dX3_lacking_7 : decode cX3_lacking 7 = .ok (.iload_n 1, 1) := by decide +kernel
theorem dX3_lacking_8 : decode cX3_lacking 8 = .ok (.aload_n 0, 1) := by decide +kernel
theorem dX3_lacking_9 : decode cX3_lacking 9 = .ok (.getfield 7, 3) := by decide +kernel
theorem dX3_lacking_12 : decode cX3_lacking 12 = .ok (.iconst 0, 1) := by decide +kernel
theorem dX3_lacking_13 : decode cX3_lacking 13 = .ok (.iaload, 1) := by decide +kernel
theorem dX3_lacking_14 : decode cX3_lacking 14 = .ok (.invokevirtual 62, 3) := by decide +kernel
theorem dX3_lacking_17 : decode cX3_lacking 17 = .ok (.isub, 1) := by decide +kernel
theorem dX3_lacking_18 : decode cX3_lacking 18 = .ok (.istore_n 2, 1) := by decide +kernel
theorem dX3_lacking_19 : decode cX3_lacking 19 = .ok (.iload_n 2, 1) := by decide +kernel
theorem dX3_lacking_20 : decode cX3_lacking 20 = .ok (.ifCond .le 7, 3) := by decide +kernel
theorem dX3_lacking_23 : decode cX3_lacking 23 = .ok (.iload_n 2, 1) := by decide +kernel
theorem dX3_lacking_24 : decode cX3_lacking 24 = .ok (.goto 4, 3) := by decide +kernel
theorem dX3_lacking_27 : decode cX3_lacking 27 = .ok (.iconst 0, 1) := by decide +kernel
theorem dX3_lacking_28 : decode cX3_lacking 28 = .ok (.ireturn, 1) := by decide +kernel
theorem dX3_atShoe_0 : decode cX3_atShoe 0 = .ok (.aload_n 0, 1) := by decide +kernel
theorem dX3_atShoe_1 : decode cX3_atShoe 1 = .ok (.iconst 1, 1) := by decide +kernel
theorem dX3_atShoe_2 : decode cX3_atShoe 2 = .ok (.invokevirtual 65, 3) := by decide +kernel
theorem dX3_atShoe_5 : decode cX3_atShoe 5 = .ok (.aload_n 0, 1) := by decide +kernel
theorem dX3_atShoe_6 : decode cX3_atShoe 6 = .ok (.iconst 1, 1) := by decide +kernel
theorem dX3_atShoe_7 : decode cX3_atShoe 7 = .ok (.aload_n 0, 1) := by decide +kernel
theorem dX3_atShoe_8 : decode cX3_atShoe 8 = .ok (.getfield 7, 3) := by decide +kernel
theorem dX3_atShoe_11 : decode cX3_atShoe 11 = .ok (.iconst 3, 1) := by decide +kernel
theorem dX3_atShoe_12 : decode cX3_atShoe 12 = .ok (.iaload, 1) := by decide +kernel
theorem dX3_atShoe_13 : decode cX3_atShoe 13 = .ok (.invokevirtual 62, 3) := by decide +kernel
theorem dX3_atShoe_16 : decode cX3_atShoe 16 = .ok (.iadd, 1) := by decide +kernel
theorem dX3_atShoe_17 : decode cX3_atShoe 17 = .ok (.ireturn, 1) := by decide +kernel
theorem dX3_check_0 : decode cX3_check 0 = .ok (.aload_n 0, 1) := by decide +kernel
theorem dX3_check_1 : decode cX3_check 1 = .ok (.invokevirtual 68, 3) := by decide +kernel
theorem dX3_check_4 : decode cX3_check 4 = .ok (.istore_n 1, 1) := by decide +kernel
theorem dX3_check_5 : decode cX3_check 5 = .ok (.aload_n 0, 1) := by decide +kernel
theorem dX3_check_6 : decode cX3_check 6 = .ok (.getfield 7, 3) := by decide +kernel
theorem dX3_check_9 : decode cX3_check 9 = .ok (.bipush 9, 2) := by decide +kernel
theorem dX3_check_11 : decode cX3_check 11 = .ok (.dup2, 1) := by decide +kernel
theorem dX3_check_12 : decode cX3_check 12 = .ok (.iaload, 1) := by decide +kernel
theorem dX3_check_13 : decode cX3_check 13 = .ok (.iload_n 1, 1) := by decide +kernel
theorem dX3_check_14 : decode cX3_check 14 = .ok (.aload_n 0, 1) := by decide +kernel
theorem dX3_check_15 : decode cX3_check 15 = .ok (.getfield 7, 3) := by decide +kernel
theorem dX3_check_18 : decode cX3_check 18 = .ok (.bipush 7, 2) := by decide +kernel
theorem dX3_check_20 : decode cX3_check 20 = .ok (.iaload, 1) := by decide +kernel
theorem dX3_check_21 : decode cX3_check 21 = .ok (.if_icmp .le 7, 3) := by decide +kernel
theorem dX3_check_24 : decode cX3_check 24 = .ok (.iconst 1, 1) := by decide +kernel
theorem dX3_check_25 : decode cX3_check 25 = .ok (.goto 4, 3) := by decide +kernel
theorem dX3_check_28 : decode cX3_check 28 = .ok (.iconst 0, 1) := by decide +kernel
theorem dX3_check_29 : decode cX3_check 29 = .ok (.iadd, 1) := by decide +kernel
theorem dX3_check_30 : decode cX3_check 30 = .ok (.iastore, 1) := by decide +kernel
theorem dX3_check_31 : decode cX3_check 31 = .ok (.aload_n 0, 1) := by decide +kernel
theorem dX3_check_32 : decode cX3_check 32 = .ok (.getfield 7, 3) := by decide +kernel
theorem dX3_check_35 : decode cX3_check 35 = .ok (.bipush 10, 2) := by decide +kernel
theorem dX3_check_37 : decode cX3_check 37 = .ok (.iload_n 1, 1) := by decide +kernel
theorem dX3_check_38 : decode cX3_check 38 = .ok (.aload_n 0, 1) := by decide +kernel
theorem dX3_check_39 : decode cX3_check 39 = .ok (.getfield 7, 3) := by decide +kernel
theorem dX3_check_42 : decode cX3_check 42 = .ok (.bipush 10, 2) := by decide +kernel
theorem dX3_check_44 : decode cX3_check 44 = .ok (.iaload, 1) := by decide +kernel
theorem dX3_check_45 : decode cX3_check 45 = .ok (.if_icmp .le 7, 3) := by decide +kernel
theorem dX3_check_48 : decode cX3_check 48 = .ok (.iload_n 1, 1) := by decide +kernel
theorem dX3_check_49 : decode cX3_check 49 = .ok (.goto 10, 3) := by decide +kernel
theorem dX3_check_52 : decode cX3_check 52 = .ok (.aload_n 0, 1) := by decide +kernel
theorem dX3_check_53 : decode cX3_check 53 = .ok (.getfield 7, 3) := by decide +kernel
theorem dX3_check_56 : decode cX3_check 56 = .ok (.bipush 10, 2) := by decide +kernel
theorem dX3_check_58 : decode cX3_check 58 = .ok (.iaload, 1) := by decide +kernel
theorem dX3_check_59 : decode cX3_check 59 = .ok (.iastore, 1) := by decide +kernel
theorem dX3_check_60 : decode cX3_check 60 = .ok (.return_, 1) := by decide +kernel
theorem dX3_setGeometry_0 : decode cX3_setGeometry 0 = .ok (.iload_n 1, 1) := by decide +kernel
theorem dX3_setGeometry_1 : decode cX3_setGeometry 1 = .ok (.bipush 100, 2) := by decide +kernel
theorem dX3_setGeometry_3 : decode cX3_setGeometry 3 = .ok (.sipush 3000, 3) := by decide +kernel
theorem dX3_setGeometry_6 : decode cX3_setGeometry 6 = .ok (.invokestatic 72, 3) := by decide +kernel
theorem dX3_setGeometry_9 : decode cX3_setGeometry 9 = .ok (.ifCond .eq 33, 3) := by decide +kernel
theorem dX3_setGeometry_12 : decode cX3_setGeometry 12 = .ok (.iload_n 2, 1) := by decide +kernel
theorem dX3_setGeometry_13 : decode cX3_setGeometry 13 = .ok (.iconst 1, 1) := by decide +kernel
theorem dX3_setGeometry_14 : decode cX3_setGeometry 14 = .ok (.bipush 20, 2) := by decide +kernel
theorem dX3_setGeometry_16 : decode cX3_setGeometry 16 = .ok (.invokestatic 72, 3) := by decide +kernel
theorem dX3_setGeometry_19 : decode cX3_setGeometry 19 = .ok (.ifCond .eq 23, 3) := by decide +kernel
theorem dX3_setGeometry_22 : decode cX3_setGeometry 22 = .ok (.iload_n 3, 1) := by decide +kernel
theorem dX3_setGeometry_23 : decode cX3_setGeometry 23 = .ok (.iconst 5, 1) := by decide +kernel
theorem dX3_setGeometry_24 : decode cX3_setGeometry 24 = .ok (.bipush 60, 2) := by decide +kernel
theorem dX3_setGeometry_26 : decode cX3_setGeometry 26 = .ok (.invokestatic 72, 3) := by decide +kernel
theorem dX3_setGeometry_29 : decode cX3_setGeometry 29 = .ok (.ifCond .eq 13, 3) := by decide +kernel
theorem dX3_setGeometry_32 : decode cX3_setGeometry 32 = .ok (.iload 4, 2) := by decide +kernel
theorem dX3_setGeometry_34 : decode cX3_setGeometry 34 = .ok (.iconst 1, 1) := by decide +kernel
theorem dX3_setGeometry_35 : decode cX3_setGeometry 35 = .ok (.iload_n 1, 1) := by decide +kernel
theorem dX3_setGeometry_36 : decode cX3_setGeometry 36 = .ok (.invokestatic 72, 3) := by decide +kernel
theorem dX3_setGeometry_39 : decode cX3_setGeometry 39 = .ok (.ifCond .ne 10, 3) := by decide +kernel
theorem dX3_setGeometry_42 : decode cX3_setGeometry 42 = .ok (.aload_n 0, 1) := by decide +kernel
theorem dX3_setGeometry_43 : decode cX3_setGeometry 43 = .ok (.bipush (-2), 2) := by decide +kernel
theorem dX3_setGeometry_45 : decode cX3_setGeometry 45 = .ok (.invokevirtual 76, 3) := by decide +kernel
theorem dX3_setGeometry_48 : decode cX3_setGeometry 48 = .ok (.ireturn, 1) := by decide +kernel
theorem dX3_setGeometry_49 : decode cX3_setGeometry 49 = .ok (.aload_n 0, 1) := by decide +kernel
theorem dX3_setGeometry_50 : decode cX3_setGeometry 50 = .ok (.invokevirtual 79, 3) := by decide +kernel
theorem dX3_setGeometry_53 : decode cX3_setGeometry 53 = .ok (.aload_n 0, 1) := by decide +kernel
theorem dX3_setGeometry_54 : decode cX3_setGeometry 54 = .ok (.getfield 7, 3) := by decide +kernel
theorem dX3_setGeometry_57 : decode cX3_setGeometry 57 = .ok (.iconst 0, 1) := by decide +kernel
theorem dX3_setGeometry_58 : decode cX3_setGeometry 58 = .ok (.iload_n 1, 1) := by decide +kernel
theorem dX3_setGeometry_59 : decode cX3_setGeometry 59 = .ok (.iastore, 1) := by decide +kernel
theorem dX3_setGeometry_60 : decode cX3_setGeometry 60 = .ok (.aload_n 0, 1) := by decide +kernel
theorem dX3_setGeometry_61 : decode cX3_setGeometry 61 = .ok (.getfield 7, 3) := by decide +kernel
theorem dX3_setGeometry_64 : decode cX3_setGeometry 64 = .ok (.iconst 1, 1) := by decide +kernel
theorem dX3_setGeometry_65 : decode cX3_setGeometry 65 = .ok (.iload_n 2, 1) := by decide +kernel
theorem dX3_setGeometry_66 : decode cX3_setGeometry 66 = .ok (.iastore, 1) := by decide +kernel
theorem dX3_setGeometry_67 : decode cX3_setGeometry 67 = .ok (.aload_n 0, 1) := by decide +kernel
theorem dX3_setGeometry_68 : decode cX3_setGeometry 68 = .ok (.getfield 7, 3) := by decide +kernel
theorem dX3_setGeometry_71 : decode cX3_setGeometry 71 = .ok (.iconst 2, 1) := by decide +kernel
theorem dX3_setGeometry_72 : decode cX3_setGeometry 72 = .ok (.iload_n 3, 1) := by decide +kernel
theorem dX3_setGeometry_73 : decode cX3_setGeometry 73 = .ok (.iastore, 1) := by decide +kernel
theorem dX3_setGeometry_74 : decode cX3_setGeometry 74 = .ok (.aload_n 0, 1) := by decide +kernel
theorem dX3_setGeometry_75 : decode cX3_setGeometry 75 = .ok (.getfield 7, 3) := by decide +kernel
theorem dX3_setGeometry_78 : decode cX3_setGeometry 78 = .ok (.iconst 3, 1) := by decide +kernel
theorem dX3_setGeometry_79 : decode cX3_setGeometry 79 = .ok (.iload 4, 2) := by decide +kernel
theorem dX3_setGeometry_81 : decode cX3_setGeometry 81 = .ok (.iastore, 1) := by decide +kernel
theorem dX3_setGeometry_82 : decode cX3_setGeometry 82 = .ok (.aload_n 0, 1) := by decide +kernel
theorem dX3_setGeometry_83 : decode cX3_setGeometry 83 = .ok (.invokevirtual 22, 3) := by decide +kernel
theorem dX3_setGeometry_86 : decode cX3_setGeometry 86 = .ok (.aload_n 0, 1) := by decide +kernel
theorem dX3_setGeometry_87 : decode cX3_setGeometry 87 = .ok (.iconst 0, 1) := by decide +kernel
theorem dX3_setGeometry_88 : decode cX3_setGeometry 88 = .ok (.invokevirtual 37, 3) := by decide +kernel
theorem dX3_setGeometry_91 : decode cX3_setGeometry 91 = .ok (.aload_n 0, 1) := by decide +kernel
theorem dX3_setGeometry_92 : decode cX3_setGeometry 92 = .ok (.iconst 1, 1) := by decide +kernel
theorem dX3_setGeometry_93 : decode cX3_setGeometry 93 = .ok (.invokevirtual 37, 3) := by decide +kernel
theorem dX3_setGeometry_96 : decode cX3_setGeometry 96 = .ok (.iadd, 1) := by decide +kernel
theorem dX3_setGeometry_97 : decode cX3_setGeometry 97 = .ok (.ireturn, 1) := by decide +kernel
theorem dX3_set_0 : decode cX3_set 0 = .ok (.iload_n 2, 1) := by decide +kernel
theorem dX3_set_1 : decode cX3_set 1 = .ok (.iload_n 3, 1) := by decide +kernel
theorem dX3_set_2 : decode cX3_set 2 = .ok (.iload 4, 2) := by decide +kernel
theorem dX3_set_4 : decode cX3_set 4 = .ok (.invokestatic 72, 3) := by decide +kernel
theorem dX3_set_7 : decode cX3_set 7 = .ok (.ifCond .ne 10, 3) := by decide +kernel
theorem dX3_set_10 : decode cX3_set 10 = .ok (.aload_n 0, 1) := by decide +kernel
theorem dX3_set_11 : decode cX3_set 11 = .ok (.bipush (-2), 2) := by decide +kernel
theorem dX3_set_13 : decode cX3_set 13 = .ok (.invokevirtual 76, 3) := by decide +kernel
theorem dX3_set_16 : decode cX3_set 16 = .ok (.ireturn, 1) := by decide +kernel
theorem dX3_set_17 : decode cX3_set 17 = .ok (.aload_n 0, 1) := by decide +kernel
theorem dX3_set_18 : decode cX3_set 18 = .ok (.invokevirtual 79, 3) := by decide +kernel
theorem dX3_set_21 : decode cX3_set 21 = .ok (.aload_n 0, 1) := by decide +kernel
theorem dX3_set_22 : decode cX3_set 22 = .ok (.getfield 7, 3) := by decide +kernel
theorem dX3_set_25 : decode cX3_set 25 = .ok (.iload_n 1, 1) := by decide +kernel
theorem dX3_set_26 : decode cX3_set 26 = .ok (.iaload, 1) := by decide +kernel
theorem dX3_set_27 : decode cX3_set 27 = .ok (.istore 5, 2) := by decide +kernel
theorem dX3_set_29 : decode cX3_set 29 = .ok (.aload_n 0, 1) := by decide +kernel
theorem dX3_set_30 : decode cX3_set 30 = .ok (.getfield 7, 3) := by decide +kernel
theorem dX3_set_33 : decode cX3_set 33 = .ok (.iload_n 1, 1) := by decide +kernel
theorem dX3_set_34 : decode cX3_set 34 = .ok (.iload_n 2, 1) := by decide +kernel
theorem dX3_set_35 : decode cX3_set 35 = .ok (.iastore, 1) := by decide +kernel
theorem dX3_set_36 : decode cX3_set 36 = .ok (.iload 5, 2) := by decide +kernel
theorem dX3_set_38 : decode cX3_set 38 = .ok (.ireturn, 1) := by decide +kernel
theorem dX3_setMud_0 : decode cX3_setMud 0 = .ok (.aload_n 0, 1) := by decide +kernel
theorem dX3_setMud_1 : decode cX3_setMud 1 = .ok (.iconst 4, 1) := by decide +kernel
theorem dX3_setMud_2 : decode cX3_setMud 2 = .ok (.iload_n 1, 1) := by decide +kernel
theorem dX3_setMud_3 : decode cX3_setMud 3 = .ok (.iconst 1, 1) := by decide +kernel
theorem dX3_setMud_4 : decode cX3_setMud 4 = .ok (.sipush 2500, 3) := by decide +kernel
theorem dX3_setMud_7 : decode cX3_setMud 7 = .ok (.invokevirtual 82, 3) := by decide +kernel
theorem dX3_setMud_10 : decode cX3_setMud 10 = .ok (.ireturn, 1) := by decide +kernel
theorem dX3_setFormation_0 : decode cX3_setFormation 0 = .ok (.aload_n 0, 1) := by decide +kernel
theorem dX3_setFormation_1 : decode cX3_setFormation 1 = .ok (.iconst 5, 1) := by decide +kernel
theorem dX3_setFormation_2 : decode cX3_setFormation 2 = .ok (.iload_n 1, 1) := by decide +kernel
theorem dX3_setFormation_3 : decode cX3_setFormation 3 = .ok (.iconst 0, 1) := by decide +kernel
theorem dX3_setFormation_4 : decode cX3_setFormation 4 = .ok (.ldc 86, 2) := by decide +kernel
theorem dX3_setFormation_6 : decode cX3_setFormation 6 = .ok (.invokevirtual 82, 3) := by decide +kernel
theorem dX3_setFormation_9 : decode cX3_setFormation 9 = .ok (.ireturn, 1) := by decide +kernel
theorem dX3_setSlowPump_0 : decode cX3_setSlowPump 0 = .ok (.aload_n 0, 1) := by decide +kernel
theorem dX3_setSlowPump_1 : decode cX3_setSlowPump 1 = .ok (.bipush 6, 2) := by decide +kernel
theorem dX3_setSlowPump_3 : decode cX3_setSlowPump 3 = .ok (.iload_n 1, 1) := by decide +kernel
theorem dX3_setSlowPump_4 : decode cX3_setSlowPump 4 = .ok (.iconst 0, 1) := by decide +kernel
theorem dX3_setSlowPump_5 : decode cX3_setSlowPump 5 = .ok (.sipush 9999, 3) := by decide +kernel
theorem dX3_setSlowPump_8 : decode cX3_setSlowPump 8 = .ok (.invokevirtual 82, 3) := by decide +kernel
theorem dX3_setSlowPump_11 : decode cX3_setSlowPump 11 = .ok (.ireturn, 1) := by decide +kernel
theorem dX3_setFracture_0 : decode cX3_setFracture 0 = .ok (.aload_n 0, 1) := by decide +kernel
theorem dX3_setFracture_1 : decode cX3_setFracture 1 = .ok (.bipush 7, 2) := by decide +kernel
theorem dX3_setFracture_3 : decode cX3_setFracture 3 = .ok (.iload_n 1, 1) := by decide +kernel
theorem dX3_setFracture_4 : decode cX3_setFracture 4 = .ok (.iconst 0, 1) := by decide +kernel
theorem dX3_setFracture_5 : decode cX3_setFracture 5 = .ok (.ldc 86, 2) := by decide +kernel
theorem dX3_setFracture_7 : decode cX3_setFracture 7 = .ok (.invokevirtual 82, 3) := by decide +kernel
theorem dX3_setFracture_10 : decode cX3_setFracture 10 = .ok (.ireturn, 1) := by decide +kernel
theorem dX3_pump_0 : decode cX3_pump 0 = .ok (.iload_n 1, 1) := by decide +kernel
theorem dX3_pump_1 : decode cX3_pump 1 = .ok (.iconst 1, 1) := by decide +kernel
theorem dX3_pump_2 : decode cX3_pump 2 = .ok (.if_icmp .ge 10, 3) := by decide +kernel
theorem dX3_pump_5 : decode cX3_pump 5 = .ok (.aload_n 0, 1) := by decide +kernel
theorem dX3_pump_6 : decode cX3_pump 6 = .ok (.bipush (-2), 2) := by decide +kernel
theorem dX3_pump_8 : decode cX3_pump 8 = .ok (.invokevirtual 76, 3) := by decide +kernel
theorem dX3_pump_11 : decode cX3_pump 11 = .ok (.ireturn, 1) := by decide +kernel
theorem dX3_pump_12 : decode cX3_pump 12 = .ok (.iload_n 1, 1) := by decide +kernel
theorem dX3_pump_13 : decode cX3_pump 13 = .ok (.aload_n 0, 1) := by decide +kernel
theorem dX3_pump_14 : decode cX3_pump 14 = .ok (.iconst 0, 1) := by decide +kernel
theorem dX3_pump_15 : decode cX3_pump 15 = .ok (.invokevirtual 37, 3) := by decide +kernel
theorem dX3_pump_18 : decode cX3_pump 18 = .ok (.if_icmp .gt 12, 3) := by decide +kernel
theorem dX3_pump_21 : decode cX3_pump 21 = .ok (.iload_n 1, 1) := by decide +kernel
theorem dX3_pump_22 : decode cX3_pump 22 = .ok (.aload_n 0, 1) := by decide +kernel
theorem dX3_pump_23 : decode cX3_pump 23 = .ok (.iconst 1, 1) := by decide +kernel
theorem dX3_pump_24 : decode cX3_pump 24 = .ok (.invokevirtual 37, 3) := by decide +kernel
theorem dX3_pump_27 : decode cX3_pump 27 = .ok (.if_icmp .le 10, 3) := by decide +kernel
theorem dX3_pump_30 : decode cX3_pump 30 = .ok (.aload_n 0, 1) := by decide +kernel
theorem dX3_pump_31 : decode cX3_pump 31 = .ok (.bipush (-3), 2) := by decide +kernel
theorem dX3_pump_33 : decode cX3_pump 33 = .ok (.invokevirtual 76, 3) := by decide +kernel
theorem dX3_pump_36 : decode cX3_pump 36 = .ok (.ireturn, 1) := by decide +kernel
theorem dX3_pump_37 : decode cX3_pump 37 = .ok (.aload_n 0, 1) := by decide +kernel
theorem dX3_pump_38 : decode cX3_pump 38 = .ok (.invokevirtual 79, 3) := by decide +kernel
theorem dX3_pump_41 : decode cX3_pump 41 = .ok (.aload_n 0, 1) := by decide +kernel
theorem dX3_pump_42 : decode cX3_pump 42 = .ok (.iload_n 1, 1) := by decide +kernel
theorem dX3_pump_43 : decode cX3_pump 43 = .ok (.aload_n 0, 1) := by decide +kernel
theorem dX3_pump_44 : decode cX3_pump 44 = .ok (.getfield 7, 3) := by decide +kernel
theorem dX3_pump_47 : decode cX3_pump 47 = .ok (.iconst 4, 1) := by decide +kernel
theorem dX3_pump_48 : decode cX3_pump 48 = .ok (.iaload, 1) := by decide +kernel
theorem dX3_pump_49 : decode cX3_pump 49 = .ok (.invokevirtual 87, 3) := by decide +kernel
theorem dX3_pump_52 : decode cX3_pump 52 = .ok (.aload_n 0, 1) := by decide +kernel
theorem dX3_pump_53 : decode cX3_pump 53 = .ok (.invokevirtual 90, 3) := by decide +kernel
theorem dX3_pump_56 : decode cX3_pump 56 = .ok (.aload_n 0, 1) := by decide +kernel
theorem dX3_pump_57 : decode cX3_pump 57 = .ok (.iconst 1, 1) := by decide +kernel
theorem dX3_pump_58 : decode cX3_pump 58 = .ok (.invokevirtual 65, 3) := by decide +kernel
theorem dX3_pump_61 : decode cX3_pump 61 = .ok (.ireturn, 1) := by decide +kernel
theorem dX3_influx_0 : decode cX3_influx 0 = .ok (.iload_n 1, 1) := by decide +kernel
theorem dX3_influx_1 : decode cX3_influx 1 = .ok (.iconst 1, 1) := by decide +kernel
theorem dX3_influx_2 : decode cX3_influx 2 = .ok (.if_icmp .lt 14, 3) := by decide +kernel
theorem dX3_influx_5 : decode cX3_influx 5 = .ok (.iload_n 2, 1) := by decide +kernel
theorem dX3_influx_6 : decode cX3_influx 6 = .ok (.iconst 1, 1) := by decide +kernel
theorem dX3_influx_7 : decode cX3_influx 7 = .ok (.sipush 2500, 3) := by decide +kernel
theorem dX3_influx_10 : decode cX3_influx 10 = .ok (.invokestatic 72, 3) := by decide +kernel
theorem dX3_influx_13 : decode cX3_influx 13 = .ok (.ifCond .ne 10, 3) := by decide +kernel
theorem dX3_influx_16 : decode cX3_influx 16 = .ok (.aload_n 0, 1) := by decide +kernel
theorem dX3_influx_17 : decode cX3_influx 17 = .ok (.bipush (-2), 2) := by decide +kernel
theorem dX3_influx_19 : decode cX3_influx 19 = .ok (.invokevirtual 76, 3) := by decide +kernel
theorem dX3_influx_22 : decode cX3_influx 22 = .ok (.ireturn, 1) := by decide +kernel
theorem dX3_influx_23 : decode cX3_influx 23 = .ok (.iload_n 1, 1) := by decide +kernel
theorem dX3_influx_24 : decode cX3_influx 24 = .ok (.aload_n 0, 1) := by decide +kernel
theorem dX3_influx_25 : decode cX3_influx 25 = .ok (.iconst 1, 1) := by decide +kernel
theorem dX3_influx_26 : decode cX3_influx 26 = .ok (.invokevirtual 37, 3) := by decide +kernel
theorem dX3_influx_29 : decode cX3_influx 29 = .ok (.if_icmp .le 10, 3) := by decide +kernel
theorem dX3_influx_32 : decode cX3_influx 32 = .ok (.aload_n 0, 1) := by decide +kernel
theorem dX3_influx_33 : decode cX3_influx 33 = .ok (.bipush (-3), 2) := by decide +kernel
theorem dX3_influx_35 : decode cX3_influx 35 = .ok (.invokevirtual 76, 3) := by decide +kernel
theorem dX3_influx_38 : decode cX3_influx 38 = .ok (.ireturn, 1) := by decide +kernel
theorem dX3_influx_39 : decode cX3_influx 39 = .ok (.aload_n 0, 1) := by decide +kernel
theorem dX3_influx_40 : decode cX3_influx 40 = .ok (.invokevirtual 79, 3) := by decide +kernel
theorem dX3_influx_43 : decode cX3_influx 43 = .ok (.aload_n 0, 1) := by decide +kernel
theorem dX3_influx_44 : decode cX3_influx 44 = .ok (.iload_n 1, 1) := by decide +kernel
theorem dX3_influx_45 : decode cX3_influx 45 = .ok (.iload_n 2, 1) := by decide +kernel
theorem dX3_influx_46 : decode cX3_influx 46 = .ok (.invokevirtual 44, 3) := by decide +kernel
theorem dX3_influx_49 : decode cX3_influx 49 = .ok (.aload_n 0, 1) := by decide +kernel
theorem dX3_influx_50 : decode cX3_influx 50 = .ok (.iload_n 1, 1) := by decide +kernel
theorem dX3_influx_51 : decode cX3_influx 51 = .ok (.invokevirtual 55, 3) := by decide +kernel
theorem dX3_influx_54 : decode cX3_influx 54 = .ok (.aload_n 0, 1) := by decide +kernel
theorem dX3_influx_55 : decode cX3_influx 55 = .ok (.getfield 7, 3) := by decide +kernel
theorem dX3_influx_58 : decode cX3_influx 58 = .ok (.bipush 8, 2) := by decide +kernel
theorem dX3_influx_60 : decode cX3_influx 60 = .ok (.dup2, 1) := by decide +kernel
theorem dX3_influx_61 : decode cX3_influx 61 = .ok (.iaload, 1) := by decide +kernel
theorem dX3_influx_62 : decode cX3_influx 62 = .ok (.iload_n 1, 1) := by decide +kernel
theorem dX3_influx_63 : decode cX3_influx 63 = .ok (.iadd, 1) := by decide +kernel
theorem dX3_influx_64 : decode cX3_influx 64 = .ok (.iastore, 1) := by decide +kernel
theorem dX3_influx_65 : decode cX3_influx 65 = .ok (.aload_n 0, 1) := by decide +kernel
theorem dX3_influx_66 : decode cX3_influx 66 = .ok (.invokevirtual 90, 3) := by decide +kernel
theorem dX3_influx_69 : decode cX3_influx 69 = .ok (.aload_n 0, 1) := by decide +kernel
theorem dX3_influx_70 : decode cX3_influx 70 = .ok (.iconst 1, 1) := by decide +kernel
theorem dX3_influx_71 : decode cX3_influx 71 = .ok (.invokevirtual 65, 3) := by decide +kernel
theorem dX3_influx_74 : decode cX3_influx 74 = .ok (.ireturn, 1) := by decide +kernel
theorem dX3_isColumn_0 : decode cX3_isColumn 0 = .ok (.iload_n 0, 1) := by decide +kernel
theorem dX3_isColumn_1 : decode cX3_isColumn 1 = .ok (.iconst 0, 1) := by decide +kernel
theorem dX3_isColumn_2 : decode cX3_isColumn 2 = .ok (.iconst 1, 1) := by decide +kernel
theorem dX3_isColumn_3 : decode cX3_isColumn 3 = .ok (.invokestatic 72, 3) := by decide +kernel
theorem dX3_isColumn_6 : decode cX3_isColumn 6 = .ok (.ireturn, 1) := by decide +kernel
theorem dX3_hydrostatic_0 : decode cX3_hydrostatic 0 = .ok (.iload_n 1, 1) := by decide +kernel
theorem dX3_hydrostatic_1 : decode cX3_hydrostatic 1 = .ok (.invokestatic 93, 3) := by decide +kernel
theorem dX3_hydrostatic_4 : decode cX3_hydrostatic 4 = .ok (.ifCond .eq 17, 3) := by decide +kernel
theorem dX3_hydrostatic_7 : decode cX3_hydrostatic 7 = .ok (.aload_n 0, 1) := by decide +kernel
theorem dX3_hydrostatic_8 : decode cX3_hydrostatic 8 = .ok (.iload_n 1, 1) := by decide +kernel
theorem dX3_hydrostatic_9 : decode cX3_hydrostatic 9 = .ok (.aload_n 0, 1) := by decide +kernel
theorem dX3_hydrostatic_10 : decode cX3_hydrostatic 10 = .ok (.getfield 7, 3) := by decide +kernel
theorem dX3_hydrostatic_13 : decode cX3_hydrostatic 13 = .ok (.iconst 0, 1) := by decide +kernel
theorem dX3_hydrostatic_14 : decode cX3_hydrostatic 14 = .ok (.iaload, 1) := by decide +kernel
theorem dX3_hydrostatic_15 : decode cX3_hydrostatic 15 = .ok (.invokevirtual 62, 3) := by decide +kernel
theorem dX3_hydrostatic_18 : decode cX3_hydrostatic 18 = .ok (.goto 9, 3) := by decide +kernel
theorem dX3_hydrostatic_21 : decode cX3_hydrostatic 21 = .ok (.aload_n 0, 1) := by decide +kernel
theorem dX3_hydrostatic_22 : decode cX3_hydrostatic 22 = .ok (.bipush (-2), 2) := by decide +kernel
theorem dX3_hydrostatic_24 : decode cX3_hydrostatic 24 = .ok (.invokevirtual 76, 3) := by decide +kernel
theorem dX3_hydrostatic_27 : decode cX3_hydrostatic 27 = .ok (.ireturn, 1) := by decide +kernel
theorem dX3_hydrostaticAbove_0 : decode cX3_hydrostaticAbove 0 = .ok (.iload_n 1, 1) := by decide +kernel
theorem dX3_hydrostaticAbove_1 : decode cX3_hydrostaticAbove 1 = .ok (.invokestatic 93, 3) := by decide +kernel
theorem dX3_hydrostaticAbove_4 : decode cX3_hydrostaticAbove 4 = .ok (.ifCond .eq 26, 3) := by decide +kernel
theorem dX3_hydrostaticAbove_7 : decode cX3_hydrostaticAbove 7 = .ok (.iload_n 2, 1) := by decide +kernel
theorem dX3_hydrostaticAbove_8 : decode cX3_hydrostaticAbove 8 = .ok (.iconst 0, 1) := by decide +kernel
theorem dX3_hydrostaticAbove_9 : decode cX3_hydrostaticAbove 9 = .ok (.aload_n 0, 1) := by decide +kernel
theorem dX3_hydrostaticAbove_10 : decode cX3_hydrostaticAbove 10 = .ok (.getfield 7, 3) := by decide +kernel
theorem dX3_hydrostaticAbove_13 : decode cX3_hydrostaticAbove 13 = .ok (.iconst 0, 1) := by decide +kernel
theorem dX3_hydrostaticAbove_14 : decode cX3_hydrostaticAbove 14 = .ok (.iaload, 1) := by decide +kernel
theorem dX3_hydrostaticAbove_15 : decode cX3_hydrostaticAbove 15 = .ok (.invokestatic 72, 3) := by decide +kernel
theorem dX3_hydrostaticAbove_18 : decode cX3_hydrostaticAbove 18 = .ok (.ifCond .eq 12, 3) := by decide +kernel
theorem dX3_hydrostaticAbove_21 : decode cX3_hydrostaticAbove 21 = .ok (.aload_n 0, 1) := by decide +kernel
theorem dX3_hydrostaticAbove_22 : decode cX3_hydrostaticAbove 22 = .ok (.iload_n 1, 1) := by decide +kernel
theorem dX3_hydrostaticAbove_23 : decode cX3_hydrostaticAbove 23 = .ok (.iload_n 2, 1) := by decide +kernel
theorem dX3_hydrostaticAbove_24 : decode cX3_hydrostaticAbove 24 = .ok (.invokevirtual 62, 3) := by decide +kernel
theorem dX3_hydrostaticAbove_27 : decode cX3_hydrostaticAbove 27 = .ok (.goto 9, 3) := by decide +kernel
theorem dX3_hydrostaticAbove_30 : decode cX3_hydrostaticAbove 30 = .ok (.aload_n 0, 1) := by decide +kernel
theorem dX3_hydrostaticAbove_31 : decode cX3_hydrostaticAbove 31 = .ok (.bipush (-2), 2) := by decide +kernel
theorem dX3_hydrostaticAbove_33 : decode cX3_hydrostaticAbove 33 = .ok (.invokevirtual 76, 3) := by decide +kernel
theorem dX3_hydrostaticAbove_36 : decode cX3_hydrostaticAbove 36 = .ok (.ireturn, 1) := by decide +kernel
theorem dX3_drillPipePressure_0 : decode cX3_drillPipePressure 0 = .ok (.aload_n 0, 1) := by decide +kernel
theorem dX3_drillPipePressure_1 : decode cX3_drillPipePressure 1 = .ok (.iconst 0, 1) := by decide +kernel
theorem dX3_drillPipePressure_2 : decode cX3_drillPipePressure 2 = .ok (.invokevirtual 65, 3) := by decide +kernel
theorem dX3_drillPipePressure_5 : decode cX3_drillPipePressure 5 = .ok (.ireturn, 1) := by decide +kernel
theorem dX3_casingPressure_0 : decode cX3_casingPressure 0 = .ok (.aload_n 0, 1) := by decide +kernel
theorem dX3_casingPressure_1 : decode cX3_casingPressure 1 = .ok (.iconst 1, 1) := by decide +kernel
theorem dX3_casingPressure_2 : decode cX3_casingPressure 2 = .ok (.invokevirtual 65, 3) := by decide +kernel
theorem dX3_casingPressure_5 : decode cX3_casingPressure 5 = .ok (.ireturn, 1) := by decide +kernel
theorem dX3_standpipePressure_0 : decode cX3_standpipePressure 0 = .ok (.aload_n 0, 1) := by decide +kernel
theorem dX3_standpipePressure_1 : decode cX3_standpipePressure 1 = .ok (.getfield 7, 3) := by decide +kernel
theorem dX3_standpipePressure_4 : decode cX3_standpipePressure 4 = .ok (.bipush 6, 2) := by decide +kernel
theorem dX3_standpipePressure_6 : decode cX3_standpipePressure 6 = .ok (.iaload, 1) := by decide +kernel
theorem dX3_standpipePressure_7 : decode cX3_standpipePressure 7 = .ok (.aload_n 0, 1) := by decide +kernel
theorem dX3_standpipePressure_8 : decode cX3_standpipePressure 8 = .ok (.iconst 0, 1) := by decide +kernel
theorem dX3_standpipePressure_9 : decode cX3_standpipePressure 9 = .ok (.invokevirtual 65, 3) := by decide +kernel
theorem dX3_standpipePressure_12 : decode cX3_standpipePressure 12 = .ok (.iadd, 1) := by decide +kernel
theorem dX3_standpipePressure_13 : decode cX3_standpipePressure 13 = .ok (.ireturn, 1) := by decide +kernel
theorem dX3_shoePressure_0 : decode cX3_shoePressure 0 = .ok (.aload_n 0, 1) := by decide +kernel
theorem dX3_shoePressure_1 : decode cX3_shoePressure 1 = .ok (.invokevirtual 68, 3) := by decide +kernel
theorem dX3_shoePressure_4 : decode cX3_shoePressure 4 = .ok (.ireturn, 1) := by decide +kernel
theorem dX3_allowedCasingPressure_0 : decode cX3_allowedCasingPressure 0 = .ok (.aload_n 0, 1) := by decide +kernel
theorem dX3_allowedCasingPressure_1 : decode cX3_allowedCasingPressure 1 = .ok (.getfield 7, 3) := by decide +kernel
theorem dX3_allowedCasingPressure_4 : decode cX3_allowedCasingPressure 4 = .ok (.bipush 7, 2) := by decide +kernel
theorem dX3_allowedCasingPressure_6 : decode cX3_allowedCasingPressure 6 = .ok (.iaload, 1) := by decide +kernel
theorem dX3_allowedCasingPressure_7 : decode cX3_allowedCasingPressure 7 = .ok (.aload_n 0, 1) := by decide +kernel
theorem dX3_allowedCasingPressure_8 : decode cX3_allowedCasingPressure 8 = .ok (.iconst 1, 1) := by decide +kernel
theorem dX3_allowedCasingPressure_9 : decode cX3_allowedCasingPressure 9 = .ok (.aload_n 0, 1) := by decide +kernel
theorem dX3_allowedCasingPressure_10 : decode cX3_allowedCasingPressure 10 = .ok (.getfield 7, 3) := by decide +kernel
theorem dX3_allowedCasingPressure_13 : decode cX3_allowedCasingPressure 13 = .ok (.iconst 3, 1) := by decide +kernel
theorem dX3_allowedCasingPressure_14 : decode cX3_allowedCasingPressure 14 = .ok (.iaload, 1) := by decide +kernel
theorem dX3_allowedCasingPressure_15 : decode cX3_allowedCasingPressure 15 = .ok (.invokevirtual 62, 3) := by decide +kernel
theorem dX3_allowedCasingPressure_18 : decode cX3_allowedCasingPressure 18 = .ok (.isub, 1) := by decide +kernel
theorem dX3_allowedCasingPressure_19 : decode cX3_allowedCasingPressure 19 = .ok (.ireturn, 1) := by decide +kernel
theorem dX3_leastDensity_0 : decode cX3_leastDensity 0 = .ok (.iconst 1, 1) := by decide +kernel
theorem dX3_leastDensity_1 : decode cX3_leastDensity 1 = .ok (.istore_n 1, 1) := by decide +kernel
theorem dX3_leastDensity_2 : decode cX3_leastDensity 2 = .ok (.iload_n 1, 1) := by decide +kernel
theorem dX3_leastDensity_3 : decode cX3_leastDensity 3 = .ok (.sipush 2500, 3) := by decide +kernel
theorem dX3_leastDensity_6 : decode cX3_leastDensity 6 = .ok (.if_icmp .gt 49, 3) := by decide +kernel
theorem dX3_leastDensity_9 : decode cX3_leastDensity 9 = .ok (.iload_n 1, 1) := by decide +kernel
theorem dX3_leastDensity_10 : decode cX3_leastDensity 10 = .ok (.i2l, 1) := by decide +kernel
theorem dX3_leastDensity_11 : decode cX3_leastDensity 11 = .ok (.aload_n 0, 1) := by decide +kernel
theorem dX3_leastDensity_12 : decode cX3_leastDensity 12 = .ok (.iconst 0, 1) := by decide +kernel
theorem dX3_leastDensity_13 : decode cX3_leastDensity 13 = .ok (.invokevirtual 37, 3) := by decide +kernel
theorem dX3_leastDensity_16 : decode cX3_leastDensity 16 = .ok (.i2l, 1) := by decide +kernel
theorem dX3_leastDensity_17 : decode cX3_leastDensity 17 = .ok (.lmul, 1) := by decide +kernel
theorem dX3_leastDensity_18 : decode cX3_leastDensity 18 = .ok (.lstore_n 2, 1) := by decide +kernel
theorem dX3_leastDensity_19 : decode cX3_leastDensity 19 = .ok (.ldc2_w 58, 3) := by decide +kernel
theorem dX3_leastDensity_22 : decode cX3_leastDensity 22 = .ok (.lload_n 2, 1) := by decide +kernel
theorem dX3_leastDensity_23 : decode cX3_leastDensity 23 = .ok (.lmul, 1) := by decide +kernel
theorem dX3_leastDensity_24 : decode cX3_leastDensity 24 = .ok (.ldc2_w 60, 3) := by decide +kernel
theorem dX3_leastDensity_27 : decode cX3_leastDensity 27 = .ok (.aload_n 0, 1) := by decide +kernel
theorem dX3_leastDensity_28 : decode cX3_leastDensity 28 = .ok (.getfield 7, 3) := by decide +kernel
theorem dX3_leastDensity_31 : decode cX3_leastDensity 31 = .ok (.iconst 1, 1) := by decide +kernel
theorem dX3_leastDensity_32 : decode cX3_leastDensity 32 = .ok (.iaload, 1) := by decide +kernel
theorem dX3_leastDensity_33 : decode cX3_leastDensity 33 = .ok (.i2l, 1) := by decide +kernel
theorem dX3_leastDensity_34 : decode cX3_leastDensity 34 = .ok (.lmul, 1) := by decide +kernel
theorem dX3_leastDensity_35 : decode cX3_leastDensity 35 = .ok (.ldiv, 1) := by decide +kernel
theorem dX3_leastDensity_36 : decode cX3_leastDensity 36 = .ok (.aload_n 0, 1) := by decide +kernel
theorem dX3_leastDensity_37 : decode cX3_leastDensity 37 = .ok (.getfield 7, 3) := by decide +kernel
theorem dX3_leastDensity_40 : decode cX3_leastDensity 40 = .ok (.iconst 5, 1) := by decide +kernel
theorem dX3_leastDensity_41 : decode cX3_leastDensity 41 = .ok (.iaload, 1) := by decide +kernel
theorem dX3_leastDensity_42 : decode cX3_leastDensity 42 = .ok (.i2l, 1) := by decide +kernel
theorem dX3_leastDensity_43 : decode cX3_leastDensity 43 = .ok (.lcmp, 1) := by decide +kernel
theorem dX3_leastDensity_44 : decode cX3_leastDensity 44 = .ok (.ifCond .lt 5, 3) := by decide +kernel
theorem dX3_leastDensity_47 : decode cX3_leastDensity 47 = .ok (.iload_n 1, 1) := by decide +kernel
theorem dX3_leastDensity_48 : decode cX3_leastDensity 48 = .ok (.ireturn, 1) := by decide +kernel
theorem dX3_leastDensity_49 : decode cX3_leastDensity 49 = .ok (.iinc 1 1, 3) := by decide +kernel
theorem dX3_leastDensity_52 : decode cX3_leastDensity 52 = .ok (.goto (-50), 3) := by decide +kernel
theorem dX3_leastDensity_55 : decode cX3_leastDensity 55 = .ok (.bipush (-4), 2) := by decide +kernel
theorem dX3_leastDensity_57 : decode cX3_leastDensity 57 = .ok (.ireturn, 1) := by decide +kernel
theorem dX3_killDensity_0 : decode cX3_killDensity 0 = .ok (.aload_n 0, 1) := by decide +kernel
theorem dX3_killDensity_1 : decode cX3_killDensity 1 = .ok (.invokevirtual 97, 3) := by decide +kernel
theorem dX3_killDensity_4 : decode cX3_killDensity 4 = .ok (.istore_n 1, 1) := by decide +kernel
theorem dX3_killDensity_5 : decode cX3_killDensity 5 = .ok (.iload_n 1, 1) := by decide +kernel
theorem dX3_killDensity_6 : decode cX3_killDensity 6 = .ok (.bipush (-4), 2) := by decide +kernel
theorem dX3_killDensity_8 : decode cX3_killDensity 8 = .ok (.if_icmp .ne 12, 3) := by decide +kernel
theorem dX3_killDensity_11 : decode cX3_killDensity 11 = .ok (.aload_n 0, 1) := by decide +kernel
theorem dX3_killDensity_12 : decode cX3_killDensity 12 = .ok (.bipush (-4), 2) := by decide +kernel
theorem dX3_killDensity_14 : decode cX3_killDensity 14 = .ok (.invokevirtual 76, 3) := by decide +kernel
theorem dX3_killDensity_17 : decode cX3_killDensity 17 = .ok (.goto 4, 3) := by decide +kernel
theorem dX3_killDensity_20 : decode cX3_killDensity 20 = .ok (.iload_n 1, 1) := by decide +kernel
theorem dX3_killDensity_21 : decode cX3_killDensity 21 = .ok (.ireturn, 1) := by decide +kernel
theorem dX3_pumpAll_0 : decode cX3_pumpAll 0 = .ok (.iload 4, 2) := by decide +kernel
theorem dX3_pumpAll_2 : decode cX3_pumpAll 2 = .ok (.istore 5, 2) := by decide +kernel
theorem dX3_pumpAll_4 : decode cX3_pumpAll 4 = .ok (.iconst 0, 1) := by decide +kernel
theorem dX3_pumpAll_5 : decode cX3_pumpAll 5 = .ok (.istore 6, 2) := by decide +kernel
theorem dX3_pumpAll_7 : decode cX3_pumpAll 7 = .ok (.iload 6, 2) := by decide +kernel
theorem dX3_pumpAll_9 : decode cX3_pumpAll 9 = .ok (.iload_n 1, 1) := by decide +kernel
theorem dX3_pumpAll_10 : decode cX3_pumpAll 10 = .ok (.if_icmp .ge 40, 3) := by decide +kernel
theorem dX3_pumpAll_13 : decode cX3_pumpAll 13 = .ok (.aload_n 0, 1) := by decide +kernel
theorem dX3_pumpAll_14 : decode cX3_pumpAll 14 = .ok (.iload_n 2, 1) := by decide +kernel
theorem dX3_pumpAll_15 : decode cX3_pumpAll 15 = .ok (.iload_n 3, 1) := by decide +kernel
theorem dX3_pumpAll_16 : decode cX3_pumpAll 16 = .ok (.invokevirtual 87, 3) := by decide +kernel
theorem dX3_pumpAll_19 : decode cX3_pumpAll 19 = .ok (.aload_n 0, 1) := by decide +kernel
theorem dX3_pumpAll_20 : decode cX3_pumpAll 20 = .ok (.invokevirtual 68, 3) := by decide +kernel
theorem dX3_pumpAll_23 : decode cX3_pumpAll 23 = .ok (.istore 7, 2) := by decide +kernel
theorem dX3_pumpAll_25 : decode cX3_pumpAll 25 = .ok (.iload 7, 2) := by decide +kernel
theorem dX3_pumpAll_27 : decode cX3_pumpAll 27 = .ok (.iload 5, 2) := by decide +kernel
theorem dX3_pumpAll_29 : decode cX3_pumpAll 29 = .ok (.if_icmp .le 8, 3) := by decide +kernel
theorem dX3_pumpAll_32 : decode cX3_pumpAll 32 = .ok (.iload 7, 2) := by decide +kernel
theorem dX3_pumpAll_34 : decode cX3_pumpAll 34 = .ok (.goto 5, 3) := by decide +kernel
theorem dX3_pumpAll_37 : decode cX3_pumpAll 37 = .ok (.iload 5, 2) := by decide +kernel
theorem dX3_pumpAll_39 : decode cX3_pumpAll 39 = .ok (.istore 5, 2) := by decide +kernel
theorem dX3_pumpAll_41 : decode cX3_pumpAll 41 = .ok (.iload 6, 2) := by decide +kernel
theorem dX3_pumpAll_43 : decode cX3_pumpAll 43 = .ok (.iload_n 2, 1) := by decide +kernel
theorem dX3_pumpAll_44 : decode cX3_pumpAll 44 = .ok (.iadd, 1) := by decide +kernel
theorem dX3_pumpAll_45 : decode cX3_pumpAll 45 = .ok (.istore 6, 2) := by decide +kernel
theorem dX3_pumpAll_47 : decode cX3_pumpAll 47 = .ok (.goto (-40), 3) := by decide +kernel
theorem dX3_pumpAll_50 : decode cX3_pumpAll 50 = .ok (.iload 5, 2) := by decide +kernel
theorem dX3_pumpAll_52 : decode cX3_pumpAll 52 = .ok (.ireturn, 1) := by decide +kernel
theorem dX3_killShoePressure_0 : decode cX3_killShoePressure 0 = .ok (.iload_n 1, 1) := by decide +kernel
theorem dX3_killShoePressure_1 : decode cX3_killShoePressure 1 = .ok (.iconst 0, 1) := by decide +kernel
theorem dX3_killShoePressure_2 : decode cX3_killShoePressure 2 = .ok (.iconst 1, 1) := by decide +kernel
theorem dX3_killShoePressure_3 : decode cX3_killShoePressure 3 = .ok (.invokestatic 72, 3) := by decide +kernel
theorem dX3_killShoePressure_6 : decode cX3_killShoePressure 6 = .ok (.ifCond .eq 15, 3) := by decide +kernel
theorem dX3_killShoePressure_9 : decode cX3_killShoePressure 9 = .ok (.iload_n 2, 1) := by decide +kernel
theorem dX3_killShoePressure_10 : decode cX3_killShoePressure 10 = .ok (.bipush 100, 2) := by decide +kernel
theorem dX3_killShoePressure_12 : decode cX3_killShoePressure 12 = .ok (.sipush 9000, 3) := by decide +kernel
theorem dX3_killShoePressure_15 : decode cX3_killShoePressure 15 = .ok (.invokestatic 72, 3) := by decide +kernel
theorem dX3_killShoePressure_18 : decode cX3_killShoePressure 18 = .ok (.ifCond .ne 10, 3) := by decide +kernel
theorem dX3_killShoePressure_21 : decode cX3_killShoePressure 21 = .ok (.aload_n 0, 1) := by decide +kernel
theorem dX3_killShoePressure_22 : decode cX3_killShoePressure 22 = .ok (.bipush (-2), 2) := by decide +kernel
theorem dX3_killShoePressure_24 : decode cX3_killShoePressure 24 = .ok (.invokevirtual 76, 3) := by decide +kernel
theorem dX3_killShoePressure_27 : decode cX3_killShoePressure 27 = .ok (.ireturn, 1) := by decide +kernel
theorem dX3_killShoePressure_28 : decode cX3_killShoePressure 28 = .ok (.iload_n 2, 1) := by decide +kernel
theorem dX3_killShoePressure_29 : decode cX3_killShoePressure 29 = .ok (.aload_n 0, 1) := by decide +kernel
theorem dX3_killShoePressure_30 : decode cX3_killShoePressure 30 = .ok (.iconst 0, 1) := by decide +kernel
theorem dX3_killShoePressure_31 : decode cX3_killShoePressure 31 = .ok (.invokevirtual 37, 3) := by decide +kernel
theorem dX3_killShoePressure_34 : decode cX3_killShoePressure 34 = .ok (.if_icmp .gt 12, 3) := by decide +kernel
theorem dX3_killShoePressure_37 : decode cX3_killShoePressure 37 = .ok (.iload_n 2, 1) := by decide +kernel
theorem dX3_killShoePressure_38 : decode cX3_killShoePressure 38 = .ok (.aload_n 0, 1) := by decide +kernel
theorem dX3_killShoePressure_39 : decode cX3_killShoePressure 39 = .ok (.iconst 1, 1) := by decide +kernel
theorem dX3_killShoePressure_40 : decode cX3_killShoePressure 40 = .ok (.invokevirtual 37, 3) := by decide +kernel
theorem dX3_killShoePressure_43 : decode cX3_killShoePressure 43 = .ok (.if_icmp .le 10, 3) := by decide +kernel
theorem dX3_killShoePressure_46 : decode cX3_killShoePressure 46 = .ok (.aload_n 0, 1) := by decide +kernel
theorem dX3_killShoePressure_47 : decode cX3_killShoePressure 47 = .ok (.bipush (-3), 2) := by decide +kernel
theorem dX3_killShoePressure_49 : decode cX3_killShoePressure 49 = .ok (.invokevirtual 76, 3) := by decide +kernel
theorem dX3_killShoePressure_52 : decode cX3_killShoePressure 52 = .ok (.ireturn, 1) := by decide +kernel
theorem dX3_killShoePressure_53 : decode cX3_killShoePressure 53 = .ok (.aload_n 0, 1) := by decide +kernel
theorem dX3_killShoePressure_54 : decode cX3_killShoePressure 54 = .ok (.invokevirtual 97, 3) := by decide +kernel
theorem dX3_killShoePressure_57 : decode cX3_killShoePressure 57 = .ok (.istore_n 3, 1) := by decide +kernel
theorem dX3_killShoePressure_58 : decode cX3_killShoePressure 58 = .ok (.iload_n 3, 1) := by decide +kernel
theorem dX3_killShoePressure_59 : decode cX3_killShoePressure 59 = .ok (.bipush (-4), 2) := by decide +kernel
theorem dX3_killShoePressure_61 : decode cX3_killShoePressure 61 = .ok (.if_icmp .ne 10, 3) := by decide +kernel
theorem dX3_killShoePressure_64 : decode cX3_killShoePressure 64 = .ok (.aload_n 0, 1) := by decide +kernel
theorem dX3_killShoePressure_65 : decode cX3_killShoePressure 65 = .ok (.bipush (-4), 2) := by decide +kernel
theorem dX3_killShoePressure_67 : decode cX3_killShoePressure 67 = .ok (.invokevirtual 76, 3) := by decide +kernel
theorem dX3_killShoePressure_70 : decode cX3_killShoePressure 70 = .ok (.ireturn, 1) := by decide +kernel
theorem dX3_killShoePressure_71 : decode cX3_killShoePressure 71 = .ok (.aload_n 0, 1) := by decide +kernel
theorem dX3_killShoePressure_72 : decode cX3_killShoePressure 72 = .ok (.getfield 7, 3) := by decide +kernel
theorem dX3_killShoePressure_75 : decode cX3_killShoePressure 75 = .ok (.iconst 0, 1) := by decide +kernel
theorem dX3_killShoePressure_76 : decode cX3_killShoePressure 76 = .ok (.aload_n 0, 1) := by decide +kernel
theorem dX3_killShoePressure_77 : decode cX3_killShoePressure 77 = .ok (.getfield 13, 3) := by decide +kernel
theorem dX3_killShoePressure_80 : decode cX3_killShoePressure 80 = .ok (.iconst 0, 1) := by decide +kernel
theorem dX3_killShoePressure_81 : decode cX3_killShoePressure 81 = .ok (.invokestatic 29, 3) := by decide +kernel
theorem dX3_killShoePressure_84 : decode cX3_killShoePressure 84 = .ok (.iload_n 1, 1) := by decide +kernel
theorem dX3_killShoePressure_85 : decode cX3_killShoePressure 85 = .ok (.ifCond .ne 23, 3) := by decide +kernel
theorem dX3_killShoePressure_88 : decode cX3_killShoePressure 88 = .ok (.aload_n 0, 1) := by decide +kernel
theorem dX3_killShoePressure_89 : decode cX3_killShoePressure 89 = .ok (.aload_n 0, 1) := by decide +kernel
theorem dX3_killShoePressure_90 : decode cX3_killShoePressure 90 = .ok (.iconst 1, 1) := by decide +kernel
theorem dX3_killShoePressure_91 : decode cX3_killShoePressure 91 = .ok (.invokevirtual 37, 3) := by decide +kernel
theorem dX3_killShoePressure_94 : decode cX3_killShoePressure 94 = .ok (.iload_n 2, 1) := by decide +kernel
theorem dX3_killShoePressure_95 : decode cX3_killShoePressure 95 = .ok (.aload_n 0, 1) := by decide +kernel
theorem dX3_killShoePressure_96 : decode cX3_killShoePressure 96 = .ok (.getfield 7, 3) := by decide +kernel
theorem dX3_killShoePressure_99 : decode cX3_killShoePressure 99 = .ok (.iconst 4, 1) := by decide +kernel
theorem dX3_killShoePressure_100 : decode cX3_killShoePressure 100 = .ok (.iaload, 1) := by decide +kernel
theorem dX3_killShoePressure_101 : decode cX3_killShoePressure 101 = .ok (.iconst 0, 1) := by decide +kernel
theorem dX3_killShoePressure_102 : decode cX3_killShoePressure 102 = .ok (.invokevirtual 100, 3) := by decide +kernel
theorem dX3_killShoePressure_105 : decode cX3_killShoePressure 105 = .ok (.goto 4, 3) := by decide +kernel
theorem dX3_killShoePressure_108 : decode cX3_killShoePressure 108 = .ok (.iconst 0, 1) := by decide +kernel
theorem dX3_killShoePressure_109 : decode cX3_killShoePressure 109 = .ok (.istore 4, 2) := by decide +kernel
theorem dX3_killShoePressure_111 : decode cX3_killShoePressure 111 = .ok (.aload_n 0, 1) := by decide +kernel
theorem dX3_killShoePressure_112 : decode cX3_killShoePressure 112 = .ok (.aload_n 0, 1) := by decide +kernel
theorem dX3_killShoePressure_113 : decode cX3_killShoePressure 113 = .ok (.iconst 0, 1) := by decide +kernel
theorem dX3_killShoePressure_114 : decode cX3_killShoePressure 114 = .ok (.invokevirtual 37, 3) := by decide +kernel
theorem dX3_killShoePressure_117 : decode cX3_killShoePressure 117 = .ok (.aload_n 0, 1) := by decide +kernel
theorem dX3_killShoePressure_118 : decode cX3_killShoePressure 118 = .ok (.iconst 1, 1) := by decide +kernel
theorem dX3_killShoePressure_119 : decode cX3_killShoePressure 119 = .ok (.invokevirtual 37, 3) := by decide +kernel
theorem dX3_killShoePressure_122 : decode cX3_killShoePressure 122 = .ok (.iadd, 1) := by decide +kernel
theorem dX3_killShoePressure_123 : decode cX3_killShoePressure 123 = .ok (.iload_n 2, 1) := by decide +kernel
theorem dX3_killShoePressure_124 : decode cX3_killShoePressure 124 = .ok (.iload_n 3, 1) := by decide +kernel
theorem dX3_killShoePressure_125 : decode cX3_killShoePressure 125 = .ok (.iload 4, 2) := by decide +kernel
theorem dX3_killShoePressure_127 : decode cX3_killShoePressure 127 = .ok (.invokevirtual 100, 3) := by decide +kernel
theorem dX3_killShoePressure_130 : decode cX3_killShoePressure 130 = .ok (.istore 4, 2) := by decide +kernel
theorem dX3_killShoePressure_132 : decode cX3_killShoePressure 132 = .ok (.aload_n 0, 1) := by decide +kernel
theorem dX3_killShoePressure_133 : decode cX3_killShoePressure 133 = .ok (.getfield 13, 3) := by decide +kernel
theorem dX3_killShoePressure_136 : decode cX3_killShoePressure 136 = .ok (.iconst 0, 1) := by decide +kernel
theorem dX3_killShoePressure_137 : decode cX3_killShoePressure 137 = .ok (.aload_n 0, 1) := by decide +kernel
theorem dX3_killShoePressure_138 : decode cX3_killShoePressure 138 = .ok (.getfield 7, 3) := by decide +kernel
theorem dX3_killShoePressure_141 : decode cX3_killShoePressure 141 = .ok (.iconst 0, 1) := by decide +kernel
theorem dX3_killShoePressure_142 : decode cX3_killShoePressure 142 = .ok (.invokestatic 29, 3) := by decide +kernel
theorem dX3_killShoePressure_145 : decode cX3_killShoePressure 145 = .ok (.iload 4, 2) := by decide +kernel
theorem dX3_killShoePressure_147 : decode cX3_killShoePressure 147 = .ok (.ireturn, 1) := by decide +kernel
theorem dX3_schedule_0 : decode cX3_schedule 0 = .ok (.iload_n 1, 1) := by decide +kernel
theorem dX3_schedule_1 : decode cX3_schedule 1 = .ok (.iconst 0, 1) := by decide +kernel
theorem dX3_schedule_2 : decode cX3_schedule 2 = .ok (.bipush 100, 2) := by decide +kernel
theorem dX3_schedule_4 : decode cX3_schedule 4 = .ok (.invokestatic 72, 3) := by decide +kernel
theorem dX3_schedule_7 : decode cX3_schedule 7 = .ok (.ifCond .ne 10, 3) := by decide +kernel
theorem dX3_schedule_10 : decode cX3_schedule 10 = .ok (.aload_n 0, 1) := by decide +kernel
theorem dX3_schedule_11 : decode cX3_schedule 11 = .ok (.bipush (-2), 2) := by decide +kernel
theorem dX3_schedule_13 : decode cX3_schedule 13 = .ok (.invokevirtual 76, 3) := by decide +kernel
theorem dX3_schedule_16 : decode cX3_schedule 16 = .ok (.ireturn, 1) := by decide +kernel
theorem dX3_schedule_17 : decode cX3_schedule 17 = .ok (.aload_n 0, 1) := by decide +kernel
theorem dX3_schedule_18 : decode cX3_schedule 18 = .ok (.invokevirtual 97, 3) := by decide +kernel
theorem dX3_schedule_21 : decode cX3_schedule 21 = .ok (.istore_n 2, 1) := by decide +kernel
theorem dX3_schedule_22 : decode cX3_schedule 22 = .ok (.iload_n 2, 1) := by decide +kernel
theorem dX3_schedule_23 : decode cX3_schedule 23 = .ok (.bipush (-4), 2) := by decide +kernel
theorem dX3_schedule_25 : decode cX3_schedule 25 = .ok (.if_icmp .ne 10, 3) := by decide +kernel
theorem dX3_schedule_28 : decode cX3_schedule 28 = .ok (.aload_n 0, 1) := by decide +kernel
theorem dX3_schedule_29 : decode cX3_schedule 29 = .ok (.bipush (-4), 2) := by decide +kernel
theorem dX3_schedule_31 : decode cX3_schedule 31 = .ok (.invokevirtual 76, 3) := by decide +kernel
theorem dX3_schedule_34 : decode cX3_schedule 34 = .ok (.ireturn, 1) := by decide +kernel
theorem dX3_schedule_35 : decode cX3_schedule 35 = .ok (.aload_n 0, 1) := by decide +kernel
theorem dX3_schedule_36 : decode cX3_schedule 36 = .ok (.getfield 7, 3) := by decide +kernel
theorem dX3_schedule_39 : decode cX3_schedule 39 = .ok (.bipush 6, 2) := by decide +kernel
theorem dX3_schedule_41 : decode cX3_schedule 41 = .ok (.iaload, 1) := by decide +kernel
theorem dX3_schedule_42 : decode cX3_schedule 42 = .ok (.aload_n 0, 1) := by decide +kernel
theorem dX3_schedule_43 : decode cX3_schedule 43 = .ok (.iconst 0, 1) := by decide +kernel
theorem dX3_schedule_44 : decode cX3_schedule 44 = .ok (.invokevirtual 65, 3) := by decide +kernel
theorem dX3_schedule_47 : decode cX3_schedule 47 = .ok (.iadd, 1) := by decide +kernel
theorem dX3_schedule_48 : decode cX3_schedule 48 = .ok (.i2l, 1) := by decide +kernel
theorem dX3_schedule_49 : decode cX3_schedule 49 = .ok (.lstore_n 3, 1) := by decide +kernel
theorem dX3_schedule_50 : decode cX3_schedule 50 = .ok (.aload_n 0, 1) := by decide +kernel
theorem dX3_schedule_51 : decode cX3_schedule 51 = .ok (.getfield 7, 3) := by decide +kernel
theorem dX3_schedule_54 : decode cX3_schedule 54 = .ok (.bipush 6, 2) := by decide +kernel
theorem dX3_schedule_56 : decode cX3_schedule 56 = .ok (.iaload, 1) := by decide +kernel
theorem dX3_schedule_57 : decode cX3_schedule 57 = .ok (.i2l, 1) := by decide +kernel
theorem dX3_schedule_58 : decode cX3_schedule 58 = .ok (.iload_n 2, 1) := by decide +kernel
theorem dX3_schedule_59 : decode cX3_schedule 59 = .ok (.i2l, 1) := by decide +kernel
theorem dX3_schedule_60 : decode cX3_schedule 60 = .ok (.lmul, 1) := by decide +kernel
theorem dX3_schedule_61 : decode cX3_schedule 61 = .ok (.aload_n 0, 1) := by decide +kernel
theorem dX3_schedule_62 : decode cX3_schedule 62 = .ok (.getfield 7, 3) := by decide +kernel
theorem dX3_schedule_65 : decode cX3_schedule 65 = .ok (.iconst 4, 1) := by decide +kernel
theorem dX3_schedule_66 : decode cX3_schedule 66 = .ok (.iaload, 1) := by decide +kernel
theorem dX3_schedule_67 : decode cX3_schedule 67 = .ok (.i2l, 1) := by decide +kernel
theorem dX3_schedule_68 : decode cX3_schedule 68 = .ok (.ldiv, 1) := by decide +kernel
theorem dX3_schedule_69 : decode cX3_schedule 69 = .ok (.lstore 5, 2) := by decide +kernel
theorem dX3_schedule_71 : decode cX3_schedule 71 = .ok (.lload_n 3, 1) := by decide +kernel
theorem dX3_schedule_72 : decode cX3_schedule 72 = .ok (.lload 5, 2) := by decide +kernel
theorem dX3_schedule_74 : decode cX3_schedule 74 = .ok (.lload_n 3, 1) := by decide +kernel
theorem dX3_schedule_75 : decode cX3_schedule 75 = .ok (.lsub, 1) := by decide +kernel
theorem dX3_schedule_76 : decode cX3_schedule 76 = .ok (.iload_n 1, 1) := by decide +kernel
theorem dX3_schedule_77 : decode cX3_schedule 77 = .ok (.i2l, 1) := by decide +kernel
theorem dX3_schedule_78 : decode cX3_schedule 78 = .ok (.lmul, 1) := by decide +kernel
theorem dX3_schedule_79 : decode cX3_schedule 79 = .ok (.ldc2_w 103, 3) := by decide +kernel
theorem dX3_schedule_82 : decode cX3_schedule 82 = .ok (.ldiv, 1) := by decide +kernel
theorem dX3_schedule_83 : decode cX3_schedule 83 = .ok (.ladd, 1) := by decide +kernel
theorem dX3_schedule_84 : decode cX3_schedule 84 = .ok (.l2i, 1) := by decide +kernel
theorem dX3_schedule_85 : decode cX3_schedule 85 = .ok (.ireturn, 1) := by decide +kernel
theorem dX3_strokesToBit_0 : decode cX3_strokesToBit 0 = .ok (.iload_n 1, 1) := by decide +kernel
theorem dX3_strokesToBit_1 : decode cX3_strokesToBit 1 = .ok (.iconst 1, 1) := by decide +kernel
theorem dX3_strokesToBit_2 : decode cX3_strokesToBit 2 = .ok (.bipush 100, 2) := by decide +kernel
theorem dX3_strokesToBit_4 : decode cX3_strokesToBit 4 = .ok (.invokestatic 72, 3) := by decide +kernel
theorem dX3_strokesToBit_7 : decode cX3_strokesToBit 7 = .ok (.ifCond .eq 17, 3) := by decide +kernel
theorem dX3_strokesToBit_10 : decode cX3_strokesToBit 10 = .ok (.aload_n 0, 1) := by decide +kernel
theorem dX3_strokesToBit_11 : decode cX3_strokesToBit 11 = .ok (.iconst 0, 1) := by decide +kernel
theorem dX3_strokesToBit_12 : decode cX3_strokesToBit 12 = .ok (.invokevirtual 37, 3) := by decide +kernel
theorem dX3_strokesToBit_15 : decode cX3_strokesToBit 15 = .ok (.iload_n 1, 1) := by decide +kernel
theorem dX3_strokesToBit_16 : decode cX3_strokesToBit 16 = .ok (.iadd, 1) := by decide +kernel
theorem dX3_strokesToBit_17 : decode cX3_strokesToBit 17 = .ok (.iconst 1, 1) := by decide +kernel
theorem dX3_strokesToBit_18 : decode cX3_strokesToBit 18 = .ok (.isub, 1) := by decide +kernel
theorem dX3_strokesToBit_19 : decode cX3_strokesToBit 19 = .ok (.iload_n 1, 1) := by decide +kernel
theorem dX3_strokesToBit_20 : decode cX3_strokesToBit 20 = .ok (.idiv, 1) := by decide +kernel
theorem dX3_strokesToBit_21 : decode cX3_strokesToBit 21 = .ok (.goto 9, 3) := by decide +kernel
theorem dX3_strokesToBit_24 : decode cX3_strokesToBit 24 = .ok (.aload_n 0, 1) := by decide +kernel
theorem dX3_strokesToBit_25 : decode cX3_strokesToBit 25 = .ok (.bipush (-2), 2) := by decide +kernel
theorem dX3_strokesToBit_27 : decode cX3_strokesToBit 27 = .ok (.invokevirtual 76, 3) := by decide +kernel
theorem dX3_strokesToBit_30 : decode cX3_strokesToBit 30 = .ok (.ireturn, 1) := by decide +kernel
theorem dX3_layers_0 : decode cX3_layers 0 = .ok (.iload_n 1, 1) := by decide +kernel
theorem dX3_layers_1 : decode cX3_layers 1 = .ok (.invokestatic 93, 3) := by decide +kernel
theorem dX3_layers_4 : decode cX3_layers 4 = .ok (.ifCond .eq 15, 3) := by decide +kernel
theorem dX3_layers_7 : decode cX3_layers 7 = .ok (.aload_n 0, 1) := by decide +kernel
theorem dX3_layers_8 : decode cX3_layers 8 = .ok (.getfield 7, 3) := by decide +kernel
theorem dX3_layers_11 : decode cX3_layers 11 = .ok (.bipush 11, 2) := by decide +kernel
theorem dX3_layers_13 : decode cX3_layers 13 = .ok (.iload_n 1, 1) := by decide +kernel
theorem dX3_layers_14 : decode cX3_layers 14 = .ok (.iadd, 1) := by decide +kernel
theorem dX3_layers_15 : decode cX3_layers 15 = .ok (.iaload, 1) := by decide +kernel
theorem dX3_layers_16 : decode cX3_layers 16 = .ok (.goto 9, 3) := by decide +kernel
theorem dX3_layers_19 : decode cX3_layers 19 = .ok (.aload_n 0, 1) := by decide +kernel
theorem dX3_layers_20 : decode cX3_layers 20 = .ok (.bipush (-2), 2) := by decide +kernel
theorem dX3_layers_22 : decode cX3_layers 22 = .ok (.invokevirtual 76, 3) := by decide +kernel
theorem dX3_layers_25 : decode cX3_layers 25 = .ok (.ireturn, 1) := by decide +kernel
theorem dX3_ofLayer_0 : decode cX3_ofLayer 0 = .ok (.iload_n 1, 1) := by decide +kernel
theorem dX3_ofLayer_1 : decode cX3_ofLayer 1 = .ok (.invokestatic 93, 3) := by decide +kernel
theorem dX3_ofLayer_4 : decode cX3_ofLayer 4 = .ok (.ifCond .eq 7, 3) := by decide +kernel
theorem dX3_ofLayer_7 : decode cX3_ofLayer 7 = .ok (.iload_n 2, 1) := by decide +kernel
theorem dX3_ofLayer_8 : decode cX3_ofLayer 8 = .ok (.ifCond .ge 10, 3) := by decide +kernel
theorem dX3_ofLayer_11 : decode cX3_ofLayer 11 = .ok (.aload_n 0, 1) := by decide +kernel
theorem dX3_ofLayer_12 : decode cX3_ofLayer 12 = .ok (.bipush (-2), 2) := by decide +kernel
theorem dX3_ofLayer_14 : decode cX3_ofLayer 14 = .ok (.invokevirtual 76, 3) := by decide +kernel
theorem dX3_ofLayer_17 : decode cX3_ofLayer 17 = .ok (.ireturn, 1) := by decide +kernel
theorem dX3_ofLayer_18 : decode cX3_ofLayer 18 = .ok (.iload_n 2, 1) := by decide +kernel
theorem dX3_ofLayer_19 : decode cX3_ofLayer 19 = .ok (.aload_n 0, 1) := by decide +kernel
theorem dX3_ofLayer_20 : decode cX3_ofLayer 20 = .ok (.getfield 7, 3) := by decide +kernel
theorem dX3_ofLayer_23 : decode cX3_ofLayer 23 = .ok (.bipush 11, 2) := by decide +kernel
theorem dX3_ofLayer_25 : decode cX3_ofLayer 25 = .ok (.iload_n 1, 1) := by decide +kernel
theorem dX3_ofLayer_26 : decode cX3_ofLayer 26 = .ok (.iadd, 1) := by decide +kernel
theorem dX3_ofLayer_27 : decode cX3_ofLayer 27 = .ok (.iaload, 1) := by decide +kernel
theorem dX3_ofLayer_28 : decode cX3_ofLayer 28 = .ok (.if_icmp .ge 18, 3) := by decide +kernel
theorem dX3_ofLayer_31 : decode cX3_ofLayer 31 = .ok (.aload_n 0, 1) := by decide +kernel
theorem dX3_ofLayer_32 : decode cX3_ofLayer 32 = .ok (.getfield 7, 3) := by decide +kernel
theorem dX3_ofLayer_35 : decode cX3_ofLayer 35 = .ok (.iload_n 1, 1) := by decide +kernel
theorem dX3_ofLayer_36 : decode cX3_ofLayer 36 = .ok (.iload_n 2, 1) := by decide +kernel
theorem dX3_ofLayer_37 : decode cX3_ofLayer 37 = .ok (.invokestatic 33, 3) := by decide +kernel
theorem dX3_ofLayer_40 : decode cX3_ofLayer 40 = .ok (.iload_n 3, 1) := by decide +kernel
theorem dX3_ofLayer_41 : decode cX3_ofLayer 41 = .ok (.iadd, 1) := by decide +kernel
theorem dX3_ofLayer_42 : decode cX3_ofLayer 42 = .ok (.iaload, 1) := by decide +kernel
theorem dX3_ofLayer_43 : decode cX3_ofLayer 43 = .ok (.goto 9, 3) := by decide +kernel
theorem dX3_ofLayer_46 : decode cX3_ofLayer 46 = .ok (.aload_n 0, 1) := by decide +kernel
theorem dX3_ofLayer_47 : decode cX3_ofLayer 47 = .ok (.bipush (-4), 2) := by decide +kernel
theorem dX3_ofLayer_49 : decode cX3_ofLayer 49 = .ok (.invokevirtual 76, 3) := by decide +kernel
theorem dX3_ofLayer_52 : decode cX3_ofLayer 52 = .ok (.ireturn, 1) := by decide +kernel
theorem dX3_layerVolume_0 : decode cX3_layerVolume 0 = .ok (.aload_n 0, 1) := by decide +kernel
theorem dX3_layerVolume_1 : decode cX3_layerVolume 1 = .ok (.iload_n 1, 1) := by decide +kernel
theorem dX3_layerVolume_2 : decode cX3_layerVolume 2 = .ok (.iload_n 2, 1) := by decide +kernel
theorem dX3_layerVolume_3 : decode cX3_layerVolume 3 = .ok (.iconst 0, 1) := by decide +kernel
theorem dX3_layerVolume_4 : decode cX3_layerVolume 4 = .ok (.invokevirtual 105, 3) := by decide +kernel
theorem dX3_layerVolume_7 : decode cX3_layerVolume 7 = .ok (.ireturn, 1) := by decide +kernel
theorem dX3_layerDensity_0 : decode cX3_layerDensity 0 = .ok (.aload_n 0, 1) := by decide +kernel
theorem dX3_layerDensity_1 : decode cX3_layerDensity 1 = .ok (.iload_n 1, 1) := by decide +kernel
theorem dX3_layerDensity_2 : decode cX3_layerDensity 2 = .ok (.iload_n 2, 1) := by decide +kernel
theorem dX3_layerDensity_3 : decode cX3_layerDensity 3 = .ok (.sipush 1100, 3) := by decide +kernel
theorem dX3_layerDensity_6 : decode cX3_layerDensity 6 = .ok (.invokevirtual 105, 3) := by decide +kernel
theorem dX3_layerDensity_9 : decode cX3_layerDensity 9 = .ok (.ireturn, 1) := by decide +kernel
theorem dX3_gain_0 : decode cX3_gain 0 = .ok (.aload_n 0, 1) := by decide +kernel
theorem dX3_gain_1 : decode cX3_gain 1 = .ok (.getfield 7, 3) := by decide +kernel
theorem dX3_gain_4 : decode cX3_gain 4 = .ok (.bipush 8, 2) := by decide +kernel
theorem dX3_gain_6 : decode cX3_gain 6 = .ok (.iaload, 1) := by decide +kernel
theorem dX3_gain_7 : decode cX3_gain 7 = .ok (.ireturn, 1) := by decide +kernel
theorem dX3_breaks_0 : decode cX3_breaks 0 = .ok (.aload_n 0, 1) := by decide +kernel
theorem dX3_breaks_1 : decode cX3_breaks 1 = .ok (.getfield 7, 3) := by decide +kernel
theorem dX3_breaks_4 : decode cX3_breaks 4 = .ok (.bipush 9, 2) := by decide +kernel
theorem dX3_breaks_6 : decode cX3_breaks 6 = .ok (.iaload, 1) := by decide +kernel
theorem dX3_breaks_7 : decode cX3_breaks 7 = .ok (.ireturn, 1) := by decide +kernel
theorem dX3_greatestShoePressure_0 : decode cX3_greatestShoePressure 0 = .ok (.aload_n 0, 1) := by decide +kernel
theorem dX3_greatestShoePressure_1 : decode cX3_greatestShoePressure 1 = .ok (.getfield 7, 3) := by decide +kernel
theorem dX3_greatestShoePressure_4 : decode cX3_greatestShoePressure 4 = .ok (.bipush 10, 2) := by decide +kernel
theorem dX3_greatestShoePressure_6 : decode cX3_greatestShoePressure 6 = .ok (.iaload, 1) := by decide +kernel
theorem dX3_greatestShoePressure_7 : decode cX3_greatestShoePressure 7 = .ok (.ireturn, 1) := by decide +kernel
theorem dX3_undo_0 : decode cX3_undo 0 = .ok (.aload_n 0, 1) := by decide +kernel
theorem dX3_undo_1 : decode cX3_undo 1 = .ok (.getfield 25, 3) := by decide +kernel
theorem dX3_undo_4 : decode cX3_undo 4 = .ok (.ifCond .ne 10, 3) := by decide +kernel
theorem dX3_undo_7 : decode cX3_undo 7 = .ok (.aload_n 0, 1) := by decide +kernel
theorem dX3_undo_8 : decode cX3_undo 8 = .ok (.bipush (-5), 2) := by decide +kernel
theorem dX3_undo_10 : decode cX3_undo 10 = .ok (.invokevirtual 76, 3) := by decide +kernel
theorem dX3_undo_13 : decode cX3_undo 13 = .ok (.ireturn, 1) := by decide +kernel
theorem dX3_undo_14 : decode cX3_undo 14 = .ok (.aload_n 0, 1) := by decide +kernel
theorem dX3_undo_15 : decode cX3_undo 15 = .ok (.dup, 1) := by decide +kernel
theorem dX3_undo_16 : decode cX3_undo 16 = .ok (.getfield 25, 3) := by decide +kernel
theorem dX3_undo_19 : decode cX3_undo 19 = .ok (.iconst 1, 1) := by decide +kernel
theorem dX3_undo_20 : decode cX3_undo 20 = .ok (.isub, 1) := by decide +kernel
theorem dX3_undo_21 : decode cX3_undo 21 = .ok (.putfield 25, 3) := by decide +kernel
theorem dX3_undo_24 : decode cX3_undo 24 = .ok (.aload_n 0, 1) := by decide +kernel
theorem dX3_undo_25 : decode cX3_undo 25 = .ok (.getfield 16, 3) := by decide +kernel
theorem dX3_undo_28 : decode cX3_undo 28 = .ok (.sipush 4416, 3) := by decide +kernel
theorem dX3_undo_31 : decode cX3_undo 31 = .ok (.aload_n 0, 1) := by decide +kernel
theorem dX3_undo_32 : decode cX3_undo 32 = .ok (.getfield 25, 3) := by decide +kernel
theorem dX3_undo_35 : decode cX3_undo 35 = .ok (.imul, 1) := by decide +kernel
theorem dX3_undo_36 : decode cX3_undo 36 = .ok (.aload_n 0, 1) := by decide +kernel
theorem dX3_undo_37 : decode cX3_undo 37 = .ok (.getfield 7, 3) := by decide +kernel
theorem dX3_undo_40 : decode cX3_undo 40 = .ok (.iconst 0, 1) := by decide +kernel
theorem dX3_undo_41 : decode cX3_undo 41 = .ok (.invokestatic 29, 3) := by decide +kernel
theorem dX3_undo_44 : decode cX3_undo 44 = .ok (.aload_n 0, 1) := by decide +kernel
theorem dX3_undo_45 : decode cX3_undo 45 = .ok (.getfield 25, 3) := by decide +kernel
theorem dX3_undo_48 : decode cX3_undo 48 = .ok (.ireturn, 1) := by decide +kernel
theorem dX3_errorCount_0 : decode cX3_errorCount 0 = .ok (.iload_n 1, 1) := by decide +kernel
theorem dX3_errorCount_1 : decode cX3_errorCount 1 = .ok (.bipush (-5), 2) := by decide +kernel
theorem dX3_errorCount_3 : decode cX3_errorCount 3 = .ok (.bipush (-2), 2) := by decide +kernel
theorem dX3_errorCount_5 : decode cX3_errorCount 5 = .ok (.invokestatic 72, 3) := by decide +kernel
theorem dX3_errorCount_8 : decode cX3_errorCount 8 = .ok (.ifCond .eq 15, 3) := by decide +kernel
theorem dX3_errorCount_11 : decode cX3_errorCount 11 = .ok (.aload_n 0, 1) := by decide +kernel
theorem dX3_errorCount_12 : decode cX3_errorCount 12 = .ok (.getfield 19, 3) := by decide +kernel
theorem dX3_errorCount_15 : decode cX3_errorCount 15 = .ok (.bipush (-2), 2) := by decide +kernel
theorem dX3_errorCount_17 : decode cX3_errorCount 17 = .ok (.iload_n 1, 1) := by decide +kernel
theorem dX3_errorCount_18 : decode cX3_errorCount 18 = .ok (.isub, 1) := by decide +kernel
theorem dX3_errorCount_19 : decode cX3_errorCount 19 = .ok (.iaload, 1) := by decide +kernel
theorem dX3_errorCount_20 : decode cX3_errorCount 20 = .ok (.goto 9, 3) := by decide +kernel
theorem dX3_errorCount_23 : decode cX3_errorCount 23 = .ok (.aload_n 0, 1) := by decide +kernel
theorem dX3_errorCount_24 : decode cX3_errorCount 24 = .ok (.bipush (-2), 2) := by decide +kernel
theorem dX3_errorCount_26 : decode cX3_errorCount 26 = .ok (.invokevirtual 76, 3) := by decide +kernel
theorem dX3_errorCount_29 : decode cX3_errorCount 29 = .ok (.ireturn, 1) := by decide +kernel
theorem dX3_mix_0 : decode cX3_mix 0 = .ok (.aload_n 0, 1) := by decide +kernel
theorem dX3_mix_1 : decode cX3_mix 1 = .ok (.ldc2_w 109, 3) := by decide +kernel
theorem dX3_mix_4 : decode cX3_mix 4 = .ok (.aload_n 0, 1) := by decide +kernel
theorem dX3_mix_5 : decode cX3_mix 5 = .ok (.getfield 111, 3) := by decide +kernel
theorem dX3_mix_8 : decode cX3_mix 8 = .ok (.lmul, 1) := by decide +kernel
theorem dX3_mix_9 : decode cX3_mix 9 = .ok (.lload_n 1, 1) := by decide +kernel
theorem dX3_mix_10 : decode cX3_mix 10 = .ok (.ladd, 1) := by decide +kernel
theorem dX3_mix_11 : decode cX3_mix 11 = .ok (.putfield 111, 3) := by decide +kernel
theorem dX3_mix_14 : decode cX3_mix 14 = .ok (.return_, 1) := by decide +kernel
theorem dX3_digest_0 : decode cX3_digest 0 = .ok (.aload_n 0, 1) := by decide +kernel
theorem dX3_digest_1 : decode cX3_digest 1 = .ok (.ldc2_w 115, 3) := by decide +kernel
theorem dX3_digest_4 : decode cX3_digest 4 = .ok (.putfield 111, 3) := by decide +kernel
theorem dX3_digest_7 : decode cX3_digest 7 = .ok (.iconst 0, 1) := by decide +kernel
theorem dX3_digest_8 : decode cX3_digest 8 = .ok (.istore_n 1, 1) := by decide +kernel
theorem dX3_digest_9 : decode cX3_digest 9 = .ok (.iload_n 1, 1) := by decide +kernel
theorem dX3_digest_10 : decode cX3_digest 10 = .ok (.iconst 4, 1) := by decide +kernel
theorem dX3_digest_11 : decode cX3_digest 11 = .ok (.if_icmp .ge 20, 3) := by decide +kernel
theorem dX3_digest_14 : decode cX3_digest 14 = .ok (.aload_n 0, 1) := by decide +kernel
theorem dX3_digest_15 : decode cX3_digest 15 = .ok (.aload_n 0, 1) := by decide +kernel
theorem dX3_digest_16 : decode cX3_digest 16 = .ok (.getfield 19, 3) := by decide +kernel
theorem dX3_digest_19 : decode cX3_digest 19 = .ok (.iload_n 1, 1) := by decide +kernel
theorem dX3_digest_20 : decode cX3_digest 20 = .ok (.iaload, 1) := by decide +kernel
theorem dX3_digest_21 : decode cX3_digest 21 = .ok (.i2l, 1) := by decide +kernel
theorem dX3_digest_22 : decode cX3_digest 22 = .ok (.invokevirtual 117, 3) := by decide +kernel
theorem dX3_digest_25 : decode cX3_digest 25 = .ok (.iinc 1 1, 3) := by decide +kernel
theorem dX3_digest_28 : decode cX3_digest 28 = .ok (.goto (-19), 3) := by decide +kernel
theorem dX3_digest_31 : decode cX3_digest 31 = .ok (.iconst 0, 1) := by decide +kernel
theorem dX3_digest_32 : decode cX3_digest 32 = .ok (.istore_n 1, 1) := by decide +kernel
theorem dX3_digest_33 : decode cX3_digest 33 = .ok (.iload_n 1, 1) := by decide +kernel
theorem dX3_digest_34 : decode cX3_digest 34 = .ok (.bipush 7, 2) := by decide +kernel
theorem dX3_digest_36 : decode cX3_digest 36 = .ok (.if_icmp .gt 20, 3) := by decide +kernel
theorem dX3_digest_39 : decode cX3_digest 39 = .ok (.aload_n 0, 1) := by decide +kernel
theorem dX3_digest_40 : decode cX3_digest 40 = .ok (.aload_n 0, 1) := by decide +kernel
theorem dX3_digest_41 : decode cX3_digest 41 = .ok (.getfield 7, 3) := by decide +kernel
theorem dX3_digest_44 : decode cX3_digest 44 = .ok (.iload_n 1, 1) := by decide +kernel
theorem dX3_digest_45 : decode cX3_digest 45 = .ok (.iaload, 1) := by decide +kernel
theorem dX3_digest_46 : decode cX3_digest 46 = .ok (.i2l, 1) := by decide +kernel
theorem dX3_digest_47 : decode cX3_digest 47 = .ok (.invokevirtual 117, 3) := by decide +kernel
theorem dX3_digest_50 : decode cX3_digest 50 = .ok (.iinc 1 1, 3) := by decide +kernel
theorem dX3_digest_53 : decode cX3_digest 53 = .ok (.goto (-20), 3) := by decide +kernel
theorem dX3_digest_56 : decode cX3_digest 56 = .ok (.iconst 0, 1) := by decide +kernel
theorem dX3_digest_57 : decode cX3_digest 57 = .ok (.istore_n 1, 1) := by decide +kernel
theorem dX3_digest_58 : decode cX3_digest 58 = .ok (.iload_n 1, 1) := by decide +kernel
theorem dX3_digest_59 : decode cX3_digest 59 = .ok (.iconst 2, 1) := by decide +kernel
theorem dX3_digest_60 : decode cX3_digest 60 = .ok (.if_icmp .ge 74, 3) := by decide +kernel
theorem dX3_digest_63 : decode cX3_digest 63 = .ok (.aload_n 0, 1) := by decide +kernel
theorem dX3_digest_64 : decode cX3_digest 64 = .ok (.aload_n 0, 1) := by decide +kernel
theorem dX3_digest_65 : decode cX3_digest 65 = .ok (.getfield 7, 3) := by decide +kernel
theorem dX3_digest_68 : decode cX3_digest 68 = .ok (.bipush 11, 2) := by decide +kernel
theorem dX3_digest_70 : decode cX3_digest 70 = .ok (.iload_n 1, 1) := by decide +kernel
theorem dX3_digest_71 : decode cX3_digest 71 = .ok (.iadd, 1) := by decide +kernel
theorem dX3_digest_72 : decode cX3_digest 72 = .ok (.iaload, 1) := by decide +kernel
theorem dX3_digest_73 : decode cX3_digest 73 = .ok (.i2l, 1) := by decide +kernel
theorem dX3_digest_74 : decode cX3_digest 74 = .ok (.invokevirtual 117, 3) := by decide +kernel
theorem dX3_digest_77 : decode cX3_digest 77 = .ok (.iconst 0, 1) := by decide +kernel
theorem dX3_digest_78 : decode cX3_digest 78 = .ok (.istore_n 2, 1) := by decide +kernel
theorem dX3_digest_79 : decode cX3_digest 79 = .ok (.iload_n 2, 1) := by decide +kernel
theorem dX3_digest_80 : decode cX3_digest 80 = .ok (.aload_n 0, 1) := by decide +kernel
theorem dX3_digest_81 : decode cX3_digest 81 = .ok (.getfield 7, 3) := by decide +kernel
theorem dX3_digest_84 : decode cX3_digest 84 = .ok (.bipush 11, 2) := by decide +kernel
theorem dX3_digest_86 : decode cX3_digest 86 = .ok (.iload_n 1, 1) := by decide +kernel
theorem dX3_digest_87 : decode cX3_digest 87 = .ok (.iadd, 1) := by decide +kernel
theorem dX3_digest_88 : decode cX3_digest 88 = .ok (.iaload, 1) := by decide +kernel
theorem dX3_digest_89 : decode cX3_digest 89 = .ok (.if_icmp .ge 39, 3) := by decide +kernel
theorem dX3_digest_92 : decode cX3_digest 92 = .ok (.aload_n 0, 1) := by decide +kernel
theorem dX3_digest_93 : decode cX3_digest 93 = .ok (.aload_n 0, 1) := by decide +kernel
theorem dX3_digest_94 : decode cX3_digest 94 = .ok (.getfield 7, 3) := by decide +kernel
theorem dX3_digest_97 : decode cX3_digest 97 = .ok (.iload_n 1, 1) := by decide +kernel
theorem dX3_digest_98 : decode cX3_digest 98 = .ok (.iload_n 2, 1) := by decide +kernel
theorem dX3_digest_99 : decode cX3_digest 99 = .ok (.invokestatic 33, 3) := by decide +kernel
theorem dX3_digest_102 : decode cX3_digest 102 = .ok (.iaload, 1) := by decide +kernel
theorem dX3_digest_103 : decode cX3_digest 103 = .ok (.i2l, 1) := by decide +kernel
theorem dX3_digest_104 : decode cX3_digest 104 = .ok (.invokevirtual 117, 3) := by decide +kernel
theorem dX3_digest_107 : decode cX3_digest 107 = .ok (.aload_n 0, 1) := by decide +kernel
theorem dX3_digest_108 : decode cX3_digest 108 = .ok (.aload_n 0, 1) := by decide +kernel
theorem dX3_digest_109 : decode cX3_digest 109 = .ok (.getfield 7, 3) := by decide +kernel
theorem dX3_digest_112 : decode cX3_digest 112 = .ok (.iload_n 1, 1) := by decide +kernel
theorem dX3_digest_113 : decode cX3_digest 113 = .ok (.iload_n 2, 1) := by decide +kernel
theorem dX3_digest_114 : decode cX3_digest 114 = .ok (.invokestatic 41, 3) := by decide +kernel
theorem dX3_digest_117 : decode cX3_digest 117 = .ok (.iaload, 1) := by decide +kernel
theorem dX3_digest_118 : decode cX3_digest 118 = .ok (.i2l, 1) := by decide +kernel
theorem dX3_digest_119 : decode cX3_digest 119 = .ok (.invokevirtual 117, 3) := by decide +kernel
theorem dX3_digest_122 : decode cX3_digest 122 = .ok (.iinc 2 1, 3) := by decide +kernel
theorem dX3_digest_125 : decode cX3_digest 125 = .ok (.goto (-46), 3) := by decide +kernel
theorem dX3_digest_128 : decode cX3_digest 128 = .ok (.iinc 1 1, 3) := by decide +kernel
theorem dX3_digest_131 : decode cX3_digest 131 = .ok (.goto (-73), 3) := by decide +kernel
theorem dX3_digest_134 : decode cX3_digest 134 = .ok (.aload_n 0, 1) := by decide +kernel
theorem dX3_digest_135 : decode cX3_digest 135 = .ok (.aload_n 0, 1) := by decide +kernel
theorem dX3_digest_136 : decode cX3_digest 136 = .ok (.iconst 0, 1) := by decide +kernel
theorem dX3_digest_137 : decode cX3_digest 137 = .ok (.invokevirtual 65, 3) := by decide +kernel
theorem dX3_digest_140 : decode cX3_digest 140 = .ok (.i2l, 1) := by decide +kernel
theorem dX3_digest_141 : decode cX3_digest 141 = .ok (.invokevirtual 117, 3) := by decide +kernel
theorem dX3_digest_144 : decode cX3_digest 144 = .ok (.aload_n 0, 1) := by decide +kernel
theorem dX3_digest_145 : decode cX3_digest 145 = .ok (.aload_n 0, 1) := by decide +kernel
theorem dX3_digest_146 : decode cX3_digest 146 = .ok (.iconst 1, 1) := by decide +kernel
theorem dX3_digest_147 : decode cX3_digest 147 = .ok (.invokevirtual 65, 3) := by decide +kernel
theorem dX3_digest_150 : decode cX3_digest 150 = .ok (.i2l, 1) := by decide +kernel
theorem dX3_digest_151 : decode cX3_digest 151 = .ok (.invokevirtual 117, 3) := by decide +kernel
theorem dX3_digest_154 : decode cX3_digest 154 = .ok (.aload_n 0, 1) := by decide +kernel
theorem dX3_digest_155 : decode cX3_digest 155 = .ok (.aload_n 0, 1) := by decide +kernel
theorem dX3_digest_156 : decode cX3_digest 156 = .ok (.getfield 7, 3) := by decide +kernel
theorem dX3_digest_159 : decode cX3_digest 159 = .ok (.bipush 6, 2) := by decide +kernel
theorem dX3_digest_161 : decode cX3_digest 161 = .ok (.iaload, 1) := by decide +kernel
theorem dX3_digest_162 : decode cX3_digest 162 = .ok (.aload_n 0, 1) := by decide +kernel
theorem dX3_digest_163 : decode cX3_digest 163 = .ok (.iconst 0, 1) := by decide +kernel
theorem dX3_digest_164 : decode cX3_digest 164 = .ok (.invokevirtual 65, 3) := by decide +kernel
theorem dX3_digest_167 : decode cX3_digest 167 = .ok (.iadd, 1) := by decide +kernel
theorem dX3_digest_168 : decode cX3_digest 168 = .ok (.i2l, 1) := by decide +kernel
theorem dX3_digest_169 : decode cX3_digest 169 = .ok (.invokevirtual 117, 3) := by decide +kernel
theorem dX3_digest_172 : decode cX3_digest 172 = .ok (.aload_n 0, 1) := by decide +kernel
theorem dX3_digest_173 : decode cX3_digest 173 = .ok (.aload_n 0, 1) := by decide +kernel
theorem dX3_digest_174 : decode cX3_digest 174 = .ok (.invokevirtual 68, 3) := by decide +kernel
theorem dX3_digest_177 : decode cX3_digest 177 = .ok (.i2l, 1) := by decide +kernel
theorem dX3_digest_178 : decode cX3_digest 178 = .ok (.invokevirtual 117, 3) := by decide +kernel
theorem dX3_digest_181 : decode cX3_digest 181 = .ok (.bipush 8, 2) := by decide +kernel
theorem dX3_digest_183 : decode cX3_digest 183 = .ok (.istore_n 1, 1) := by decide +kernel
theorem dX3_digest_184 : decode cX3_digest 184 = .ok (.iload_n 1, 1) := by decide +kernel
theorem dX3_digest_185 : decode cX3_digest 185 = .ok (.bipush 10, 2) := by decide +kernel
theorem dX3_digest_187 : decode cX3_digest 187 = .ok (.if_icmp .gt 20, 3) := by decide +kernel
theorem dX3_digest_190 : decode cX3_digest 190 = .ok (.aload_n 0, 1) := by decide +kernel
theorem dX3_digest_191 : decode cX3_digest 191 = .ok (.aload_n 0, 1) := by decide +kernel
theorem dX3_digest_192 : decode cX3_digest 192 = .ok (.getfield 7, 3) := by decide +kernel
theorem dX3_digest_195 : decode cX3_digest 195 = .ok (.iload_n 1, 1) := by decide +kernel
theorem dX3_digest_196 : decode cX3_digest 196 = .ok (.iaload, 1) := by decide +kernel
theorem dX3_digest_197 : decode cX3_digest 197 = .ok (.i2l, 1) := by decide +kernel
theorem dX3_digest_198 : decode cX3_digest 198 = .ok (.invokevirtual 117, 3) := by decide +kernel
theorem dX3_digest_201 : decode cX3_digest 201 = .ok (.iinc 1 1, 3) := by decide +kernel
theorem dX3_digest_204 : decode cX3_digest 204 = .ok (.goto (-20), 3) := by decide +kernel
theorem dX3_digest_207 : decode cX3_digest 207 = .ok (.aload_n 0, 1) := by decide +kernel
theorem dX3_digest_208 : decode cX3_digest 208 = .ok (.aload_n 0, 1) := by decide +kernel
theorem dX3_digest_209 : decode cX3_digest 209 = .ok (.getfield 25, 3) := by decide +kernel
theorem dX3_digest_212 : decode cX3_digest 212 = .ok (.i2l, 1) := by decide +kernel
theorem dX3_digest_213 : decode cX3_digest 213 = .ok (.invokevirtual 117, 3) := by decide +kernel
theorem dX3_digest_216 : decode cX3_digest 216 = .ok (.aload_n 0, 1) := by decide +kernel
theorem dX3_digest_217 : decode cX3_digest 217 = .ok (.getfield 111, 3) := by decide +kernel
theorem dX3_digest_220 : decode cX3_digest 220 = .ok (.lreturn, 1) := by decide +kernel
