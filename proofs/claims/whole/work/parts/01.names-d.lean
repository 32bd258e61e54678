theorem dX2_init_0 : decode cX2_init 0 = .ok (.aload_n 0, 1) := by decide +kernel
theorem dX2_init_1 : decode cX2_init 1 = .ok (.invokespecial 1, 3) := by decide +kernel
theorem dX2_init_4 : decode cX2_init 4 = .ok (.aload_n 0, 1) := by decide +kernel
theorem dX2_init_5 : decode cX2_init 5 = .ok (.new 7, 3) := by decide +kernel
theorem dX2_init_8 : decode cX2_init 8 = .ok (.dup, 1) := by decide +kernel
theorem dX2_init_9 : decode cX2_init 9 = .ok (.invokespecial 9, 3) := by decide +kernel
theorem dX2_init_12 : decode cX2_init 12 = .ok (.putfield 10, 3) := by decide +kernel
theorem dX2_init_15 : decode cX2_init 15 = .ok (.aload_n 0, 1) := by decide +kernel
theorem dX2_init_16 : decode cX2_init 16 = .ok (.new 7, 3) := by decide +kernel
theorem dX2_init_19 : decode cX2_init 19 = .ok (.dup, 1) := by decide +kernel
theorem dX2_init_20 : decode cX2_init 20 = .ok (.invokespecial 9, 3) := by decide +kernel
theorem dX2_init_23 : decode cX2_init 23 = .ok (.putfield 16, 3) := by decide +kernel
theorem dX2_init_26 : decode cX2_init 26 = .ok (.aload_n 0, 1) := by decide +kernel
theorem dX2_init_27 : decode cX2_init 27 = .ok (.iconst 4, 1) := by decide +kernel
theorem dX2_init_28 : decode cX2_init 28 = .ok (.anewarray 7, 3) := by decide +kernel
theorem dX2_init_31 : decode cX2_init 31 = .ok (.putfield 19, 3) := by decide +kernel
theorem dX2_init_34 : decode cX2_init 34 = .ok (.iconst 0, 1) := by decide +kernel
theorem dX2_init_35 : decode cX2_init 35 = .ok (.istore_n 1, 1) := by decide +kernel
theorem dX2_init_36 : decode cX2_init 36 = .ok (.iload_n 1, 1) := by decide +kernel
theorem dX2_init_37 : decode cX2_init 37 = .ok (.iconst 4, 1) := by decide +kernel
theorem dX2_init_38 : decode cX2_init 38 = .ok (.if_icmp .ge 22, 3) := by decide +kernel
theorem dX2_init_41 : decode cX2_init 41 = .ok (.aload_n 0, 1) := by decide +kernel
theorem dX2_init_42 : decode cX2_init 42 = .ok (.getfield 19, 3) := by decide +kernel
theorem dX2_init_45 : decode cX2_init 45 = .ok (.iload_n 1, 1) := by decide +kernel
theorem dX2_init_46 : decode cX2_init 46 = .ok (.new 7, 3) := by decide +kernel
theorem dX2_init_49 : decode cX2_init 49 = .ok (.dup, 1) := by decide +kernel
theorem dX2_init_50 : decode cX2_init 50 = .ok (.invokespecial 9, 3) := by decide +kernel
theorem dX2_init_53 : decode cX2_init 53 = .ok (.aastore, 1) := by decide +kernel
theorem dX2_init_54 : decode cX2_init 54 = .ok (.iinc 1 1, 3) := by decide +kernel
theorem dX2_init_57 : decode cX2_init 57 = .ok (.goto (-21), 3) := by decide +kernel
theorem dX2_init_60 : decode cX2_init 60 = .ok (.aload_n 0, 1) := by decide +kernel
theorem dX2_init_61 : decode cX2_init 61 = .ok (.iconst 0, 1) := by decide +kernel
theorem dX2_init_62 : decode cX2_init 62 = .ok (.putfield 23, 3) := by decide +kernel
theorem dX2_init_65 : decode cX2_init 65 = .ok (.aload_n 0, 1) := by decide +kernel
theorem dX2_init_66 : decode cX2_init 66 = .ok (.iconst 4, 1) := by decide +kernel
theorem dX2_init_67 : decode cX2_init 67 = .ok (.newarray .int, 2) := by decide +kernel
theorem dX2_init_69 : decode cX2_init 69 = .ok (.putfield 27, 3) := by decide +kernel
theorem dX2_init_72 : decode cX2_init 72 = .ok (.return_, 1) := by decide +kernel
theorem dX2_setGeometry_0 : decode cX2_setGeometry 0 = .ok (.iload_n 1, 1) := by decide +kernel
theorem dX2_setGeometry_1 : decode cX2_setGeometry 1 = .ok (.bipush 100, 2) := by decide +kernel
theorem dX2_setGeometry_3 : decode cX2_setGeometry 3 = .ok (.sipush 3000, 3) := by decide +kernel
theorem dX2_setGeometry_6 : decode cX2_setGeometry 6 = .ok (.invokestatic 31, 3) := by decide +kernel
theorem dX2_setGeometry_9 : decode cX2_setGeometry 9 = .ok (.ifCond .eq 37, 3) := by decide +kernel
theorem dX2_setGeometry_12 : decode cX2_setGeometry 12 = .ok (.iload_n 2, 1) := by decide +kernel
theorem dX2_setGeometry_13 : decode cX2_setGeometry 13 = .ok (.iconst 1, 1) := by decide +kernel
theorem dX2_setGeometry_14 : decode cX2_setGeometry 14 = .ok (.bipush 20, 2) := by decide +kernel
theorem dX2_setGeometry_16 : decode cX2_setGeometry 16 = .ok (.invokestatic 31, 3) := by decide +kernel
theorem dX2_setGeometry_19 : decode cX2_setGeometry 19 = .ok (.ifCond .eq 27, 3) := by decide +kernel
theorem dX2_setGeometry_22 : decode cX2_setGeometry 22 = .ok (.iload_n 3, 1) := by decide +kernel
theorem dX2_setGeometry_23 : decode cX2_setGeometry 23 = .ok (.iconst 5, 1) := by decide +kernel
theorem dX2_setGeometry_24 : decode cX2_setGeometry 24 = .ok (.bipush 60, 2) := by decide +kernel
theorem dX2_setGeometry_26 : decode cX2_setGeometry 26 = .ok (.invokestatic 31, 3) := by decide +kernel
theorem dX2_setGeometry_29 : decode cX2_setGeometry 29 = .ok (.ifCond .eq 17, 3) := by decide +kernel
theorem dX2_setGeometry_32 : decode cX2_setGeometry 32 = .ok (.iload 4, 2) := by decide +kernel
theorem dX2_setGeometry_34 : decode cX2_setGeometry 34 = .ok (.iconst 1, 1) := by decide +kernel
theorem dX2_setGeometry_35 : decode cX2_setGeometry 35 = .ok (.iload_n 1, 1) := by decide +kernel
theorem dX2_setGeometry_36 : decode cX2_setGeometry 36 = .ok (.invokestatic 31, 3) := by decide +kernel
theorem dX2_setGeometry_39 : decode cX2_setGeometry 39 = .ok (.ifCond .eq 7, 3) := by decide +kernel
theorem dX2_setGeometry_42 : decode cX2_setGeometry 42 = .ok (.iconst 1, 1) := by decide +kernel
theorem dX2_setGeometry_43 : decode cX2_setGeometry 43 = .ok (.goto 4, 3) := by decide +kernel
theorem dX2_setGeometry_46 : decode cX2_setGeometry 46 = .ok (.iconst 0, 1) := by decide +kernel
theorem dX2_setGeometry_47 : decode cX2_setGeometry 47 = .ok (.istore 5, 2) := by decide +kernel
theorem dX2_setGeometry_49 : decode cX2_setGeometry 49 = .ok (.iload 5, 2) := by decide +kernel
theorem dX2_setGeometry_51 : decode cX2_setGeometry 51 = .ok (.ifCond .ne 10, 3) := by decide +kernel
theorem dX2_setGeometry_54 : decode cX2_setGeometry 54 = .ok (.aload_n 0, 1) := by decide +kernel
theorem dX2_setGeometry_55 : decode cX2_setGeometry 55 = .ok (.bipush (-2), 2) := by decide +kernel
theorem dX2_setGeometry_57 : decode cX2_setGeometry 57 = .ok (.invokevirtual 35, 3) := by decide +kernel
theorem dX2_setGeometry_60 : decode cX2_setGeometry 60 = .ok (.ireturn, 1) := by decide +kernel
theorem dX2_setGeometry_61 : decode cX2_setGeometry 61 = .ok (.aload_n 0, 1) := by decide +kernel
theorem dX2_setGeometry_62 : decode cX2_setGeometry 62 = .ok (.invokevirtual 39, 3) := by decide +kernel
theorem dX2_setGeometry_65 : decode cX2_setGeometry 65 = .ok (.aload_n 0, 1) := by decide +kernel
theorem dX2_setGeometry_66 : decode cX2_setGeometry 66 = .ok (.getfield 10, 3) := by decide +kernel
theorem dX2_setGeometry_69 : decode cX2_setGeometry 69 = .ok (.iload_n 1, 1) := by decide +kernel
theorem dX2_setGeometry_70 : decode cX2_setGeometry 70 = .ok (.putfield 42, 3) := by decide +kernel
theorem dX2_setGeometry_73 : decode cX2_setGeometry 73 = .ok (.aload_n 0, 1) := by decide +kernel
theorem dX2_setGeometry_74 : decode cX2_setGeometry 74 = .ok (.getfield 10, 3) := by decide +kernel
theorem dX2_setGeometry_77 : decode cX2_setGeometry 77 = .ok (.iload_n 2, 1) := by decide +kernel
theorem dX2_setGeometry_78 : decode cX2_setGeometry 78 = .ok (.putfield 45, 3) := by decide +kernel
theorem dX2_setGeometry_81 : decode cX2_setGeometry 81 = .ok (.aload_n 0, 1) := by decide +kernel
theorem dX2_setGeometry_82 : decode cX2_setGeometry 82 = .ok (.getfield 10, 3) := by decide +kernel
theorem dX2_setGeometry_85 : decode cX2_setGeometry 85 = .ok (.iload_n 3, 1) := by decide +kernel
theorem dX2_setGeometry_86 : decode cX2_setGeometry 86 = .ok (.putfield 48, 3) := by decide +kernel
theorem dX2_setGeometry_89 : decode cX2_setGeometry 89 = .ok (.aload_n 0, 1) := by decide +kernel
theorem dX2_setGeometry_90 : decode cX2_setGeometry 90 = .ok (.getfield 10, 3) := by decide +kernel
theorem dX2_setGeometry_93 : decode cX2_setGeometry 93 = .ok (.iload 4, 2) := by decide +kernel
theorem dX2_setGeometry_95 : decode cX2_setGeometry 95 = .ok (.putfield 51, 3) := by decide +kernel
theorem dX2_setGeometry_98 : decode cX2_setGeometry 98 = .ok (.aload_n 0, 1) := by decide +kernel
theorem dX2_setGeometry_99 : decode cX2_setGeometry 99 = .ok (.getfield 10, 3) := by decide +kernel
theorem dX2_setGeometry_102 : decode cX2_setGeometry 102 = .ok (.invokevirtual 54, 3) := by decide +kernel
theorem dX2_setGeometry_105 : decode cX2_setGeometry 105 = .ok (.aload_n 0, 1) := by decide +kernel
theorem dX2_setGeometry_106 : decode cX2_setGeometry 106 = .ok (.getfield 10, 3) := by decide +kernel
theorem dX2_setGeometry_109 : decode cX2_setGeometry 109 = .ok (.invokevirtual 57, 3) := by decide +kernel
theorem dX2_setGeometry_112 : decode cX2_setGeometry 112 = .ok (.aload_n 0, 1) := by decide +kernel
theorem dX2_setGeometry_113 : decode cX2_setGeometry 113 = .ok (.getfield 10, 3) := by decide +kernel
theorem dX2_setGeometry_116 : decode cX2_setGeometry 116 = .ok (.invokevirtual 61, 3) := by decide +kernel
theorem dX2_setGeometry_119 : decode cX2_setGeometry 119 = .ok (.iadd, 1) := by decide +kernel
theorem dX2_setGeometry_120 : decode cX2_setGeometry 120 = .ok (.ireturn, 1) := by decide +kernel
theorem dX2_setMud_0 : decode cX2_setMud 0 = .ok (.iload_n 1, 1) := by decide +kernel
theorem dX2_setMud_1 : decode cX2_setMud 1 = .ok (.iconst 1, 1) := by decide +kernel
theorem dX2_setMud_2 : decode cX2_setMud 2 = .ok (.sipush 2500, 3) := by decide +kernel
theorem dX2_setMud_5 : decode cX2_setMud 5 = .ok (.invokestatic 31, 3) := by decide +kernel
theorem dX2_setMud_8 : decode cX2_setMud 8 = .ok (.ifCond .ne 10, 3) := by decide +kernel
theorem dX2_setMud_11 : decode cX2_setMud 11 = .ok (.aload_n 0, 1) := by decide +kernel
theorem dX2_setMud_12 : decode cX2_setMud 12 = .ok (.bipush (-2), 2) := by decide +kernel
theorem dX2_setMud_14 : decode cX2_setMud 14 = .ok (.invokevirtual 35, 3) := by decide +kernel
theorem dX2_setMud_17 : decode cX2_setMud 17 = .ok (.ireturn, 1) := by decide +kernel
theorem dX2_setMud_18 : decode cX2_setMud 18 = .ok (.aload_n 0, 1) := by decide +kernel
theorem dX2_setMud_19 : decode cX2_setMud 19 = .ok (.invokevirtual 39, 3) := by decide +kernel
theorem dX2_setMud_22 : decode cX2_setMud 22 = .ok (.aload_n 0, 1) := by decide +kernel
theorem dX2_setMud_23 : decode cX2_setMud 23 = .ok (.getfield 10, 3) := by decide +kernel
theorem dX2_setMud_26 : decode cX2_setMud 26 = .ok (.getfield 64, 3) := by decide +kernel
theorem dX2_setMud_29 : decode cX2_setMud 29 = .ok (.istore_n 2, 1) := by decide +kernel
theorem dX2_setMud_30 : decode cX2_setMud 30 = .ok (.aload_n 0, 1) := by decide +kernel
theorem dX2_setMud_31 : decode cX2_setMud 31 = .ok (.getfield 10, 3) := by decide +kernel
theorem dX2_setMud_34 : decode cX2_setMud 34 = .ok (.iload_n 1, 1) := by decide +kernel
theorem dX2_setMud_35 : decode cX2_setMud 35 = .ok (.putfield 64, 3) := by decide +kernel
theorem dX2_setMud_38 : decode cX2_setMud 38 = .ok (.iload_n 2, 1) := by decide +kernel
theorem dX2_setMud_39 : decode cX2_setMud 39 = .ok (.ireturn, 1) := by decide +kernel
theorem dX2_setFormation_0 : decode cX2_setFormation 0 = .ok (.iload_n 1, 1) := by decide +kernel
theorem dX2_setFormation_1 : decode cX2_setFormation 1 = .ok (.iconst 0, 1) := by decide +kernel
theorem dX2_setFormation_2 : decode cX2_setFormation 2 = .ok (.ldc 67, 2) := by decide +kernel
theorem dX2_setFormation_4 : decode cX2_setFormation 4 = .ok (.invokestatic 31, 3) := by decide +kernel
theorem dX2_setFormation_7 : decode cX2_setFormation 7 = .ok (.ifCond .ne 10, 3) := by decide +kernel
theorem dX2_setFormation_10 : decode cX2_setFormation 10 = .ok (.aload_n 0, 1) := by decide +kernel
theorem dX2_setFormation_11 : decode cX2_setFormation 11 = .ok (.bipush (-2), 2) := by decide +kernel
theorem dX2_setFormation_13 : decode cX2_setFormation 13 = .ok (.invokevirtual 35, 3) := by decide +kernel
theorem dX2_setFormation_16 : decode cX2_setFormation 16 = .ok (.ireturn, 1) := by decide +kernel
theorem dX2_setFormation_17 : decode cX2_setFormation 17 = .ok (.aload_n 0, 1) := by decide +kernel
theorem dX2_setFormation_18 : decode cX2_setFormation 18 = .ok (.invokevirtual 39, 3) := by decide +kernel
theorem dX2_setFormation_21 : decode cX2_setFormation 21 = .ok (.aload_n 0, 1) := by decide +kernel
theorem dX2_setFormation_22 : decode cX2_setFormation 22 = .ok (.getfield 10, 3) := by decide +kernel
theorem dX2_setFormation_25 : decode cX2_setFormation 25 = .ok (.getfield 68, 3) := by decide +kernel
theorem dX2_setFormation_28 : decode cX2_setFormation 28 = .ok (.istore_n 2, 1) := by decide +kernel
theorem dX2_setFormation_29 : decode cX2_setFormation 29 = .ok (.aload_n 0, 1) := by decide +kernel
theorem dX2_setFormation_30 : decode cX2_setFormation 30 = .ok (.getfield 10, 3) := by decide +kernel
theorem dX2_setFormation_33 : decode cX2_setFormation 33 = .ok (.iload_n 1, 1) := by decide +kernel
theorem dX2_setFormation_34 : decode cX2_setFormation 34 = .ok (.putfield 68, 3) := by decide +kernel
theorem dX2_setFormation_37 : decode cX2_setFormation 37 = .ok (.iload_n 2, 1) := by decide +kernel
theorem dX2_setFormation_38 : decode cX2_setFormation 38 = .ok (.ireturn, 1) := by decide +kernel
theorem dX2_setSlowPump_0 : decode cX2_setSlowPump 0 = .ok (.iload_n 1, 1) := by decide +kernel
theorem dX2_setSlowPump_1 : decode cX2_setSlowPump 1 = .ok (.iconst 0, 1) := by decide +kernel
theorem dX2_setSlowPump_2 : decode cX2_setSlowPump 2 = .ok (.sipush 9999, 3) := by decide +kernel
theorem dX2_setSlowPump_5 : decode cX2_setSlowPump 5 = .ok (.invokestatic 31, 3) := by decide +kernel
theorem dX2_setSlowPump_8 : decode cX2_setSlowPump 8 = .ok (.ifCond .ne 10, 3) := by decide +kernel
theorem dX2_setSlowPump_11 : decode cX2_setSlowPump 11 = .ok (.aload_n 0, 1) := by decide +kernel
theorem dX2_setSlowPump_12 : decode cX2_setSlowPump 12 = .ok (.bipush (-2), 2) := by decide +kernel
theorem dX2_setSlowPump_14 : decode cX2_setSlowPump 14 = .ok (.invokevirtual 35, 3) := by decide +kernel
theorem dX2_setSlowPump_17 : decode cX2_setSlowPump 17 = .ok (.ireturn, 1) := by decide +kernel
theorem dX2_setSlowPump_18 : decode cX2_setSlowPump 18 = .ok (.aload_n 0, 1) := by decide +kernel
theorem dX2_setSlowPump_19 : decode cX2_setSlowPump 19 = .ok (.invokevirtual 39, 3) := by decide +kernel
theorem dX2_setSlowPump_22 : decode cX2_setSlowPump 22 = .ok (.aload_n 0, 1) := by decide +kernel
theorem dX2_setSlowPump_23 : decode cX2_setSlowPump 23 = .ok (.getfield 10, 3) := by decide +kernel
theorem dX2_setSlowPump_26 : decode cX2_setSlowPump 26 = .ok (.getfield 71, 3) := by decide +kernel
theorem dX2_setSlowPump_29 : decode cX2_setSlowPump 29 = .ok (.istore_n 2, 1) := by decide +kernel
theorem dX2_setSlowPump_30 : decode cX2_setSlowPump 30 = .ok (.aload_n 0, 1) := by decide +kernel
theorem dX2_setSlowPump_31 : decode cX2_setSlowPump 31 = .ok (.getfield 10, 3) := by decide +kernel
theorem dX2_setSlowPump_34 : decode cX2_setSlowPump 34 = .ok (.iload_n 1, 1) := by decide +kernel
theorem dX2_setSlowPump_35 : decode cX2_setSlowPump 35 = .ok (.putfield 71, 3) := by decide +kernel
theorem dX2_setSlowPump_38 : decode cX2_setSlowPump 38 = .ok (.iload_n 2, 1) := by decide +kernel
theorem dX2_setSlowPump_39 : decode cX2_setSlowPump 39 = .ok (.ireturn, 1) := by decide +kernel
theorem dX2_setFracture_0 : decode cX2_setFracture 0 = .ok (.iload_n 1, 1) := by decide +kernel
theorem dX2_setFracture_1 : decode cX2_setFracture 1 = .ok (.iconst 0, 1) := by decide +kernel
theorem dX2_setFracture_2 : decode cX2_setFracture 2 = .ok (.ldc 67, 2) := by decide +kernel
theorem dX2_setFracture_4 : decode cX2_setFracture 4 = .ok (.invokestatic 31, 3) := by decide +kernel
theorem dX2_setFracture_7 : decode cX2_setFracture 7 = .ok (.ifCond .ne 10, 3) := by decide +kernel
theorem dX2_setFracture_10 : decode cX2_setFracture 10 = .ok (.aload_n 0, 1) := by decide +kernel
theorem dX2_setFracture_11 : decode cX2_setFracture 11 = .ok (.bipush (-2), 2) := by decide +kernel
theorem dX2_setFracture_13 : decode cX2_setFracture 13 = .ok (.invokevirtual 35, 3) := by decide +kernel
theorem dX2_setFracture_16 : decode cX2_setFracture 16 = .ok (.ireturn, 1) := by decide +kernel
theorem dX2_setFracture_17 : decode cX2_setFracture 17 = .ok (.aload_n 0, 1) := by decide +kernel
theorem dX2_setFracture_18 : decode cX2_setFracture 18 = .ok (.invokevirtual 39, 3) := by decide +kernel
theorem dX2_setFracture_21 : decode cX2_setFracture 21 = .ok (.aload_n 0, 1) := by decide +kernel
theorem dX2_setFracture_22 : decode cX2_setFracture 22 = .ok (.getfield 10, 3) := by decide +kernel
theorem dX2_setFracture_25 : decode cX2_setFracture 25 = .ok (.getfield 74, 3) := by decide +kernel
theorem dX2_setFracture_28 : decode cX2_setFracture 28 = .ok (.istore_n 2, 1) := by decide +kernel
theorem dX2_setFracture_29 : decode cX2_setFracture 29 = .ok (.aload_n 0, 1) := by decide +kernel
theorem dX2_setFracture_30 : decode cX2_setFracture 30 = .ok (.getfield 10, 3) := by decide +kernel
theorem dX2_setFracture_33 : decode cX2_setFracture 33 = .ok (.iload_n 1, 1) := by decide +kernel
theorem dX2_setFracture_34 : decode cX2_setFracture 34 = .ok (.putfield 74, 3) := by decide +kernel
theorem dX2_setFracture_37 : decode cX2_setFracture 37 = .ok (.iload_n 2, 1) := by decide +kernel
theorem dX2_setFracture_38 : decode cX2_setFracture 38 = .ok (.ireturn, 1) := by decide +kernel
theorem dX2_pump_0 : decode cX2_pump 0 = .ok (.iload_n 1, 1) := by decide +kernel
theorem dX2_pump_1 : decode cX2_pump 1 = .ok (.iconst 1, 1) := by decide +kernel
theorem dX2_pump_2 : decode cX2_pump 2 = .ok (.if_icmp .ge 10, 3) := by decide +kernel
theorem dX2_pump_5 : decode cX2_pump 5 = .ok (.aload_n 0, 1) := by decide +kernel
theorem dX2_pump_6 : decode cX2_pump 6 = .ok (.bipush (-2), 2) := by decide +kernel
theorem dX2_pump_8 : decode cX2_pump 8 = .ok (.invokevirtual 35, 3) := by decide +kernel
theorem dX2_pump_11 : decode cX2_pump 11 = .ok (.ireturn, 1) := by decide +kernel
theorem dX2_pump_12 : decode cX2_pump 12 = .ok (.aload_n 0, 1) := by decide +kernel
theorem dX2_pump_13 : decode cX2_pump 13 = .ok (.getfield 10, 3) := by decide +kernel
theorem dX2_pump_16 : decode cX2_pump 16 = .ok (.iload_n 1, 1) := by decide +kernel
theorem dX2_pump_17 : decode cX2_pump 17 = .ok (.invokevirtual 77, 3) := by decide +kernel
theorem dX2_pump_20 : decode cX2_pump 20 = .ok (.ifCond .ne 10, 3) := by decide +kernel
theorem dX2_pump_23 : decode cX2_pump 23 = .ok (.aload_n 0, 1) := by decide +kernel
theorem dX2_pump_24 : decode cX2_pump 24 = .ok (.bipush (-3), 2) := by decide +kernel
theorem dX2_pump_26 : decode cX2_pump 26 = .ok (.invokevirtual 35, 3) := by decide +kernel
theorem dX2_pump_29 : decode cX2_pump 29 = .ok (.ireturn, 1) := by decide +kernel
theorem dX2_pump_30 : decode cX2_pump 30 = .ok (.aload_n 0, 1) := by decide +kernel
theorem dX2_pump_31 : decode cX2_pump 31 = .ok (.invokevirtual 39, 3) := by decide +kernel
theorem dX2_pump_34 : decode cX2_pump 34 = .ok (.aload_n 0, 1) := by decide +kernel
theorem dX2_pump_35 : decode cX2_pump 35 = .ok (.getfield 10, 3) := by decide +kernel
theorem dX2_pump_38 : decode cX2_pump 38 = .ok (.iload_n 1, 1) := by decide +kernel
theorem dX2_pump_39 : decode cX2_pump 39 = .ok (.aload_n 0, 1) := by decide +kernel
theorem dX2_pump_40 : decode cX2_pump 40 = .ok (.getfield 10, 3) := by decide +kernel
theorem dX2_pump_43 : decode cX2_pump 43 = .ok (.getfield 64, 3) := by decide +kernel
theorem dX2_pump_46 : decode cX2_pump 46 = .ok (.invokevirtual 81, 3) := by decide +kernel
theorem dX2_pump_49 : decode cX2_pump 49 = .ok (.aload_n 0, 1) := by decide +kernel
theorem dX2_pump_50 : decode cX2_pump 50 = .ok (.getfield 10, 3) := by decide +kernel
theorem dX2_pump_53 : decode cX2_pump 53 = .ok (.invokevirtual 85, 3) := by decide +kernel
theorem dX2_pump_56 : decode cX2_pump 56 = .ok (.aload_n 0, 1) := by decide +kernel
theorem dX2_pump_57 : decode cX2_pump 57 = .ok (.getfield 10, 3) := by decide +kernel
theorem dX2_pump_60 : decode cX2_pump 60 = .ok (.invokevirtual 88, 3) := by decide +kernel
theorem dX2_pump_63 : decode cX2_pump 63 = .ok (.ireturn, 1) := by decide +kernel
theorem dX2_influx_0 : decode cX2_influx 0 = .ok (.iload_n 1, 1) := by decide +kernel
theorem dX2_influx_1 : decode cX2_influx 1 = .ok (.iconst 1, 1) := by decide +kernel
theorem dX2_influx_2 : decode cX2_influx 2 = .ok (.if_icmp .lt 14, 3) := by decide +kernel
theorem dX2_influx_5 : decode cX2_influx 5 = .ok (.iload_n 2, 1) := by decide +kernel
theorem dX2_influx_6 : decode cX2_influx 6 = .ok (.iconst 1, 1) := by decide +kernel
theorem dX2_influx_7 : decode cX2_influx 7 = .ok (.sipush 2500, 3) := by decide +kernel
theorem dX2_influx_10 : decode cX2_influx 10 = .ok (.invokestatic 31, 3) := by decide +kernel
theorem dX2_influx_13 : decode cX2_influx 13 = .ok (.ifCond .ne 10, 3) := by decide +kernel
theorem dX2_influx_16 : decode cX2_influx 16 = .ok (.aload_n 0, 1) := by decide +kernel
theorem dX2_influx_17 : decode cX2_influx 17 = .ok (.bipush (-2), 2) := by decide +kernel
theorem dX2_influx_19 : decode cX2_influx 19 = .ok (.invokevirtual 35, 3) := by decide +kernel
theorem dX2_influx_22 : decode cX2_influx 22 = .ok (.ireturn, 1) := by decide +kernel
theorem dX2_influx_23 : decode cX2_influx 23 = .ok (.iload_n 1, 1) := by decide +kernel
theorem dX2_influx_24 : decode cX2_influx 24 = .ok (.aload_n 0, 1) := by decide +kernel
theorem dX2_influx_25 : decode cX2_influx 25 = .ok (.getfield 10, 3) := by decide +kernel
theorem dX2_influx_28 : decode cX2_influx 28 = .ok (.invokevirtual 61, 3) := by decide +kernel
theorem dX2_influx_31 : decode cX2_influx 31 = .ok (.if_icmp .le 10, 3) := by decide +kernel
theorem dX2_influx_34 : decode cX2_influx 34 = .ok (.aload_n 0, 1) := by decide +kernel
theorem dX2_influx_35 : decode cX2_influx 35 = .ok (.bipush (-3), 2) := by decide +kernel
theorem dX2_influx_37 : decode cX2_influx 37 = .ok (.invokevirtual 35, 3) := by decide +kernel
theorem dX2_influx_40 : decode cX2_influx 40 = .ok (.ireturn, 1) := by decide +kernel
theorem dX2_influx_41 : decode cX2_influx 41 = .ok (.aload_n 0, 1) := by decide +kernel
theorem dX2_influx_42 : decode cX2_influx 42 = .ok (.invokevirtual 39, 3) := by decide +kernel
theorem dX2_influx_45 : decode cX2_influx 45 = .ok (.aload_n 0, 1) := by decide +kernel
theorem dX2_influx_46 : decode cX2_influx 46 = .ok (.getfield 10, 3) := by decide +kernel
theorem dX2_influx_49 : decode cX2_influx 49 = .ok (.iload_n 1, 1) := by decide +kernel
theorem dX2_influx_50 : decode cX2_influx 50 = .ok (.iload_n 2, 1) := by decide +kernel
theorem dX2_influx_51 : decode cX2_influx 51 = .ok (.invokevirtual 91, 3) := by decide +kernel
theorem dX2_influx_54 : decode cX2_influx 54 = .ok (.aload_n 0, 1) := by decide +kernel
theorem dX2_influx_55 : decode cX2_influx 55 = .ok (.getfield 10, 3) := by decide +kernel
theorem dX2_influx_58 : decode cX2_influx 58 = .ok (.invokevirtual 85, 3) := by decide +kernel
theorem dX2_influx_61 : decode cX2_influx 61 = .ok (.aload_n 0, 1) := by decide +kernel
theorem dX2_influx_62 : decode cX2_influx 62 = .ok (.getfield 10, 3) := by decide +kernel
theorem dX2_influx_65 : decode cX2_influx 65 = .ok (.invokevirtual 88, 3) := by decide +kernel
theorem dX2_influx_68 : decode cX2_influx 68 = .ok (.ireturn, 1) := by decide +kernel
theorem dX2_hydrostatic_0 : decode cX2_hydrostatic 0 = .ok (.iload_n 1, 1) := by decide +kernel
theorem dX2_hydrostatic_1 : decode cX2_hydrostatic 1 = .ok (.iconst 0, 1) := by decide +kernel
theorem dX2_hydrostatic_2 : decode cX2_hydrostatic 2 = .ok (.iconst 1, 1) := by decide +kernel
theorem dX2_hydrostatic_3 : decode cX2_hydrostatic 3 = .ok (.invokestatic 31, 3) := by decide +kernel
theorem dX2_hydrostatic_6 : decode cX2_hydrostatic 6 = .ok (.ifCond .ne 10, 3) := by decide +kernel
theorem dX2_hydrostatic_9 : decode cX2_hydrostatic 9 = .ok (.aload_n 0, 1) := by decide +kernel
theorem dX2_hydrostatic_10 : decode cX2_hydrostatic 10 = .ok (.bipush (-2), 2) := by decide +kernel
theorem dX2_hydrostatic_12 : decode cX2_hydrostatic 12 = .ok (.invokevirtual 35, 3) := by decide +kernel
theorem dX2_hydrostatic_15 : decode cX2_hydrostatic 15 = .ok (.ireturn, 1) := by decide +kernel
theorem dX2_hydrostatic_16 : decode cX2_hydrostatic 16 = .ok (.aload_n 0, 1) := by decide +kernel
theorem dX2_hydrostatic_17 : decode cX2_hydrostatic 17 = .ok (.getfield 10, 3) := by decide +kernel
theorem dX2_hydrostatic_20 : decode cX2_hydrostatic 20 = .ok (.iload_n 1, 1) := by decide +kernel
theorem dX2_hydrostatic_21 : decode cX2_hydrostatic 21 = .ok (.invokevirtual 94, 3) := by decide +kernel
theorem dX2_hydrostatic_24 : decode cX2_hydrostatic 24 = .ok (.ireturn, 1) := by decide +kernel
theorem dX2_hydrostaticAbove_0 : decode cX2_hydrostaticAbove 0 = .ok (.iload_n 1, 1) := by decide +kernel
theorem dX2_hydrostaticAbove_1 : decode cX2_hydrostaticAbove 1 = .ok (.iconst 0, 1) := by decide +kernel
theorem dX2_hydrostaticAbove_2 : decode cX2_hydrostaticAbove 2 = .ok (.iconst 1, 1) := by decide +kernel
theorem dX2_hydrostaticAbove_3 : decode cX2_hydrostaticAbove 3 = .ok (.invokestatic 31, 3) := by decide +kernel
theorem dX2_hydrostaticAbove_6 : decode cX2_hydrostaticAbove 6 = .ok (.ifCond .eq 18, 3) := by decide +kernel
theorem dX2_hydrostaticAbove_9 : decode cX2_hydrostaticAbove 9 = .ok (.iload_n 2, 1) := by decide +kernel
theorem dX2_hydrostaticAbove_10 : decode cX2_hydrostaticAbove 10 = .ok (.iconst 0, 1) := by decide +kernel
theorem dX2_hydrostaticAbove_11 : decode cX2_hydrostaticAbove 11 = .ok (.aload_n 0, 1) := by decide +kernel
theorem dX2_hydrostaticAbove_12 : decode cX2_hydrostaticAbove 12 = .ok (.getfield 10, 3) := by decide +kernel
theorem dX2_hydrostaticAbove_15 : decode cX2_hydrostaticAbove 15 = .ok (.getfield 42, 3) := by decide +kernel
theorem dX2_hydrostaticAbove_18 : decode cX2_hydrostaticAbove 18 = .ok (.invokestatic 31, 3) := by decide +kernel
theorem dX2_hydrostaticAbove_21 : decode cX2_hydrostaticAbove 21 = .ok (.ifCond .ne 10, 3) := by decide +kernel
theorem dX2_hydrostaticAbove_24 : decode cX2_hydrostaticAbove 24 = .ok (.aload_n 0, 1) := by decide +kernel
theorem dX2_hydrostaticAbove_25 : decode cX2_hydrostaticAbove 25 = .ok (.bipush (-2), 2) := by decide +kernel
theorem dX2_hydrostaticAbove_27 : decode cX2_hydrostaticAbove 27 = .ok (.invokevirtual 35, 3) := by decide +kernel
theorem dX2_hydrostaticAbove_30 : decode cX2_hydrostaticAbove 30 = .ok (.ireturn, 1) := by decide +kernel
theorem dX2_hydrostaticAbove_31 : decode cX2_hydrostaticAbove 31 = .ok (.aload_n 0, 1) := by decide +kernel
theorem dX2_hydrostaticAbove_32 : decode cX2_hydrostaticAbove 32 = .ok (.getfield 10, 3) := by decide +kernel
theorem dX2_hydrostaticAbove_35 : decode cX2_hydrostaticAbove 35 = .ok (.iload_n 1, 1) := by decide +kernel
theorem dX2_hydrostaticAbove_36 : decode cX2_hydrostaticAbove 36 = .ok (.iload_n 2, 1) := by decide +kernel
theorem dX2_hydrostaticAbove_37 : decode cX2_hydrostaticAbove 37 = .ok (.invokevirtual 97, 3) := by decide +kernel
theorem dX2_hydrostaticAbove_40 : decode cX2_hydrostaticAbove 40 = .ok (.ireturn, 1) := by decide +kernel
theorem dX2_drillPipePressure_0 : decode cX2_drillPipePressure 0 = .ok (.aload_n 0, 1) := by decide +kernel
theorem dX2_drillPipePressure_1 : decode cX2_drillPipePressure 1 = .ok (.getfield 10, 3) := by decide +kernel
theorem dX2_drillPipePressure_4 : decode cX2_drillPipePressure 4 = .ok (.invokevirtual 101, 3) := by decide +kernel
theorem dX2_drillPipePressure_7 : decode cX2_drillPipePressure 7 = .ok (.ireturn, 1) := by decide +kernel
theorem dX2_casingPressure_0 : decode cX2_casingPressure 0 = .ok (.aload_n 0, 1) := by decide +kernel
theorem dX2_casingPressure_1 : decode cX2_casingPressure 1 = .ok (.getfield 10, 3) := by decide +kernel
theorem dX2_casingPressure_4 : decode cX2_casingPressure 4 = .ok (.invokevirtual 88, 3) := by decide +kernel
theorem dX2_casingPressure_7 : decode cX2_casingPressure 7 = .ok (.ireturn, 1) := by decide +kernel
theorem dX2_standpipePressure_0 : decode cX2_standpipePressure 0 = .ok (.aload_n 0, 1) := by decide +kernel
theorem dX2_standpipePressure_1 : decode cX2_standpipePressure 1 = .ok (.getfield 10, 3) := by decide +kernel
theorem dX2_standpipePressure_4 : decode cX2_standpipePressure 4 = .ok (.invokevirtual 104, 3) := by decide +kernel
theorem dX2_standpipePressure_7 : decode cX2_standpipePressure 7 = .ok (.ireturn, 1) := by decide +kernel
theorem dX2_shoePressure_0 : decode cX2_shoePressure 0 = .ok (.aload_n 0, 1) := by decide +kernel
theorem dX2_shoePressure_1 : decode cX2_shoePressure 1 = .ok (.getfield 10, 3) := by decide +kernel
theorem dX2_shoePressure_4 : decode cX2_shoePressure 4 = .ok (.invokevirtual 107, 3) := by decide +kernel
theorem dX2_shoePressure_7 : decode cX2_shoePressure 7 = .ok (.ireturn, 1) := by decide +kernel
theorem dX2_allowedCasingPressure_0 : decode cX2_allowedCasingPressure 0 = .ok (.aload_n 0, 1) := by decide +kernel
theorem dX2_allowedCasingPressure_1 : decode cX2_allowedCasingPressure 1 = .ok (.getfield 10, 3) := by decide +kernel
theorem dX2_allowedCasingPressure_4 : decode cX2_allowedCasingPressure 4 = .ok (.getfield 74, 3) := by decide +kernel
theorem dX2_allowedCasingPressure_7 : decode cX2_allowedCasingPressure 7 = .ok (.aload_n 0, 1) := by decide +kernel
theorem dX2_allowedCasingPressure_8 : decode cX2_allowedCasingPressure 8 = .ok (.getfield 10, 3) := by decide +kernel
theorem dX2_allowedCasingPressure_11 : decode cX2_allowedCasingPressure 11 = .ok (.iconst 1, 1) := by decide +kernel
theorem dX2_allowedCasingPressure_12 : decode cX2_allowedCasingPressure 12 = .ok (.aload_n 0, 1) := by decide +kernel
theorem dX2_allowedCasingPressure_13 : decode cX2_allowedCasingPressure 13 = .ok (.getfield 10, 3) := by decide +kernel
theorem dX2_allowedCasingPressure_16 : decode cX2_allowedCasingPressure 16 = .ok (.getfield 51, 3) := by decide +kernel
theorem dX2_allowedCasingPressure_19 : decode cX2_allowedCasingPressure 19 = .ok (.invokevirtual 97, 3) := by decide +kernel
theorem dX2_allowedCasingPressure_22 : decode cX2_allowedCasingPressure 22 = .ok (.isub, 1) := by decide +kernel
theorem dX2_allowedCasingPressure_23 : decode cX2_allowedCasingPressure 23 = .ok (.ireturn, 1) := by decide +kernel
theorem dX2_killDensity_0 : decode cX2_killDensity 0 = .ok (.aload_n 0, 1) := by decide +kernel
theorem dX2_killDensity_1 : decode cX2_killDensity 1 = .ok (.getfield 10, 3) := by decide +kernel
theorem dX2_killDensity_4 : decode cX2_killDensity 4 = .ok (.invokevirtual 110, 3) := by decide +kernel
theorem dX2_killDensity_7 : decode cX2_killDensity 7 = .ok (.istore_n 1, 1) := by decide +kernel
theorem dX2_killDensity_8 : decode cX2_killDensity 8 = .ok (.iload_n 1, 1) := by decide +kernel
theorem dX2_killDensity_9 : decode cX2_killDensity 9 = .ok (.bipush (-4), 2) := by decide +kernel
theorem dX2_killDensity_11 : decode cX2_killDensity 11 = .ok (.if_icmp .ne 12, 3) := by decide +kernel
theorem dX2_killDensity_14 : decode cX2_killDensity 14 = .ok (.aload_n 0, 1) := by decide +kernel
theorem dX2_killDensity_15 : decode cX2_killDensity 15 = .ok (.bipush (-4), 2) := by decide +kernel
theorem dX2_killDensity_17 : decode cX2_killDensity 17 = .ok (.invokevirtual 35, 3) := by decide +kernel
theorem dX2_killDensity_20 : decode cX2_killDensity 20 = .ok (.goto 4, 3) := by decide +kernel
theorem dX2_killDensity_23 : decode cX2_killDensity 23 = .ok (.iload_n 1, 1) := by decide +kernel
theorem dX2_killDensity_24 : decode cX2_killDensity 24 = .ok (.ireturn, 1) := by decide +kernel
theorem dX2_killShoePressure_0 : decode cX2_killShoePressure 0 = .ok (.iload_n 1, 1) := by decide +kernel
theorem dX2_killShoePressure_1 : decode cX2_killShoePressure 1 = .ok (.iconst 0, 1) := by decide +kernel
theorem dX2_killShoePressure_2 : decode cX2_killShoePressure 2 = .ok (.iconst 1, 1) := by decide +kernel
theorem dX2_killShoePressure_3 : decode cX2_killShoePressure 3 = .ok (.invokestatic 31, 3) := by decide +kernel
theorem dX2_killShoePressure_6 : decode cX2_killShoePressure 6 = .ok (.ifCond .eq 15, 3) := by decide +kernel
theorem dX2_killShoePressure_9 : decode cX2_killShoePressure 9 = .ok (.iload_n 2, 1) := by decide +kernel
theorem dX2_killShoePressure_10 : decode cX2_killShoePressure 10 = .ok (.bipush 100, 2) := by decide +kernel
theorem dX2_killShoePressure_12 : decode cX2_killShoePressure 12 = .ok (.sipush 9000, 3) := by decide +kernel
theorem dX2_killShoePressure_15 : decode cX2_killShoePressure 15 = .ok (.invokestatic 31, 3) := by decide +kernel
theorem dX2_killShoePressure_18 : decode cX2_killShoePressure 18 = .ok (.ifCond .ne 10, 3) := by decide +kernel
theorem dX2_killShoePressure_21 : decode cX2_killShoePressure 21 = .ok (.aload_n 0, 1) := by decide +kernel
theorem dX2_killShoePressure_22 : decode cX2_killShoePressure 22 = .ok (.bipush (-2), 2) := by decide +kernel
theorem dX2_killShoePressure_24 : decode cX2_killShoePressure 24 = .ok (.invokevirtual 35, 3) := by decide +kernel
theorem dX2_killShoePressure_27 : decode cX2_killShoePressure 27 = .ok (.ireturn, 1) := by decide +kernel
theorem dX2_killShoePressure_28 : decode cX2_killShoePressure 28 = .ok (.aload_n 0, 1) := by decide +kernel
theorem dX2_killShoePressure_29 : decode cX2_killShoePressure 29 = .ok (.getfield 10, 3) := by decide +kernel
theorem dX2_killShoePressure_32 : decode cX2_killShoePressure 32 = .ok (.iload_n 2, 1) := by decide +kernel
theorem dX2_killShoePressure_33 : decode cX2_killShoePressure 33 = .ok (.invokevirtual 77, 3) := by decide +kernel
theorem dX2_killShoePressure_36 : decode cX2_killShoePressure 36 = .ok (.ifCond .ne 10, 3) := by decide +kernel
theorem dX2_killShoePressure_39 : decode cX2_killShoePressure 39 = .ok (.aload_n 0, 1) := by decide +kernel
theorem dX2_killShoePressure_40 : decode cX2_killShoePressure 40 = .ok (.bipush (-3), 2) := by decide +kernel
theorem dX2_killShoePressure_42 : decode cX2_killShoePressure 42 = .ok (.invokevirtual 35, 3) := by decide +kernel
theorem dX2_killShoePressure_45 : decode cX2_killShoePressure 45 = .ok (.ireturn, 1) := by decide +kernel
theorem dX2_killShoePressure_46 : decode cX2_killShoePressure 46 = .ok (.aload_n 0, 1) := by decide +kernel
theorem dX2_killShoePressure_47 : decode cX2_killShoePressure 47 = .ok (.getfield 10, 3) := by decide +kernel
theorem dX2_killShoePressure_50 : decode cX2_killShoePressure 50 = .ok (.invokevirtual 110, 3) := by decide +kernel
theorem dX2_killShoePressure_53 : decode cX2_killShoePressure 53 = .ok (.istore_n 3, 1) := by decide +kernel
theorem dX2_killShoePressure_54 : decode cX2_killShoePressure 54 = .ok (.iload_n 3, 1) := by decide +kernel
theorem dX2_killShoePressure_55 : decode cX2_killShoePressure 55 = .ok (.bipush (-4), 2) := by decide +kernel
theorem dX2_killShoePressure_57 : decode cX2_killShoePressure 57 = .ok (.if_icmp .ne 10, 3) := by decide +kernel
theorem dX2_killShoePressure_60 : decode cX2_killShoePressure 60 = .ok (.aload_n 0, 1) := by decide +kernel
theorem dX2_killShoePressure_61 : decode cX2_killShoePressure 61 = .ok (.bipush (-4), 2) := by decide +kernel
theorem dX2_killShoePressure_63 : decode cX2_killShoePressure 63 = .ok (.invokevirtual 35, 3) := by decide +kernel
theorem dX2_killShoePressure_66 : decode cX2_killShoePressure 66 = .ok (.ireturn, 1) := by decide +kernel
theorem dX2_killShoePressure_67 : decode cX2_killShoePressure 67 = .ok (.aload_n 0, 1) := by decide +kernel
theorem dX2_killShoePressure_68 : decode cX2_killShoePressure 68 = .ok (.getfield 16, 3) := by decide +kernel
theorem dX2_killShoePressure_71 : decode cX2_killShoePressure 71 = .ok (.aload_n 0, 1) := by decide +kernel
theorem dX2_killShoePressure_72 : decode cX2_killShoePressure 72 = .ok (.getfield 10, 3) := by decide +kernel
theorem dX2_killShoePressure_75 : decode cX2_killShoePressure 75 = .ok (.invokevirtual 113, 3) := by decide +kernel
theorem dX2_killShoePressure_78 : decode cX2_killShoePressure 78 = .ok (.aload_n 0, 1) := by decide +kernel
theorem dX2_killShoePressure_79 : decode cX2_killShoePressure 79 = .ok (.getfield 16, 3) := by decide +kernel
theorem dX2_killShoePressure_82 : decode cX2_killShoePressure 82 = .ok (.iconst 0, 1) := by decide +kernel
theorem dX2_killShoePressure_83 : decode cX2_killShoePressure 83 = .ok (.putfield 117, 3) := by decide +kernel
theorem dX2_killShoePressure_86 : decode cX2_killShoePressure 86 = .ok (.iload_n 1, 1) := by decide +kernel
theorem dX2_killShoePressure_87 : decode cX2_killShoePressure 87 = .ok (.ifCond .ne 25, 3) := by decide +kernel
theorem dX2_killShoePressure_90 : decode cX2_killShoePressure 90 = .ok (.aload_n 0, 1) := by decide +kernel
theorem dX2_killShoePressure_91 : decode cX2_killShoePressure 91 = .ok (.getfield 16, 3) := by decide +kernel
theorem dX2_killShoePressure_94 : decode cX2_killShoePressure 94 = .ok (.aload_n 0, 1) := by decide +kernel
theorem dX2_killShoePressure_95 : decode cX2_killShoePressure 95 = .ok (.getfield 16, 3) := by decide +kernel
theorem dX2_killShoePressure_98 : decode cX2_killShoePressure 98 = .ok (.invokevirtual 61, 3) := by decide +kernel
theorem dX2_killShoePressure_101 : decode cX2_killShoePressure 101 = .ok (.iload_n 2, 1) := by decide +kernel
theorem dX2_killShoePressure_102 : decode cX2_killShoePressure 102 = .ok (.aload_n 0, 1) := by decide +kernel
theorem dX2_killShoePressure_103 : decode cX2_killShoePressure 103 = .ok (.getfield 16, 3) := by decide +kernel
theorem dX2_killShoePressure_106 : decode cX2_killShoePressure 106 = .ok (.getfield 64, 3) := by decide +kernel
theorem dX2_killShoePressure_109 : decode cX2_killShoePressure 109 = .ok (.invokevirtual 120, 3) := by decide +kernel
theorem dX2_killShoePressure_112 : decode cX2_killShoePressure 112 = .ok (.aload_n 0, 1) := by decide +kernel
theorem dX2_killShoePressure_113 : decode cX2_killShoePressure 113 = .ok (.getfield 16, 3) := by decide +kernel
theorem dX2_killShoePressure_116 : decode cX2_killShoePressure 116 = .ok (.aload_n 0, 1) := by decide +kernel
theorem dX2_killShoePressure_117 : decode cX2_killShoePressure 117 = .ok (.getfield 16, 3) := by decide +kernel
theorem dX2_killShoePressure_120 : decode cX2_killShoePressure 120 = .ok (.invokevirtual 57, 3) := by decide +kernel
theorem dX2_killShoePressure_123 : decode cX2_killShoePressure 123 = .ok (.aload_n 0, 1) := by decide +kernel
theorem dX2_killShoePressure_124 : decode cX2_killShoePressure 124 = .ok (.getfield 16, 3) := by decide +kernel
theorem dX2_killShoePressure_127 : decode cX2_killShoePressure 127 = .ok (.invokevirtual 61, 3) := by decide +kernel
theorem dX2_killShoePressure_130 : decode cX2_killShoePressure 130 = .ok (.iadd, 1) := by decide +kernel
theorem dX2_killShoePressure_131 : decode cX2_killShoePressure 131 = .ok (.iload_n 2, 1) := by decide +kernel
theorem dX2_killShoePressure_132 : decode cX2_killShoePressure 132 = .ok (.iload_n 3, 1) := by decide +kernel
theorem dX2_killShoePressure_133 : decode cX2_killShoePressure 133 = .ok (.invokevirtual 120, 3) := by decide +kernel
theorem dX2_killShoePressure_136 : decode cX2_killShoePressure 136 = .ok (.aload_n 0, 1) := by decide +kernel
theorem dX2_killShoePressure_137 : decode cX2_killShoePressure 137 = .ok (.getfield 16, 3) := by decide +kernel
theorem dX2_killShoePressure_140 : decode cX2_killShoePressure 140 = .ok (.getfield 117, 3) := by decide +kernel
theorem dX2_killShoePressure_143 : decode cX2_killShoePressure 143 = .ok (.ireturn, 1) := by decide +kernel
theorem dX2_schedule_0 : decode cX2_schedule 0 = .ok (.iload_n 1, 1) := by decide +kernel
theorem dX2_schedule_1 : decode cX2_schedule 1 = .ok (.iconst 0, 1) := by decide +kernel
theorem dX2_schedule_2 : decode cX2_schedule 2 = .ok (.bipush 100, 2) := by decide +kernel
theorem dX2_schedule_4 : decode cX2_schedule 4 = .ok (.invokestatic 31, 3) := by decide +kernel
theorem dX2_schedule_7 : decode cX2_schedule 7 = .ok (.ifCond .ne 10, 3) := by decide +kernel
theorem dX2_schedule_10 : decode cX2_schedule 10 = .ok (.aload_n 0, 1) := by decide +kernel
theorem dX2_schedule_11 : decode cX2_schedule 11 = .ok (.bipush (-2), 2) := by decide +kernel
theorem dX2_schedule_13 : decode cX2_schedule 13 = .ok (.invokevirtual 35, 3) := by decide +kernel
theorem dX2_schedule_16 : decode cX2_schedule 16 = .ok (.ireturn, 1) := by decide +kernel
theorem dX2_schedule_17 : decode cX2_schedule 17 = .ok (.aload_n 0, 1) := by decide +kernel
theorem dX2_schedule_18 : decode cX2_schedule 18 = .ok (.getfield 10, 3) := by decide +kernel
theorem dX2_schedule_21 : decode cX2_schedule 21 = .ok (.invokevirtual 110, 3) := by decide +kernel
theorem dX2_schedule_24 : decode cX2_schedule 24 = .ok (.istore_n 2, 1) := by decide +kernel
theorem dX2_schedule_25 : decode cX2_schedule 25 = .ok (.iload_n 2, 1) := by decide +kernel
theorem dX2_schedule_26 : decode cX2_schedule 26 = .ok (.bipush (-4), 2) := by decide +kernel
theorem dX2_schedule_28 : decode cX2_schedule 28 = .ok (.if_icmp .ne 10, 3) := by decide +kernel
theorem dX2_schedule_31 : decode cX2_schedule 31 = .ok (.aload_n 0, 1) := by decide +kernel
theorem dX2_schedule_32 : decode cX2_schedule 32 = .ok (.bipush (-4), 2) := by decide +kernel
theorem dX2_schedule_34 : decode cX2_schedule 34 = .ok (.invokevirtual 35, 3) := by decide +kernel
theorem dX2_schedule_37 : decode cX2_schedule 37 = .ok (.ireturn, 1) := by decide +kernel
theorem dX2_schedule_38 : decode cX2_schedule 38 = .ok (.aload_n 0, 1) := by decide +kernel
theorem dX2_schedule_39 : decode cX2_schedule 39 = .ok (.getfield 10, 3) := by decide +kernel
theorem dX2_schedule_42 : decode cX2_schedule 42 = .ok (.invokevirtual 104, 3) := by decide +kernel
theorem dX2_schedule_45 : decode cX2_schedule 45 = .ok (.i2l, 1) := by decide +kernel
theorem dX2_schedule_46 : decode cX2_schedule 46 = .ok (.lstore_n 3, 1) := by decide +kernel
theorem dX2_schedule_47 : decode cX2_schedule 47 = .ok (.aload_n 0, 1) := by decide +kernel
theorem dX2_schedule_48 : decode cX2_schedule 48 = .ok (.getfield 10, 3) := by decide +kernel
theorem dX2_schedule_51 : decode cX2_schedule 51 = .ok (.getfield 71, 3) := by decide +kernel
theorem dX2_schedule_54 : decode cX2_schedule 54 = .ok (.i2l, 1) := by decide +kernel
theorem dX2_schedule_55 : decode cX2_schedule 55 = .ok (.iload_n 2, 1) := by decide +kernel
theorem dX2_schedule_56 : decode cX2_schedule 56 = .ok (.i2l, 1) := by decide +kernel
theorem dX2_schedule_57 : decode cX2_schedule 57 = .ok (.lmul, 1) := by decide +kernel
theorem dX2_schedule_58 : decode cX2_schedule 58 = .ok (.iconst 1, 1) := by decide +kernel
theorem dX2_schedule_59 : decode cX2_schedule 59 = .ok (.aload_n 0, 1) := by decide +kernel
theorem dX2_schedule_60 : decode cX2_schedule 60 = .ok (.getfield 10, 3) := by decide +kernel
theorem dX2_schedule_63 : decode cX2_schedule 63 = .ok (.getfield 64, 3) := by decide +kernel
theorem dX2_schedule_66 : decode cX2_schedule 66 = .ok (.invokestatic 124, 3) := by decide +kernel
theorem dX2_schedule_69 : decode cX2_schedule 69 = .ok (.i2l, 1) := by decide +kernel
theorem dX2_schedule_70 : decode cX2_schedule 70 = .ok (.ldiv, 1) := by decide +kernel
theorem dX2_schedule_71 : decode cX2_schedule 71 = .ok (.lstore 5, 2) := by decide +kernel
theorem dX2_schedule_73 : decode cX2_schedule 73 = .ok (.lload_n 3, 1) := by decide +kernel
theorem dX2_schedule_74 : decode cX2_schedule 74 = .ok (.lload 5, 2) := by decide +kernel
theorem dX2_schedule_76 : decode cX2_schedule 76 = .ok (.lload_n 3, 1) := by decide +kernel
theorem dX2_schedule_77 : decode cX2_schedule 77 = .ok (.lsub, 1) := by decide +kernel
theorem dX2_schedule_78 : decode cX2_schedule 78 = .ok (.iload_n 1, 1) := by decide +kernel
theorem dX2_schedule_79 : decode cX2_schedule 79 = .ok (.i2l, 1) := by decide +kernel
theorem dX2_schedule_80 : decode cX2_schedule 80 = .ok (.lmul, 1) := by decide +kernel
theorem dX2_schedule_81 : decode cX2_schedule 81 = .ok (.ldc2_w 129, 3) := by decide +kernel
theorem dX2_schedule_84 : decode cX2_schedule 84 = .ok (.ldiv, 1) := by decide +kernel
theorem dX2_schedule_85 : decode cX2_schedule 85 = .ok (.ladd, 1) := by decide +kernel
theorem dX2_schedule_86 : decode cX2_schedule 86 = .ok (.l2i, 1) := by decide +kernel
theorem dX2_schedule_87 : decode cX2_schedule 87 = .ok (.ireturn, 1) := by decide +kernel
theorem dX2_strokesToBit_0 : decode cX2_strokesToBit 0 = .ok (.iload_n 1, 1) := by decide +kernel
theorem dX2_strokesToBit_1 : decode cX2_strokesToBit 1 = .ok (.iconst 1, 1) := by decide +kernel
theorem dX2_strokesToBit_2 : decode cX2_strokesToBit 2 = .ok (.bipush 100, 2) := by decide +kernel
theorem dX2_strokesToBit_4 : decode cX2_strokesToBit 4 = .ok (.invokestatic 31, 3) := by decide +kernel
theorem dX2_strokesToBit_7 : decode cX2_strokesToBit 7 = .ok (.ifCond .ne 10, 3) := by decide +kernel
theorem dX2_strokesToBit_10 : decode cX2_strokesToBit 10 = .ok (.aload_n 0, 1) := by decide +kernel
theorem dX2_strokesToBit_11 : decode cX2_strokesToBit 11 = .ok (.bipush (-2), 2) := by decide +kernel
theorem dX2_strokesToBit_13 : decode cX2_strokesToBit 13 = .ok (.invokevirtual 35, 3) := by decide +kernel
theorem dX2_strokesToBit_16 : decode cX2_strokesToBit 16 = .ok (.ireturn, 1) := by decide +kernel
theorem dX2_strokesToBit_17 : decode cX2_strokesToBit 17 = .ok (.aload_n 0, 1) := by decide +kernel
theorem dX2_strokesToBit_18 : decode cX2_strokesToBit 18 = .ok (.getfield 10, 3) := by decide +kernel
theorem dX2_strokesToBit_21 : decode cX2_strokesToBit 21 = .ok (.invokevirtual 57, 3) := by decide +kernel
theorem dX2_strokesToBit_24 : decode cX2_strokesToBit 24 = .ok (.iload_n 1, 1) := by decide +kernel
theorem dX2_strokesToBit_25 : decode cX2_strokesToBit 25 = .ok (.invokestatic 131, 3) := by decide +kernel
theorem dX2_strokesToBit_28 : decode cX2_strokesToBit 28 = .ok (.ireturn, 1) := by decide +kernel
theorem dX2_layers_0 : decode cX2_layers 0 = .ok (.iload_n 1, 1) := by decide +kernel
theorem dX2_layers_1 : decode cX2_layers 1 = .ok (.iconst 0, 1) := by decide +kernel
theorem dX2_layers_2 : decode cX2_layers 2 = .ok (.iconst 1, 1) := by decide +kernel
theorem dX2_layers_3 : decode cX2_layers 3 = .ok (.invokestatic 31, 3) := by decide +kernel
theorem dX2_layers_6 : decode cX2_layers 6 = .ok (.ifCond .ne 10, 3) := by decide +kernel
theorem dX2_layers_9 : decode cX2_layers 9 = .ok (.aload_n 0, 1) := by decide +kernel
theorem dX2_layers_10 : decode cX2_layers 10 = .ok (.bipush (-2), 2) := by decide +kernel
theorem dX2_layers_12 : decode cX2_layers 12 = .ok (.invokevirtual 35, 3) := by decide +kernel
theorem dX2_layers_15 : decode cX2_layers 15 = .ok (.ireturn, 1) := by decide +kernel
theorem dX2_layers_16 : decode cX2_layers 16 = .ok (.aload_n 0, 1) := by decide +kernel
theorem dX2_layers_17 : decode cX2_layers 17 = .ok (.getfield 10, 3) := by decide +kernel
theorem dX2_layers_20 : decode cX2_layers 20 = .ok (.iload_n 1, 1) := by decide +kernel
theorem dX2_layers_21 : decode cX2_layers 21 = .ok (.invokevirtual 134, 3) := by decide +kernel
theorem dX2_layers_24 : decode cX2_layers 24 = .ok (.getfield 138, 3) := by decide +kernel
theorem dX2_layers_27 : decode cX2_layers 27 = .ok (.ireturn, 1) := by decide +kernel
theorem dX2_layerVolume_0 : decode cX2_layerVolume 0 = .ok (.aload_n 0, 1) := by decide +kernel
theorem dX2_layerVolume_1 : decode cX2_layerVolume 1 = .ok (.iload_n 1, 1) := by decide +kernel
theorem dX2_layerVolume_2 : decode cX2_layerVolume 2 = .ok (.iload_n 2, 1) := by decide +kernel
theorem dX2_layerVolume_3 : decode cX2_layerVolume 3 = .ok (.invokevirtual 143, 3) := by decide +kernel
theorem dX2_layerVolume_6 : decode cX2_layerVolume 6 = .ok (.istore_n 3, 1) := by decide +kernel
theorem dX2_layerVolume_7 : decode cX2_layerVolume 7 = .ok (.iload_n 3, 1) := by decide +kernel
theorem dX2_layerVolume_8 : decode cX2_layerVolume 8 = .ok (.ifCond .eq 9, 3) := by decide +kernel
theorem dX2_layerVolume_11 : decode cX2_layerVolume 11 = .ok (.aload_n 0, 1) := by decide +kernel
theorem dX2_layerVolume_12 : decode cX2_layerVolume 12 = .ok (.iload_n 3, 1) := by decide +kernel
theorem dX2_layerVolume_13 : decode cX2_layerVolume 13 = .ok (.invokevirtual 35, 3) := by decide +kernel
theorem dX2_layerVolume_16 : decode cX2_layerVolume 16 = .ok (.ireturn, 1) := by decide +kernel
theorem dX2_layerVolume_17 : decode cX2_layerVolume 17 = .ok (.aload_n 0, 1) := by decide +kernel
theorem dX2_layerVolume_18 : decode cX2_layerVolume 18 = .ok (.getfield 10, 3) := by decide +kernel
theorem dX2_layerVolume_21 : decode cX2_layerVolume 21 = .ok (.iload_n 1, 1) := by decide +kernel
theorem dX2_layerVolume_22 : decode cX2_layerVolume 22 = .ok (.invokevirtual 134, 3) := by decide +kernel
theorem dX2_layerVolume_25 : decode cX2_layerVolume 25 = .ok (.iload_n 2, 1) := by decide +kernel
theorem dX2_layerVolume_26 : decode cX2_layerVolume 26 = .ok (.invokevirtual 146, 3) := by decide +kernel
theorem dX2_layerVolume_29 : decode cX2_layerVolume 29 = .ok (.ireturn, 1) := by decide +kernel
theorem dX2_layerDensity_0 : decode cX2_layerDensity 0 = .ok (.aload_n 0, 1) := by decide +kernel
theorem dX2_layerDensity_1 : decode cX2_layerDensity 1 = .ok (.iload_n 1, 1) := by decide +kernel
theorem dX2_layerDensity_2 : decode cX2_layerDensity 2 = .ok (.iload_n 2, 1) := by decide +kernel
theorem dX2_layerDensity_3 : decode cX2_layerDensity 3 = .ok (.invokevirtual 143, 3) := by decide +kernel
theorem dX2_layerDensity_6 : decode cX2_layerDensity 6 = .ok (.istore_n 3, 1) := by decide +kernel
theorem dX2_layerDensity_7 : decode cX2_layerDensity 7 = .ok (.iload_n 3, 1) := by decide +kernel
theorem dX2_layerDensity_8 : decode cX2_layerDensity 8 = .ok (.ifCond .eq 9, 3) := by decide +kernel
theorem dX2_layerDensity_11 : decode cX2_layerDensity 11 = .ok (.aload_n 0, 1) := by decide +kernel
theorem dX2_layerDensity_12 : decode cX2_layerDensity 12 = .ok (.iload_n 3, 1) := by decide +kernel
theorem dX2_layerDensity_13 : decode cX2_layerDensity 13 = .ok (.invokevirtual 35, 3) := by decide +kernel
theorem dX2_layerDensity_16 : decode cX2_layerDensity 16 = .ok (.ireturn, 1) := by decide +kernel
theorem dX2_layerDensity_17 : decode cX2_layerDensity 17 = .ok (.aload_n 0, 1) := by decide +kernel
theorem dX2_layerDensity_18 : decode cX2_layerDensity 18 = .ok (.getfield 10, 3) := by decide +kernel
theorem dX2_layerDensity_21 : decode cX2_layerDensity 21 = .ok (.iload_n 1, 1) := by decide +kernel
theorem dX2_layerDensity_22 : decode cX2_layerDensity 22 = .ok (.invokevirtual 134, 3) := by decide +kernel
theorem dX2_layerDensity_25 : decode cX2_layerDensity 25 = .ok (.iload_n 2, 1) := by decide +kernel
theorem dX2_layerDensity_26 : decode cX2_layerDensity 26 = .ok (.invokevirtual 149, 3) := by decide +kernel
theorem dX2_layerDensity_29 : decode cX2_layerDensity 29 = .ok (.ireturn, 1) := by decide +kernel
theorem dX2_gain_0 : decode cX2_gain 0 = .ok (.aload_n 0, 1) := by decide +kernel
theorem dX2_gain_1 : decode cX2_gain 1 = .ok (.getfield 10, 3) := by decide +kernel
theorem dX2_gain_4 : decode cX2_gain 4 = .ok (.getfield 152, 3) := by decide +kernel
theorem dX2_gain_7 : decode cX2_gain 7 = .ok (.ireturn, 1) := by decide +kernel
theorem dX2_breaks_0 : decode cX2_breaks 0 = .ok (.aload_n 0, 1) := by decide +kernel
theorem dX2_breaks_1 : decode cX2_breaks 1 = .ok (.getfield 10, 3) := by decide +kernel
theorem dX2_breaks_4 : decode cX2_breaks 4 = .ok (.getfield 155, 3) := by decide +kernel
theorem dX2_breaks_7 : decode cX2_breaks 7 = .ok (.ireturn, 1) := by decide +kernel
theorem dX2_greatestShoePressure_0 : decode cX2_greatestShoePressure 0 = .ok (.aload_n 0, 1) := by decide +kernel
theorem dX2_greatestShoePressure_1 : decode cX2_greatestShoePressure 1 = .ok (.getfield 10, 3) := by decide +kernel
theorem dX2_greatestShoePressure_4 : decode cX2_greatestShoePressure 4 = .ok (.getfield 117, 3) := by decide +kernel
theorem dX2_greatestShoePressure_7 : decode cX2_greatestShoePressure 7 = .ok (.ireturn, 1) := by decide +kernel
theorem dX2_undo_0 : decode cX2_undo 0 = .ok (.aload_n 0, 1) := by decide +kernel
theorem dX2_undo_1 : decode cX2_undo 1 = .ok (.getfield 23, 3) := by decide +kernel
theorem dX2_undo_4 : decode cX2_undo 4 = .ok (.iconst 1, 1) := by decide +kernel
theorem dX2_undo_5 : decode cX2_undo 5 = .ok (.if_icmp .ge 10, 3) := by decide +kernel
theorem dX2_undo_8 : decode cX2_undo 8 = .ok (.aload_n 0, 1) := by decide +kernel
theorem dX2_undo_9 : decode cX2_undo 9 = .ok (.bipush (-5), 2) := by decide +kernel
theorem dX2_undo_11 : decode cX2_undo 11 = .ok (.invokevirtual 35, 3) := by decide +kernel
theorem dX2_undo_14 : decode cX2_undo 14 = .ok (.ireturn, 1) := by decide +kernel
theorem dX2_undo_15 : decode cX2_undo 15 = .ok (.aload_n 0, 1) := by decide +kernel
theorem dX2_undo_16 : decode cX2_undo 16 = .ok (.dup, 1) := by decide +kernel
theorem dX2_undo_17 : decode cX2_undo 17 = .ok (.getfield 23, 3) := by decide +kernel
theorem dX2_undo_20 : decode cX2_undo 20 = .ok (.iconst 1, 1) := by decide +kernel
theorem dX2_undo_21 : decode cX2_undo 21 = .ok (.isub, 1) := by decide +kernel
theorem dX2_undo_22 : decode cX2_undo 22 = .ok (.putfield 23, 3) := by decide +kernel
theorem dX2_undo_25 : decode cX2_undo 25 = .ok (.aload_n 0, 1) := by decide +kernel
theorem dX2_undo_26 : decode cX2_undo 26 = .ok (.getfield 19, 3) := by decide +kernel
theorem dX2_undo_29 : decode cX2_undo 29 = .ok (.aload_n 0, 1) := by decide +kernel
theorem dX2_undo_30 : decode cX2_undo 30 = .ok (.getfield 23, 3) := by decide +kernel
theorem dX2_undo_33 : decode cX2_undo 33 = .ok (.aaload, 1) := by decide +kernel
theorem dX2_undo_34 : decode cX2_undo 34 = .ok (.astore_n 1, 1) := by decide +kernel
theorem dX2_undo_35 : decode cX2_undo 35 = .ok (.aload_n 0, 1) := by decide +kernel
theorem dX2_undo_36 : decode cX2_undo 36 = .ok (.getfield 19, 3) := by decide +kernel
theorem dX2_undo_39 : decode cX2_undo 39 = .ok (.aload_n 0, 1) := by decide +kernel
theorem dX2_undo_40 : decode cX2_undo 40 = .ok (.getfield 23, 3) := by decide +kernel
theorem dX2_undo_43 : decode cX2_undo 43 = .ok (.aload_n 0, 1) := by decide +kernel
theorem dX2_undo_44 : decode cX2_undo 44 = .ok (.getfield 10, 3) := by decide +kernel
theorem dX2_undo_47 : decode cX2_undo 47 = .ok (.aastore, 1) := by decide +kernel
theorem dX2_undo_48 : decode cX2_undo 48 = .ok (.aload_n 0, 1) := by decide +kernel
theorem dX2_undo_49 : decode cX2_undo 49 = .ok (.aload_n 1, 1) := by decide +kernel
theorem dX2_undo_50 : decode cX2_undo 50 = .ok (.putfield 10, 3) := by decide +kernel
theorem dX2_undo_53 : decode cX2_undo 53 = .ok (.aload_n 0, 1) := by decide +kernel
theorem dX2_undo_54 : decode cX2_undo 54 = .ok (.getfield 23, 3) := by decide +kernel
theorem dX2_undo_57 : decode cX2_undo 57 = .ok (.ireturn, 1) := by decide +kernel
theorem dX2_errorCount_0 : decode cX2_errorCount 0 = .ok (.iload_n 1, 1) := by decide +kernel
theorem dX2_errorCount_1 : decode cX2_errorCount 1 = .ok (.bipush (-5), 2) := by decide +kernel
theorem dX2_errorCount_3 : decode cX2_errorCount 3 = .ok (.bipush (-2), 2) := by decide +kernel
theorem dX2_errorCount_5 : decode cX2_errorCount 5 = .ok (.invokestatic 31, 3) := by decide +kernel
theorem dX2_errorCount_8 : decode cX2_errorCount 8 = .ok (.ifCond .ne 10, 3) := by decide +kernel
theorem dX2_errorCount_11 : decode cX2_errorCount 11 = .ok (.aload_n 0, 1) := by decide +kernel
theorem dX2_errorCount_12 : decode cX2_errorCount 12 = .ok (.bipush (-2), 2) := by decide +kernel
theorem dX2_errorCount_14 : decode cX2_errorCount 14 = .ok (.invokevirtual 35, 3) := by decide +kernel
theorem dX2_errorCount_17 : decode cX2_errorCount 17 = .ok (.ireturn, 1) := by decide +kernel
theorem dX2_errorCount_18 : decode cX2_errorCount 18 = .ok (.aload_n 0, 1) := by decide +kernel
theorem dX2_errorCount_19 : decode cX2_errorCount 19 = .ok (.getfield 27, 3) := by decide +kernel
theorem dX2_errorCount_22 : decode cX2_errorCount 22 = .ok (.bipush (-2), 2) := by decide +kernel
theorem dX2_errorCount_24 : decode cX2_errorCount 24 = .ok (.iload_n 1, 1) := by decide +kernel
theorem dX2_errorCount_25 : decode cX2_errorCount 25 = .ok (.isub, 1) := by decide +kernel
theorem dX2_errorCount_26 : decode cX2_errorCount 26 = .ok (.iaload, 1) := by decide +kernel
theorem dX2_errorCount_27 : decode cX2_errorCount 27 = .ok (.ireturn, 1) := by decide +kernel
theorem dX2_digest_0 : decode cX2_digest 0 = .ok (.ldc2_w 158, 3) := by decide +kernel
theorem dX2_digest_3 : decode cX2_digest 3 = .ok (.lstore_n 1, 1) := by decide +kernel
theorem dX2_digest_4 : decode cX2_digest 4 = .ok (.iconst 0, 1) := by decide +kernel
theorem dX2_digest_5 : decode cX2_digest 5 = .ok (.istore_n 3, 1) := by decide +kernel
theorem dX2_digest_6 : decode cX2_digest 6 = .ok (.iload_n 3, 1) := by decide +kernel
theorem dX2_digest_7 : decode cX2_digest 7 = .ok (.iconst 4, 1) := by decide +kernel
theorem dX2_digest_8 : decode cX2_digest 8 = .ok (.if_icmp .ge 21, 3) := by decide +kernel
theorem dX2_digest_11 : decode cX2_digest 11 = .ok (.lload_n 1, 1) := by decide +kernel
theorem dX2_digest_12 : decode cX2_digest 12 = .ok (.aload_n 0, 1) := by decide +kernel
theorem dX2_digest_13 : decode cX2_digest 13 = .ok (.getfield 27, 3) := by decide +kernel
theorem dX2_digest_16 : decode cX2_digest 16 = .ok (.iload_n 3, 1) := by decide +kernel
theorem dX2_digest_17 : decode cX2_digest 17 = .ok (.iaload, 1) := by decide +kernel
theorem dX2_digest_18 : decode cX2_digest 18 = .ok (.i2l, 1) := by decide +kernel
theorem dX2_digest_19 : decode cX2_digest 19 = .ok (.invokestatic 160, 3) := by decide +kernel
theorem dX2_digest_22 : decode cX2_digest 22 = .ok (.lstore_n 1, 1) := by decide +kernel
theorem dX2_digest_23 : decode cX2_digest 23 = .ok (.iinc 3 1, 3) := by decide +kernel
theorem dX2_digest_26 : decode cX2_digest 26 = .ok (.goto (-20), 3) := by decide +kernel
theorem dX2_digest_29 : decode cX2_digest 29 = .ok (.aload_n 0, 1) := by decide +kernel
theorem dX2_digest_30 : decode cX2_digest 30 = .ok (.getfield 10, 3) := by decide +kernel
theorem dX2_digest_33 : decode cX2_digest 33 = .ok (.lload_n 1, 1) := by decide +kernel
theorem dX2_digest_34 : decode cX2_digest 34 = .ok (.invokevirtual 164, 3) := by decide +kernel
theorem dX2_digest_37 : decode cX2_digest 37 = .ok (.lstore_n 1, 1) := by decide +kernel
theorem dX2_digest_38 : decode cX2_digest 38 = .ok (.aload_n 0, 1) := by decide +kernel
theorem dX2_digest_39 : decode cX2_digest 39 = .ok (.getfield 10, 3) := by decide +kernel
theorem dX2_digest_42 : decode cX2_digest 42 = .ok (.getfield 168, 3) := by decide +kernel
theorem dX2_digest_45 : decode cX2_digest 45 = .ok (.lload_n 1, 1) := by decide +kernel
theorem dX2_digest_46 : decode cX2_digest 46 = .ok (.invokevirtual 172, 3) := by decide +kernel
theorem dX2_digest_49 : decode cX2_digest 49 = .ok (.lstore_n 1, 1) := by decide +kernel
theorem dX2_digest_50 : decode cX2_digest 50 = .ok (.aload_n 0, 1) := by decide +kernel
theorem dX2_digest_51 : decode cX2_digest 51 = .ok (.getfield 10, 3) := by decide +kernel
theorem dX2_digest_54 : decode cX2_digest 54 = .ok (.getfield 175, 3) := by decide +kernel
theorem dX2_digest_57 : decode cX2_digest 57 = .ok (.lload_n 1, 1) := by decide +kernel
theorem dX2_digest_58 : decode cX2_digest 58 = .ok (.invokevirtual 172, 3) := by decide +kernel
theorem dX2_digest_61 : decode cX2_digest 61 = .ok (.lstore_n 1, 1) := by decide +kernel
theorem dX2_digest_62 : decode cX2_digest 62 = .ok (.aload_n 0, 1) := by decide +kernel
theorem dX2_digest_63 : decode cX2_digest 63 = .ok (.getfield 10, 3) := by decide +kernel
theorem dX2_digest_66 : decode cX2_digest 66 = .ok (.lload_n 1, 1) := by decide +kernel
theorem dX2_digest_67 : decode cX2_digest 67 = .ok (.invokevirtual 178, 3) := by decide +kernel
theorem dX2_digest_70 : decode cX2_digest 70 = .ok (.lstore_n 1, 1) := by decide +kernel
theorem dX2_digest_71 : decode cX2_digest 71 = .ok (.lload_n 1, 1) := by decide +kernel
theorem dX2_digest_72 : decode cX2_digest 72 = .ok (.aload_n 0, 1) := by decide +kernel
theorem dX2_digest_73 : decode cX2_digest 73 = .ok (.getfield 23, 3) := by decide +kernel
theorem dX2_digest_76 : decode cX2_digest 76 = .ok (.i2l, 1) := by decide +kernel
theorem dX2_digest_77 : decode cX2_digest 77 = .ok (.invokestatic 160, 3) := by decide +kernel
theorem dX2_digest_80 : decode cX2_digest 80 = .ok (.lreturn, 1) := by decide +kernel
theorem dX2_within_0 : decode cX2_within 0 = .ok (.iload_n 0, 1) := by decide +kernel
theorem dX2_within_1 : decode cX2_within 1 = .ok (.iload_n 1, 1) := by decide +kernel
theorem dX2_within_2 : decode cX2_within 2 = .ok (.if_icmp .lt 12, 3) := by decide +kernel
theorem dX2_within_5 : decode cX2_within 5 = .ok (.iload_n 0, 1) := by decide +kernel
theorem dX2_within_6 : decode cX2_within 6 = .ok (.iload_n 2, 1) := by decide +kernel
theorem dX2_within_7 : decode cX2_within 7 = .ok (.if_icmp .gt 7, 3) := by decide +kernel
theorem dX2_within_10 : decode cX2_within 10 = .ok (.iconst 1, 1) := by decide +kernel
theorem dX2_within_11 : decode cX2_within 11 = .ok (.goto 4, 3) := by decide +kernel
theorem dX2_within_14 : decode cX2_within 14 = .ok (.iconst 0, 1) := by decide +kernel
theorem dX2_within_15 : decode cX2_within 15 = .ok (.ireturn, 1) := by decide +kernel
theorem dX2_mixed_0 : decode cX2_mixed 0 = .ok (.ldc2_w 181, 3) := by decide +kernel
theorem dX2_mixed_3 : decode cX2_mixed 3 = .ok (.lload_n 0, 1) := by decide +kernel
theorem dX2_mixed_4 : decode cX2_mixed 4 = .ok (.lmul, 1) := by decide +kernel
theorem dX2_mixed_5 : decode cX2_mixed 5 = .ok (.lload_n 2, 1) := by decide +kernel
theorem dX2_mixed_6 : decode cX2_mixed 6 = .ok (.ladd, 1) := by decide +kernel
theorem dX2_mixed_7 : decode cX2_mixed 7 = .ok (.lreturn, 1) := by decide +kernel
theorem dX2_portionsFor_0 : decode cX2_portionsFor 0 = .ok (.iconst 1, 1) := by decide +kernel
theorem dX2_portionsFor_1 : decode cX2_portionsFor 1 = .ok (.iload_n 1, 1) := by decide +kernel
theorem dX2_portionsFor_2 : decode cX2_portionsFor 2 = .ok (.invokestatic 124, 3) := by decide +kernel
theorem dX2_portionsFor_5 : decode cX2_portionsFor 5 = .ok (.istore_n 2, 1) := by decide +kernel
theorem dX2_portionsFor_6 : decode cX2_portionsFor 6 = .ok (.iload_n 0, 1) := by decide +kernel
theorem dX2_portionsFor_7 : decode cX2_portionsFor 7 = .ok (.iload_n 2, 1) := by decide +kernel
theorem dX2_portionsFor_8 : decode cX2_portionsFor 8 = .ok (.iadd, 1) := by decide +kernel
theorem dX2_portionsFor_9 : decode cX2_portionsFor 9 = .ok (.iconst 1, 1) := by decide +kernel
theorem dX2_portionsFor_10 : decode cX2_portionsFor 10 = .ok (.isub, 1) := by decide +kernel
theorem dX2_portionsFor_11 : decode cX2_portionsFor 11 = .ok (.iload_n 2, 1) := by decide +kernel
theorem dX2_portionsFor_12 : decode cX2_portionsFor 12 = .ok (.idiv, 1) := by decide +kernel
theorem dX2_portionsFor_13 : decode cX2_portionsFor 13 = .ok (.ireturn, 1) := by decide +kernel
theorem dX2_layerError_0 : decode cX2_layerError 0 = .ok (.iload_n 1, 1) := by decide +kernel
theorem dX2_layerError_1 : decode cX2_layerError 1 = .ok (.iconst 0, 1) := by decide +kernel
theorem dX2_layerError_2 : decode cX2_layerError 2 = .ok (.iconst 1, 1) := by decide +kernel
theorem dX2_layerError_3 : decode cX2_layerError 3 = .ok (.invokestatic 31, 3) := by decide +kernel
theorem dX2_layerError_6 : decode cX2_layerError 6 = .ok (.ifCond .eq 7, 3) := by decide +kernel
theorem dX2_layerError_9 : decode cX2_layerError 9 = .ok (.iload_n 2, 1) := by decide +kernel
theorem dX2_layerError_10 : decode cX2_layerError 10 = .ok (.ifCond .ge 6, 3) := by decide +kernel
theorem dX2_layerError_13 : decode cX2_layerError 13 = .ok (.bipush (-2), 2) := by decide +kernel
theorem dX2_layerError_15 : decode cX2_layerError 15 = .ok (.ireturn, 1) := by decide +kernel
theorem dX2_layerError_16 : decode cX2_layerError 16 = .ok (.iload_n 2, 1) := by decide +kernel
theorem dX2_layerError_17 : decode cX2_layerError 17 = .ok (.aload_n 0, 1) := by decide +kernel
theorem dX2_layerError_18 : decode cX2_layerError 18 = .ok (.getfield 10, 3) := by decide +kernel
theorem dX2_layerError_21 : decode cX2_layerError 21 = .ok (.iload_n 1, 1) := by decide +kernel
theorem dX2_layerError_22 : decode cX2_layerError 22 = .ok (.invokevirtual 134, 3) := by decide +kernel
theorem dX2_layerError_25 : decode cX2_layerError 25 = .ok (.getfield 138, 3) := by decide +kernel
theorem dX2_layerError_28 : decode cX2_layerError 28 = .ok (.if_icmp .ge 7, 3) := by decide +kernel
theorem dX2_layerError_31 : decode cX2_layerError 31 = .ok (.iconst 0, 1) := by decide +kernel
theorem dX2_layerError_32 : decode cX2_layerError 32 = .ok (.goto 5, 3) := by decide +kernel
theorem dX2_layerError_35 : decode cX2_layerError 35 = .ok (.bipush (-4), 2) := by decide +kernel
theorem dX2_layerError_37 : decode cX2_layerError 37 = .ok (.ireturn, 1) := by decide +kernel
theorem dX2_refuse_0 : decode cX2_refuse 0 = .ok (.iload_n 1, 1) := by decide +kernel
theorem dX2_refuse_1 : decode cX2_refuse 1 = .ok (.bipush (-5), 2) := by decide +kernel
theorem dX2_refuse_3 : decode cX2_refuse 3 = .ok (.bipush (-2), 2) := by decide +kernel
theorem dX2_refuse_5 : decode cX2_refuse 5 = .ok (.invokestatic 31, 3) := by decide +kernel
theorem dX2_refuse_8 : decode cX2_refuse 8 = .ok (.ifCond .eq 16, 3) := by decide +kernel
theorem dX2_refuse_11 : decode cX2_refuse 11 = .ok (.aload_n 0, 1) := by decide +kernel
theorem dX2_refuse_12 : decode cX2_refuse 12 = .ok (.getfield 27, 3) := by decide +kernel
theorem dX2_refuse_15 : decode cX2_refuse 15 = .ok (.bipush (-2), 2) := by decide +kernel
theorem dX2_refuse_17 : decode cX2_refuse 17 = .ok (.iload_n 1, 1) := by decide +kernel
theorem dX2_refuse_18 : decode cX2_refuse 18 = .ok (.isub, 1) := by decide +kernel
theorem dX2_refuse_19 : decode cX2_refuse 19 = .ok (.dup2, 1) := by decide +kernel
theorem dX2_refuse_20 : decode cX2_refuse 20 = .ok (.iaload, 1) := by decide +kernel
theorem dX2_refuse_21 : decode cX2_refuse 21 = .ok (.iconst 1, 1) := by decide +kernel
theorem dX2_refuse_22 : decode cX2_refuse 22 = .ok (.iadd, 1) := by decide +kernel
theorem dX2_refuse_23 : decode cX2_refuse 23 = .ok (.iastore, 1) := by decide +kernel
theorem dX2_refuse_24 : decode cX2_refuse 24 = .ok (.iload_n 1, 1) := by decide +kernel
theorem dX2_refuse_25 : decode cX2_refuse 25 = .ok (.ireturn, 1) := by decide +kernel
theorem dX2_save_0 : decode cX2_save 0 = .ok (.aload_n 0, 1) := by decide +kernel
theorem dX2_save_1 : decode cX2_save 1 = .ok (.getfield 23, 3) := by decide +kernel
theorem dX2_save_4 : decode cX2_save 4 = .ok (.iconst 4, 1) := by decide +kernel
theorem dX2_save_5 : decode cX2_save 5 = .ok (.if_icmp .lt 7, 3) := by decide +kernel
theorem dX2_save_8 : decode cX2_save 8 = .ok (.aload_n 0, 1) := by decide +kernel
theorem dX2_save_9 : decode cX2_save 9 = .ok (.invokevirtual 183, 3) := by decide +kernel
theorem dX2_save_12 : decode cX2_save 12 = .ok (.aload_n 0, 1) := by decide +kernel
theorem dX2_save_13 : decode cX2_save 13 = .ok (.getfield 19, 3) := by decide +kernel
theorem dX2_save_16 : decode cX2_save 16 = .ok (.aload_n 0, 1) := by decide +kernel
theorem dX2_save_17 : decode cX2_save 17 = .ok (.getfield 23, 3) := by decide +kernel
theorem dX2_save_20 : decode cX2_save 20 = .ok (.aaload, 1) := by decide +kernel
theorem dX2_save_21 : decode cX2_save 21 = .ok (.aload_n 0, 1) := by decide +kernel
theorem dX2_save_22 : decode cX2_save 22 = .ok (.getfield 10, 3) := by decide +kernel
theorem dX2_save_25 : decode cX2_save 25 = .ok (.invokevirtual 113, 3) := by decide +kernel
theorem dX2_save_28 : decode cX2_save 28 = .ok (.aload_n 0, 1) := by decide +kernel
theorem dX2_save_29 : decode cX2_save 29 = .ok (.dup, 1) := by decide +kernel
theorem dX2_save_30 : decode cX2_save 30 = .ok (.getfield 23, 3) := by decide +kernel
theorem dX2_save_33 : decode cX2_save 33 = .ok (.iconst 1, 1) := by decide +kernel
theorem dX2_save_34 : decode cX2_save 34 = .ok (.iadd, 1) := by decide +kernel
theorem dX2_save_35 : decode cX2_save 35 = .ok (.putfield 23, 3) := by decide +kernel
theorem dX2_save_38 : decode cX2_save 38 = .ok (.return_, 1) := by decide +kernel
theorem dX2_dropOldestSaved_0 : decode cX2_dropOldestSaved 0 = .ok (.aload_n 0, 1) := by decide +kernel
theorem dX2_dropOldestSaved_1 : decode cX2_dropOldestSaved 1 = .ok (.getfield 19, 3) := by decide +kernel
theorem dX2_dropOldestSaved_4 : decode cX2_dropOldestSaved 4 = .ok (.iconst 0, 1) := by decide +kernel
theorem dX2_dropOldestSaved_5 : decode cX2_dropOldestSaved 5 = .ok (.aaload, 1) := by decide +kernel
theorem dX2_dropOldestSaved_6 : decode cX2_dropOldestSaved 6 = .ok (.astore_n 1, 1) := by decide +kernel
theorem dX2_dropOldestSaved_7 : decode cX2_dropOldestSaved 7 = .ok (.iconst 1, 1) := by decide +kernel
theorem dX2_dropOldestSaved_8 : decode cX2_dropOldestSaved 8 = .ok (.istore_n 2, 1) := by decide +kernel
theorem dX2_dropOldestSaved_9 : decode cX2_dropOldestSaved 9 = .ok (.iload_n 2, 1) := by decide +kernel
theorem dX2_dropOldestSaved_10 : decode cX2_dropOldestSaved 10 = .ok (.iconst 4, 1) := by decide +kernel
theorem dX2_dropOldestSaved_11 : decode cX2_dropOldestSaved 11 = .ok (.if_icmp .ge 23, 3) := by decide +kernel
theorem dX2_dropOldestSaved_14 : decode cX2_dropOldestSaved 14 = .ok (.aload_n 0, 1) := by decide +kernel
theorem dX2_dropOldestSaved_15 : decode cX2_dropOldestSaved 15 = .ok (.getfield 19, 3) := by decide +kernel
theorem dX2_dropOldestSaved_18 : decode cX2_dropOldestSaved 18 = .ok (.iload_n 2, 1) := by decide +kernel
theorem dX2_dropOldestSaved_19 : decode cX2_dropOldestSaved 19 = .ok (.iconst 1, 1) := by decide +kernel
theorem dX2_dropOldestSaved_20 : decode cX2_dropOldestSaved 20 = .ok (.isub, 1) := by decide +kernel
theorem dX2_dropOldestSaved_21 : decode cX2_dropOldestSaved 21 = .ok (.aload_n 0, 1) := by decide +kernel
theorem dX2_dropOldestSaved_22 : decode cX2_dropOldestSaved 22 = .ok (.getfield 19, 3) := by decide +kernel
theorem dX2_dropOldestSaved_25 : decode cX2_dropOldestSaved 25 = .ok (.iload_n 2, 1) := by decide +kernel
theorem dX2_dropOldestSaved_26 : decode cX2_dropOldestSaved 26 = .ok (.aaload, 1) := by decide +kernel
theorem dX2_dropOldestSaved_27 : decode cX2_dropOldestSaved 27 = .ok (.aastore, 1) := by decide +kernel
theorem dX2_dropOldestSaved_28 : decode cX2_dropOldestSaved 28 = .ok (.iinc 2 1, 3) := by decide +kernel
theorem dX2_dropOldestSaved_31 : decode cX2_dropOldestSaved 31 = .ok (.goto (-22), 3) := by decide +kernel
theorem dX2_dropOldestSaved_34 : decode cX2_dropOldestSaved 34 = .ok (.aload_n 0, 1) := by decide +kernel
theorem dX2_dropOldestSaved_35 : decode cX2_dropOldestSaved 35 = .ok (.getfield 19, 3) := by decide +kernel
theorem dX2_dropOldestSaved_38 : decode cX2_dropOldestSaved 38 = .ok (.iconst 3, 1) := by decide +kernel
theorem dX2_dropOldestSaved_39 : decode cX2_dropOldestSaved 39 = .ok (.aload_n 1, 1) := by decide +kernel
theorem dX2_dropOldestSaved_40 : decode cX2_dropOldestSaved 40 = .ok (.aastore, 1) := by decide +kernel
theorem dX2_dropOldestSaved_41 : decode cX2_dropOldestSaved 41 = .ok (.aload_n 0, 1) := by decide +kernel
theorem dX2_dropOldestSaved_42 : decode cX2_dropOldestSaved 42 = .ok (.iconst 3, 1) := by decide +kernel
theorem dX2_dropOldestSaved_43 : decode cX2_dropOldestSaved 43 = .ok (.putfield 23, 3) := by decide +kernel
theorem dX2_dropOldestSaved_46 : decode cX2_dropOldestSaved 46 = .ok (.return_, 1) := by decide +kernel
