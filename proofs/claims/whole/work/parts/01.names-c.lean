theorem dJ9_floorMod_7cf53_0 : decode cJ9_floorMod_7cf53 0 = .ok (.iload_n 0, 1) := by decide +kernel
theorem dJ9_floorMod_7cf53_1 : decode cJ9_floorMod_7cf53 1 = .ok (.iload_n 1, 1) := by decide +kernel
theorem dJ9_floorMod_7cf53_2 : decode cJ9_floorMod_7cf53 2 = .ok (.irem, 1) := by decide +kernel
theorem dJ9_floorMod_7cf53_3 : decode cJ9_floorMod_7cf53 3 = .ok (.istore_n 2, 1) := by decide +kernel
theorem dJ9_floorMod_7cf53_4 : decode cJ9_floorMod_7cf53 4 = .ok (.iload_n 0, 1) := by decide +kernel
theorem dJ9_floorMod_7cf53_5 : decode cJ9_floorMod_7cf53 5 = .ok (.iload_n 1, 1) := by decide +kernel
theorem dJ9_floorMod_7cf53_6 : decode cJ9_floorMod_7cf53 6 = .ok (.ixor, 1) := by decide +kernel
theorem dJ9_floorMod_7cf53_7 : decode cJ9_floorMod_7cf53 7 = .ok (.ifCond .ge 11, 3) := by decide +kernel
theorem dJ9_floorMod_7cf53_10 : decode cJ9_floorMod_7cf53 10 = .ok (.iload_n 2, 1) := by decide +kernel
theorem dJ9_floorMod_7cf53_11 : decode cJ9_floorMod_7cf53 11 = .ok (.ifCond .eq 7, 3) := by decide +kernel
theorem dJ9_floorMod_7cf53_14 : decode cJ9_floorMod_7cf53 14 = .ok (.iload_n 2, 1) := by decide +kernel
theorem dJ9_floorMod_7cf53_15 : decode cJ9_floorMod_7cf53 15 = .ok (.iload_n 1, 1) := by decide +kernel
theorem dJ9_floorMod_7cf53_16 : decode cJ9_floorMod_7cf53 16 = .ok (.iadd, 1) := by decide +kernel
theorem dJ9_floorMod_7cf53_17 : decode cJ9_floorMod_7cf53 17 = .ok (.ireturn, 1) := by decide +kernel
theorem dJ9_floorMod_7cf53_18 : decode cJ9_floorMod_7cf53 18 = .ok (.iload_n 2, 1) := by decide +kernel
theorem dJ9_floorMod_7cf53_19 : decode cJ9_floorMod_7cf53 19 = .ok (.ireturn, 1) := by decide +kernel
theorem dJ9_max_7cf53_0 : decode cJ9_max_7cf53 0 = .ok (.iload_n 0, 1) := by decide +kernel
theorem dJ9_max_7cf53_1 : decode cJ9_max_7cf53 1 = .ok (.iload_n 1, 1) := by decide +kernel
theorem dJ9_max_7cf53_2 : decode cJ9_max_7cf53 2 = .ok (.if_icmp .lt 7, 3) := by decide +kernel
theorem dJ9_max_7cf53_5 : decode cJ9_max_7cf53 5 = .ok (.iload_n 0, 1) := by decide +kernel
theorem dJ9_max_7cf53_6 : decode cJ9_max_7cf53 6 = .ok (.goto 4, 3) := by decide +kernel
theorem dJ9_max_7cf53_9 : decode cJ9_max_7cf53 9 = .ok (.iload_n 1, 1) := by decide +kernel
theorem dJ9_max_7cf53_10 : decode cJ9_max_7cf53 10 = .ok (.ireturn, 1) := by decide +kernel
theorem dJ9_max_f86c9_0 : decode cJ9_max_f86c9 0 = .ok (.lload_n 0, 1) := by decide +kernel
theorem dJ9_max_f86c9_1 : decode cJ9_max_f86c9 1 = .ok (.lload_n 2, 1) := by decide +kernel
theorem dJ9_max_f86c9_2 : decode cJ9_max_f86c9 2 = .ok (.lcmp, 1) := by decide +kernel
theorem dJ9_max_f86c9_3 : decode cJ9_max_f86c9 3 = .ok (.ifCond .lt 7, 3) := by decide +kernel
theorem dJ9_max_f86c9_6 : decode cJ9_max_f86c9 6 = .ok (.lload_n 0, 1) := by decide +kernel
theorem dJ9_max_f86c9_7 : decode cJ9_max_f86c9 7 = .ok (.goto 4, 3) := by decide +kernel
theorem dJ9_max_f86c9_10 : decode cJ9_max_f86c9 10 = .ok (.lload_n 2, 1) := by decide +kernel
theorem dJ9_max_f86c9_11 : decode cJ9_max_f86c9 11 = .ok (.lreturn, 1) := by decide +kernel
theorem dJ9_min_7cf53_0 : decode cJ9_min_7cf53 0 = .ok (.iload_n 0, 1) := by decide +kernel
theorem dJ9_min_7cf53_1 : decode cJ9_min_7cf53 1 = .ok (.iload_n 1, 1) := by decide +kernel
theorem dJ9_min_7cf53_2 : decode cJ9_min_7cf53 2 = .ok (.if_icmp .gt 7, 3) := by decide +kernel
theorem dJ9_min_7cf53_5 : decode cJ9_min_7cf53 5 = .ok (.iload_n 0, 1) := by decide +kernel
theorem dJ9_min_7cf53_6 : decode cJ9_min_7cf53 6 = .ok (.goto 4, 3) := by decide +kernel
theorem dJ9_min_7cf53_9 : decode cJ9_min_7cf53 9 = .ok (.iload_n 1, 1) := by decide +kernel
theorem dJ9_min_7cf53_10 : decode cJ9_min_7cf53 10 = .ok (.ireturn, 1) := by decide +kernel
theorem dX0_init_0 : decode cX0_init 0 = .ok (.aload_n 0, 1) := by decide +kernel
theorem dX0_init_1 : decode cX0_init 1 = .ok (.invokespecial 3, 3) := by decide +kernel
theorem dX0_init_4 : decode cX0_init 4 = .ok (.aload_n 0, 1) := by decide +kernel
theorem dX0_init_5 : decode cX0_init 5 = .ok (.sipush 520, 3) := by decide +kernel
theorem dX0_init_8 : decode cX0_init 8 = .ok (.newarray .int, 2) := by decide +kernel
theorem dX0_init_10 : decode cX0_init 10 = .ok (.putfield 9, 3) := by decide +kernel
theorem dX0_init_13 : decode cX0_init 13 = .ok (.aload_n 0, 1) := by decide +kernel
theorem dX0_init_14 : decode cX0_init 14 = .ok (.sipush 520, 3) := by decide +kernel
theorem dX0_init_17 : decode cX0_init 17 = .ok (.newarray .int, 2) := by decide +kernel
theorem dX0_init_19 : decode cX0_init 19 = .ok (.putfield 15, 3) := by decide +kernel
theorem dX0_init_22 : decode cX0_init 22 = .ok (.aload_n 0, 1) := by decide +kernel
theorem dX0_init_23 : decode cX0_init 23 = .ok (.iload_n 1, 1) := by decide +kernel
theorem dX0_init_24 : decode cX0_init 24 = .ok (.putfield 18, 3) := by decide +kernel
theorem dX0_init_27 : decode cX0_init 27 = .ok (.return_, 1) := by decide +kernel
theorem dX0_clear_0 : decode cX0_clear 0 = .ok (.aload_n 0, 1) := by decide +kernel
theorem dX0_clear_1 : decode cX0_clear 1 = .ok (.iconst 0, 1) := by decide +kernel
theorem dX0_clear_2 : decode cX0_clear 2 = .ok (.putfield 22, 3) := by decide +kernel
theorem dX0_clear_5 : decode cX0_clear 5 = .ok (.aload_n 0, 1) := by decide +kernel
theorem dX0_clear_6 : decode cX0_clear 6 = .ok (.iconst 0, 1) := by decide +kernel
theorem dX0_clear_7 : decode cX0_clear 7 = .ok (.putfield 26, 3) := by decide +kernel
theorem dX0_clear_10 : decode cX0_clear 10 = .ok (.aload_n 0, 1) := by decide +kernel
theorem dX0_clear_11 : decode cX0_clear 11 = .ok (.lconst 0, 1) := by decide +kernel
theorem dX0_clear_12 : decode cX0_clear 12 = .ok (.putfield 29, 3) := by decide +kernel
theorem dX0_clear_15 : decode cX0_clear 15 = .ok (.return_, 1) := by decide +kernel
theorem dX0_copyFrom_0 : decode cX0_copyFrom 0 = .ok (.aload_n 0, 1) := by decide +kernel
theorem dX0_copyFrom_1 : decode cX0_copyFrom 1 = .ok (.invokevirtual 33, 3) := by decide +kernel
theorem dX0_copyFrom_4 : decode cX0_copyFrom 4 = .ok (.iconst 0, 1) := by decide +kernel
theorem dX0_copyFrom_5 : decode cX0_copyFrom 5 = .ok (.istore_n 2, 1) := by decide +kernel
theorem dX0_copyFrom_6 : decode cX0_copyFrom 6 = .ok (.iload_n 2, 1) := by decide +kernel
theorem dX0_copyFrom_7 : decode cX0_copyFrom 7 = .ok (.aload_n 1, 1) := by decide +kernel
theorem dX0_copyFrom_8 : decode cX0_copyFrom 8 = .ok (.getfield 26, 3) := by decide +kernel
theorem dX0_copyFrom_11 : decode cX0_copyFrom 11 = .ok (.if_icmp .ge 31, 3) := by decide +kernel
theorem dX0_copyFrom_14 : decode cX0_copyFrom 14 = .ok (.aload_n 1, 1) := by decide +kernel
theorem dX0_copyFrom_15 : decode cX0_copyFrom 15 = .ok (.iload_n 2, 1) := by decide +kernel
theorem dX0_copyFrom_16 : decode cX0_copyFrom 16 = .ok (.invokevirtual 36, 3) := by decide +kernel
theorem dX0_copyFrom_19 : decode cX0_copyFrom 19 = .ok (.istore_n 3, 1) := by decide +kernel
theorem dX0_copyFrom_20 : decode cX0_copyFrom 20 = .ok (.aload_n 0, 1) := by decide +kernel
theorem dX0_copyFrom_21 : decode cX0_copyFrom 21 = .ok (.aload_n 1, 1) := by decide +kernel
theorem dX0_copyFrom_22 : decode cX0_copyFrom 22 = .ok (.getfield 9, 3) := by decide +kernel
theorem dX0_copyFrom_25 : decode cX0_copyFrom 25 = .ok (.iload_n 3, 1) := by decide +kernel
theorem dX0_copyFrom_26 : decode cX0_copyFrom 26 = .ok (.iaload, 1) := by decide +kernel
theorem dX0_copyFrom_27 : decode cX0_copyFrom 27 = .ok (.aload_n 1, 1) := by decide +kernel
theorem dX0_copyFrom_28 : decode cX0_copyFrom 28 = .ok (.getfield 15, 3) := by decide +kernel
theorem dX0_copyFrom_31 : decode cX0_copyFrom 31 = .ok (.iload_n 3, 1) := by decide +kernel
theorem dX0_copyFrom_32 : decode cX0_copyFrom 32 = .ok (.iaload, 1) := by decide +kernel
theorem dX0_copyFrom_33 : decode cX0_copyFrom 33 = .ok (.invokevirtual 40, 3) := by decide +kernel
theorem dX0_copyFrom_36 : decode cX0_copyFrom 36 = .ok (.iinc 2 1, 3) := by decide +kernel
theorem dX0_copyFrom_39 : decode cX0_copyFrom 39 = .ok (.goto (-33), 3) := by decide +kernel
theorem dX0_copyFrom_42 : decode cX0_copyFrom 42 = .ok (.return_, 1) := by decide +kernel
theorem dX0_placeOfAge_0 : decode cX0_placeOfAge 0 = .ok (.aload_n 0, 1) := by decide +kernel
theorem dX0_placeOfAge_1 : decode cX0_placeOfAge 1 = .ok (.getfield 22, 3) := by decide +kernel
theorem dX0_placeOfAge_4 : decode cX0_placeOfAge 4 = .ok (.iload_n 1, 1) := by decide +kernel
theorem dX0_placeOfAge_5 : decode cX0_placeOfAge 5 = .ok (.iadd, 1) := by decide +kernel
theorem dX0_placeOfAge_6 : decode cX0_placeOfAge 6 = .ok (.sipush 520, 3) := by decide +kernel
theorem dX0_placeOfAge_9 : decode cX0_placeOfAge 9 = .ok (.invokestatic 44, 3) := by decide +kernel
theorem dX0_placeOfAge_12 : decode cX0_placeOfAge 12 = .ok (.ireturn, 1) := by decide +kernel
theorem dX0_placeOfIndex_0 : decode cX0_placeOfIndex 0 = .ok (.aload_n 0, 1) := by decide +kernel
theorem dX0_placeOfIndex_1 : decode cX0_placeOfIndex 1 = .ok (.getfield 18, 3) := by decide +kernel
theorem dX0_placeOfIndex_4 : decode cX0_placeOfIndex 4 = .ok (.ifCond .eq 14, 3) := by decide +kernel
theorem dX0_placeOfIndex_7 : decode cX0_placeOfIndex 7 = .ok (.aload_n 0, 1) := by decide +kernel
theorem dX0_placeOfIndex_8 : decode cX0_placeOfIndex 8 = .ok (.getfield 26, 3) := by decide +kernel
theorem dX0_placeOfIndex_11 : decode cX0_placeOfIndex 11 = .ok (.iconst 1, 1) := by decide +kernel
theorem dX0_placeOfIndex_12 : decode cX0_placeOfIndex 12 = .ok (.isub, 1) := by decide +kernel
theorem dX0_placeOfIndex_13 : decode cX0_placeOfIndex 13 = .ok (.iload_n 1, 1) := by decide +kernel
theorem dX0_placeOfIndex_14 : decode cX0_placeOfIndex 14 = .ok (.isub, 1) := by decide +kernel
theorem dX0_placeOfIndex_15 : decode cX0_placeOfIndex 15 = .ok (.goto 4, 3) := by decide +kernel
theorem dX0_placeOfIndex_18 : decode cX0_placeOfIndex 18 = .ok (.iload_n 1, 1) := by decide +kernel
theorem dX0_placeOfIndex_19 : decode cX0_placeOfIndex 19 = .ok (.istore_n 2, 1) := by decide +kernel
theorem dX0_placeOfIndex_20 : decode cX0_placeOfIndex 20 = .ok (.aload_n 0, 1) := by decide +kernel
theorem dX0_placeOfIndex_21 : decode cX0_placeOfIndex 21 = .ok (.getfield 22, 3) := by decide +kernel
theorem dX0_placeOfIndex_24 : decode cX0_placeOfIndex 24 = .ok (.iload_n 2, 1) := by decide +kernel
theorem dX0_placeOfIndex_25 : decode cX0_placeOfIndex 25 = .ok (.iadd, 1) := by decide +kernel
theorem dX0_placeOfIndex_26 : decode cX0_placeOfIndex 26 = .ok (.sipush 520, 3) := by decide +kernel
theorem dX0_placeOfIndex_29 : decode cX0_placeOfIndex 29 = .ok (.invokestatic 44, 3) := by decide +kernel
theorem dX0_placeOfIndex_32 : decode cX0_placeOfIndex 32 = .ok (.ireturn, 1) := by decide +kernel
theorem dX0_volumeOf_0 : decode cX0_volumeOf 0 = .ok (.aload_n 0, 1) := by decide +kernel
theorem dX0_volumeOf_1 : decode cX0_volumeOf 1 = .ok (.getfield 9, 3) := by decide +kernel
theorem dX0_volumeOf_4 : decode cX0_volumeOf 4 = .ok (.aload_n 0, 1) := by decide +kernel
theorem dX0_volumeOf_5 : decode cX0_volumeOf 5 = .ok (.iload_n 1, 1) := by decide +kernel
theorem dX0_volumeOf_6 : decode cX0_volumeOf 6 = .ok (.invokevirtual 50, 3) := by decide +kernel
theorem dX0_volumeOf_9 : decode cX0_volumeOf 9 = .ok (.iaload, 1) := by decide +kernel
theorem dX0_volumeOf_10 : decode cX0_volumeOf 10 = .ok (.ireturn, 1) := by decide +kernel
theorem dX0_densityOf_0 : decode cX0_densityOf 0 = .ok (.aload_n 0, 1) := by decide +kernel
theorem dX0_densityOf_1 : decode cX0_densityOf 1 = .ok (.getfield 15, 3) := by decide +kernel
theorem dX0_densityOf_4 : decode cX0_densityOf 4 = .ok (.aload_n 0, 1) := by decide +kernel
theorem dX0_densityOf_5 : decode cX0_densityOf 5 = .ok (.iload_n 1, 1) := by decide +kernel
theorem dX0_densityOf_6 : decode cX0_densityOf 6 = .ok (.invokevirtual 50, 3) := by decide +kernel
theorem dX0_densityOf_9 : decode cX0_densityOf 9 = .ok (.iaload, 1) := by decide +kernel
theorem dX0_densityOf_10 : decode cX0_densityOf 10 = .ok (.ireturn, 1) := by decide +kernel
theorem dX0_enter_0 : decode cX0_enter 0 = .ok (.aload_n 0, 1) := by decide +kernel
theorem dX0_enter_1 : decode cX0_enter 1 = .ok (.iload_n 2, 1) := by decide +kernel
theorem dX0_enter_2 : decode cX0_enter 2 = .ok (.invokevirtual 53, 3) := by decide +kernel
theorem dX0_enter_5 : decode cX0_enter 5 = .ok (.ifCond .ne 36, 3) := by decide +kernel
theorem dX0_enter_8 : decode cX0_enter 8 = .ok (.aload_n 0, 1) := by decide +kernel
theorem dX0_enter_9 : decode cX0_enter 9 = .ok (.aload_n 0, 1) := by decide +kernel
theorem dX0_enter_10 : decode cX0_enter 10 = .ok (.getfield 26, 3) := by decide +kernel
theorem dX0_enter_13 : decode cX0_enter 13 = .ok (.invokevirtual 36, 3) := by decide +kernel
theorem dX0_enter_16 : decode cX0_enter 16 = .ok (.istore_n 3, 1) := by decide +kernel
theorem dX0_enter_17 : decode cX0_enter 17 = .ok (.aload_n 0, 1) := by decide +kernel
theorem dX0_enter_18 : decode cX0_enter 18 = .ok (.getfield 9, 3) := by decide +kernel
theorem dX0_enter_21 : decode cX0_enter 21 = .ok (.iload_n 3, 1) := by decide +kernel
theorem dX0_enter_22 : decode cX0_enter 22 = .ok (.iconst 0, 1) := by decide +kernel
theorem dX0_enter_23 : decode cX0_enter 23 = .ok (.iastore, 1) := by decide +kernel
theorem dX0_enter_24 : decode cX0_enter 24 = .ok (.aload_n 0, 1) := by decide +kernel
theorem dX0_enter_25 : decode cX0_enter 25 = .ok (.getfield 15, 3) := by decide +kernel
theorem dX0_enter_28 : decode cX0_enter 28 = .ok (.iload_n 3, 1) := by decide +kernel
theorem dX0_enter_29 : decode cX0_enter 29 = .ok (.iload_n 2, 1) := by decide +kernel
theorem dX0_enter_30 : decode cX0_enter 30 = .ok (.iastore, 1) := by decide +kernel
theorem dX0_enter_31 : decode cX0_enter 31 = .ok (.aload_n 0, 1) := by decide +kernel
theorem dX0_enter_32 : decode cX0_enter 32 = .ok (.dup, 1) := by decide +kernel
theorem dX0_enter_33 : decode cX0_enter 33 = .ok (.getfield 26, 3) := by decide +kernel
theorem dX0_enter_36 : decode cX0_enter 36 = .ok (.iconst 1, 1) := by decide +kernel
theorem dX0_enter_37 : decode cX0_enter 37 = .ok (.iadd, 1) := by decide +kernel
theorem dX0_enter_38 : decode cX0_enter 38 = .ok (.putfield 26, 3) := by decide +kernel
theorem dX0_enter_41 : decode cX0_enter 41 = .ok (.aload_n 0, 1) := by decide +kernel
theorem dX0_enter_42 : decode cX0_enter 42 = .ok (.aload_n 0, 1) := by decide +kernel
theorem dX0_enter_43 : decode cX0_enter 43 = .ok (.getfield 26, 3) := by decide +kernel
theorem dX0_enter_46 : decode cX0_enter 46 = .ok (.iconst 1, 1) := by decide +kernel
theorem dX0_enter_47 : decode cX0_enter 47 = .ok (.isub, 1) := by decide +kernel
theorem dX0_enter_48 : decode cX0_enter 48 = .ok (.invokevirtual 36, 3) := by decide +kernel
theorem dX0_enter_51 : decode cX0_enter 51 = .ok (.istore_n 3, 1) := by decide +kernel
theorem dX0_enter_52 : decode cX0_enter 52 = .ok (.aload_n 0, 1) := by decide +kernel
theorem dX0_enter_53 : decode cX0_enter 53 = .ok (.getfield 9, 3) := by decide +kernel
theorem dX0_enter_56 : decode cX0_enter 56 = .ok (.iload_n 3, 1) := by decide +kernel
theorem dX0_enter_57 : decode cX0_enter 57 = .ok (.dup2, 1) := by decide +kernel
theorem dX0_enter_58 : decode cX0_enter 58 = .ok (.iaload, 1) := by decide +kernel
theorem dX0_enter_59 : decode cX0_enter 59 = .ok (.iload_n 1, 1) := by decide +kernel
theorem dX0_enter_60 : decode cX0_enter 60 = .ok (.iadd, 1) := by decide +kernel
theorem dX0_enter_61 : decode cX0_enter 61 = .ok (.iastore, 1) := by decide +kernel
theorem dX0_enter_62 : decode cX0_enter 62 = .ok (.aload_n 0, 1) := by decide +kernel
theorem dX0_enter_63 : decode cX0_enter 63 = .ok (.dup, 1) := by decide +kernel
theorem dX0_enter_64 : decode cX0_enter 64 = .ok (.getfield 29, 3) := by decide +kernel
theorem dX0_enter_67 : decode cX0_enter 67 = .ok (.iload_n 1, 1) := by decide +kernel
theorem dX0_enter_68 : decode cX0_enter 68 = .ok (.i2l, 1) := by decide +kernel
theorem dX0_enter_69 : decode cX0_enter 69 = .ok (.aload_n 0, 1) := by decide +kernel
theorem dX0_enter_70 : decode cX0_enter 70 = .ok (.getfield 15, 3) := by decide +kernel
theorem dX0_enter_73 : decode cX0_enter 73 = .ok (.iload_n 3, 1) := by decide +kernel
theorem dX0_enter_74 : decode cX0_enter 74 = .ok (.iaload, 1) := by decide +kernel
theorem dX0_enter_75 : decode cX0_enter 75 = .ok (.i2l, 1) := by decide +kernel
theorem dX0_enter_76 : decode cX0_enter 76 = .ok (.lmul, 1) := by decide +kernel
theorem dX0_enter_77 : decode cX0_enter 77 = .ok (.ladd, 1) := by decide +kernel
theorem dX0_enter_78 : decode cX0_enter 78 = .ok (.putfield 29, 3) := by decide +kernel
theorem dX0_enter_81 : decode cX0_enter 81 = .ok (.return_, 1) := by decide +kernel
theorem dX0_joinsNewest_0 : decode cX0_joinsNewest 0 = .ok (.aload_n 0, 1) := by decide +kernel
theorem dX0_joinsNewest_1 : decode cX0_joinsNewest 1 = .ok (.getfield 26, 3) := by decide +kernel
theorem dX0_joinsNewest_4 : decode cX0_joinsNewest 4 = .ok (.sipush 520, 3) := by decide +kernel
theorem dX0_joinsNewest_7 : decode cX0_joinsNewest 7 = .ok (.if_icmp .ge 29, 3) := by decide +kernel
theorem dX0_joinsNewest_10 : decode cX0_joinsNewest 10 = .ok (.aload_n 0, 1) := by decide +kernel
theorem dX0_joinsNewest_11 : decode cX0_joinsNewest 11 = .ok (.getfield 26, 3) := by decide +kernel
theorem dX0_joinsNewest_14 : decode cX0_joinsNewest 14 = .ok (.ifCond .le 26, 3) := by decide +kernel
theorem dX0_joinsNewest_17 : decode cX0_joinsNewest 17 = .ok (.aload_n 0, 1) := by decide +kernel
theorem dX0_joinsNewest_18 : decode cX0_joinsNewest 18 = .ok (.getfield 15, 3) := by decide +kernel
theorem dX0_joinsNewest_21 : decode cX0_joinsNewest 21 = .ok (.aload_n 0, 1) := by decide +kernel
theorem dX0_joinsNewest_22 : decode cX0_joinsNewest 22 = .ok (.aload_n 0, 1) := by decide +kernel
theorem dX0_joinsNewest_23 : decode cX0_joinsNewest 23 = .ok (.getfield 26, 3) := by decide +kernel
theorem dX0_joinsNewest_26 : decode cX0_joinsNewest 26 = .ok (.iconst 1, 1) := by decide +kernel
theorem dX0_joinsNewest_27 : decode cX0_joinsNewest 27 = .ok (.isub, 1) := by decide +kernel
theorem dX0_joinsNewest_28 : decode cX0_joinsNewest 28 = .ok (.invokevirtual 36, 3) := by decide +kernel
theorem dX0_joinsNewest_31 : decode cX0_joinsNewest 31 = .ok (.iaload, 1) := by decide +kernel
theorem dX0_joinsNewest_32 : decode cX0_joinsNewest 32 = .ok (.iload_n 1, 1) := by decide +kernel
theorem dX0_joinsNewest_33 : decode cX0_joinsNewest 33 = .ok (.if_icmp .ne 7, 3) := by decide +kernel
theorem dX0_joinsNewest_36 : decode cX0_joinsNewest 36 = .ok (.iconst 1, 1) := by decide +kernel
theorem dX0_joinsNewest_37 : decode cX0_joinsNewest 37 = .ok (.goto 4, 3) := by decide +kernel
theorem dX0_joinsNewest_40 : decode cX0_joinsNewest 40 = .ok (.iconst 0, 1) := by decide +kernel
theorem dX0_joinsNewest_41 : decode cX0_joinsNewest 41 = .ok (.ireturn, 1) := by decide +kernel
theorem dX0_release_0 : decode cX0_release 0 = .ok (.iload_n 1, 1) := by decide +kernel
theorem dX0_release_1 : decode cX0_release 1 = .ok (.istore_n 2, 1) := by decide +kernel
theorem dX0_release_2 : decode cX0_release 2 = .ok (.aload_n 0, 1) := by decide +kernel
theorem dX0_release_3 : decode cX0_release 3 = .ok (.getfield 26, 3) := by decide +kernel
theorem dX0_release_6 : decode cX0_release 6 = .ok (.istore_n 3, 1) := by decide +kernel
theorem dX0_release_7 : decode cX0_release 7 = .ok (.iload_n 3, 1) := by decide +kernel
theorem dX0_release_8 : decode cX0_release 8 = .ok (.ifCond .le 21, 3) := by decide +kernel
theorem dX0_release_11 : decode cX0_release 11 = .ok (.iload_n 2, 1) := by decide +kernel
theorem dX0_release_12 : decode cX0_release 12 = .ok (.ifCond .le 17, 3) := by decide +kernel
theorem dX0_release_15 : decode cX0_release 15 = .ok (.iload_n 2, 1) := by decide +kernel
theorem dX0_release_16 : decode cX0_release 16 = .ok (.aload_n 0, 1) := by decide +kernel
theorem dX0_release_17 : decode cX0_release 17 = .ok (.iload_n 2, 1) := by decide +kernel
theorem dX0_release_18 : decode cX0_release 18 = .ok (.invokevirtual 57, 3) := by decide +kernel
theorem dX0_release_21 : decode cX0_release 21 = .ok (.isub, 1) := by decide +kernel
theorem dX0_release_22 : decode cX0_release 22 = .ok (.istore_n 2, 1) := by decide +kernel
theorem dX0_release_23 : decode cX0_release 23 = .ok (.iinc 3 (-1), 3) := by decide +kernel
theorem dX0_release_26 : decode cX0_release 26 = .ok (.goto (-19), 3) := by decide +kernel
theorem dX0_release_29 : decode cX0_release 29 = .ok (.return_, 1) := by decide +kernel
theorem dX0_releaseInto_0 : decode cX0_releaseInto 0 = .ok (.iload_n 2, 1) := by decide +kernel
theorem dX0_releaseInto_1 : decode cX0_releaseInto 1 = .ok (.istore_n 3, 1) := by decide +kernel
theorem dX0_releaseInto_2 : decode cX0_releaseInto 2 = .ok (.aload_n 0, 1) := by decide +kernel
theorem dX0_releaseInto_3 : decode cX0_releaseInto 3 = .ok (.getfield 26, 3) := by decide +kernel
theorem dX0_releaseInto_6 : decode cX0_releaseInto 6 = .ok (.istore 4, 2) := by decide +kernel
theorem dX0_releaseInto_8 : decode cX0_releaseInto 8 = .ok (.iload 4, 2) := by decide +kernel
theorem dX0_releaseInto_10 : decode cX0_releaseInto 10 = .ok (.ifCond .le 45, 3) := by decide +kernel
theorem dX0_releaseInto_13 : decode cX0_releaseInto 13 = .ok (.iload_n 3, 1) := by decide +kernel
theorem dX0_releaseInto_14 : decode cX0_releaseInto 14 = .ok (.ifCond .le 41, 3) := by decide +kernel
theorem dX0_releaseInto_17 : decode cX0_releaseInto 17 = .ok (.aload_n 0, 1) := by decide +kernel
theorem dX0_releaseInto_18 : decode cX0_releaseInto 18 = .ok (.getfield 15, 3) := by decide +kernel
theorem dX0_releaseInto_21 : decode cX0_releaseInto 21 = .ok (.aload_n 0, 1) := by decide +kernel
theorem dX0_releaseInto_22 : decode cX0_releaseInto 22 = .ok (.iconst 0, 1) := by decide +kernel
theorem dX0_releaseInto_23 : decode cX0_releaseInto 23 = .ok (.invokevirtual 36, 3) := by decide +kernel
theorem dX0_releaseInto_26 : decode cX0_releaseInto 26 = .ok (.iaload, 1) := by decide +kernel
theorem dX0_releaseInto_27 : decode cX0_releaseInto 27 = .ok (.istore 5, 2) := by decide +kernel
theorem dX0_releaseInto_29 : decode cX0_releaseInto 29 = .ok (.aload_n 0, 1) := by decide +kernel
theorem dX0_releaseInto_30 : decode cX0_releaseInto 30 = .ok (.iload_n 3, 1) := by decide +kernel
theorem dX0_releaseInto_31 : decode cX0_releaseInto 31 = .ok (.invokevirtual 57, 3) := by decide +kernel
theorem dX0_releaseInto_34 : decode cX0_releaseInto 34 = .ok (.istore 6, 2) := by decide +kernel
theorem dX0_releaseInto_36 : decode cX0_releaseInto 36 = .ok (.aload_n 1, 1) := by decide +kernel
theorem dX0_releaseInto_37 : decode cX0_releaseInto 37 = .ok (.iload 6, 2) := by decide +kernel
theorem dX0_releaseInto_39 : decode cX0_releaseInto 39 = .ok (.iload 5, 2) := by decide +kernel
theorem dX0_releaseInto_41 : decode cX0_releaseInto 41 = .ok (.invokevirtual 40, 3) := by decide +kernel
theorem dX0_releaseInto_44 : decode cX0_releaseInto 44 = .ok (.iload_n 3, 1) := by decide +kernel
theorem dX0_releaseInto_45 : decode cX0_releaseInto 45 = .ok (.iload 6, 2) := by decide +kernel
theorem dX0_releaseInto_47 : decode cX0_releaseInto 47 = .ok (.isub, 1) := by decide +kernel
theorem dX0_releaseInto_48 : decode cX0_releaseInto 48 = .ok (.istore_n 3, 1) := by decide +kernel
theorem dX0_releaseInto_49 : decode cX0_releaseInto 49 = .ok (.iinc 4 (-1), 3) := by decide +kernel
theorem dX0_releaseInto_52 : decode cX0_releaseInto 52 = .ok (.goto (-44), 3) := by decide +kernel
theorem dX0_releaseInto_55 : decode cX0_releaseInto 55 = .ok (.return_, 1) := by decide +kernel
theorem dX0_releaseOldest_0 : decode cX0_releaseOldest 0 = .ok (.aload_n 0, 1) := by decide +kernel
theorem dX0_releaseOldest_1 : decode cX0_releaseOldest 1 = .ok (.iconst 0, 1) := by decide +kernel
theorem dX0_releaseOldest_2 : decode cX0_releaseOldest 2 = .ok (.invokevirtual 36, 3) := by decide +kernel
theorem dX0_releaseOldest_5 : decode cX0_releaseOldest 5 = .ok (.istore_n 2, 1) := by decide +kernel
theorem dX0_releaseOldest_6 : decode cX0_releaseOldest 6 = .ok (.iload_n 1, 1) := by decide +kernel
theorem dX0_releaseOldest_7 : decode cX0_releaseOldest 7 = .ok (.aload_n 0, 1) := by decide +kernel
theorem dX0_releaseOldest_8 : decode cX0_releaseOldest 8 = .ok (.getfield 9, 3) := by decide +kernel
theorem dX0_releaseOldest_11 : decode cX0_releaseOldest 11 = .ok (.iload_n 2, 1) := by decide +kernel
theorem dX0_releaseOldest_12 : decode cX0_releaseOldest 12 = .ok (.iaload, 1) := by decide +kernel
theorem dX0_releaseOldest_13 : decode cX0_releaseOldest 13 = .ok (.invokestatic 60, 3) := by decide +kernel
theorem dX0_releaseOldest_16 : decode cX0_releaseOldest 16 = .ok (.istore_n 3, 1) := by decide +kernel
theorem dX0_releaseOldest_17 : decode cX0_releaseOldest 17 = .ok (.aload_n 0, 1) := by decide +kernel
theorem dX0_releaseOldest_18 : decode cX0_releaseOldest 18 = .ok (.getfield 9, 3) := by decide +kernel
theorem dX0_releaseOldest_21 : decode cX0_releaseOldest 21 = .ok (.iload_n 2, 1) := by decide +kernel
theorem dX0_releaseOldest_22 : decode cX0_releaseOldest 22 = .ok (.dup2, 1) := by decide +kernel
theorem dX0_releaseOldest_23 : decode cX0_releaseOldest 23 = .ok (.iaload, 1) := by decide +kernel
theorem dX0_releaseOldest_24 : decode cX0_releaseOldest 24 = .ok (.iload_n 3, 1) := by decide +kernel
theorem dX0_releaseOldest_25 : decode cX0_releaseOldest 25 = .ok (.isub, 1) := by decide +kernel
theorem dX0_releaseOldest_26 : decode cX0_releaseOldest 26 = .ok (.iastore, 1) := by decide +kernel
theorem dX0_releaseOldest_27 : decode cX0_releaseOldest 27 = .ok (.aload_n 0, 1) := by decide +kernel
theorem dX0_releaseOldest_28 : decode cX0_releaseOldest 28 = .ok (.dup, 1) := by decide +kernel
theorem dX0_releaseOldest_29 : decode cX0_releaseOldest 29 = .ok (.getfield 29, 3) := by decide +kernel
theorem dX0_releaseOldest_32 : decode cX0_releaseOldest 32 = .ok (.iload_n 3, 1) := by decide +kernel
theorem dX0_releaseOldest_33 : decode cX0_releaseOldest 33 = .ok (.i2l, 1) := by decide +kernel
theorem dX0_releaseOldest_34 : decode cX0_releaseOldest 34 = .ok (.aload_n 0, 1) := by decide +kernel
theorem dX0_releaseOldest_35 : decode cX0_releaseOldest 35 = .ok (.getfield 15, 3) := by decide +kernel
theorem dX0_releaseOldest_38 : decode cX0_releaseOldest 38 = .ok (.iload_n 2, 1) := by decide +kernel
theorem dX0_releaseOldest_39 : decode cX0_releaseOldest 39 = .ok (.iaload, 1) := by decide +kernel
theorem dX0_releaseOldest_40 : decode cX0_releaseOldest 40 = .ok (.i2l, 1) := by decide +kernel
theorem dX0_releaseOldest_41 : decode cX0_releaseOldest 41 = .ok (.lmul, 1) := by decide +kernel
theorem dX0_releaseOldest_42 : decode cX0_releaseOldest 42 = .ok (.lsub, 1) := by decide +kernel
theorem dX0_releaseOldest_43 : decode cX0_releaseOldest 43 = .ok (.putfield 29, 3) := by decide +kernel
theorem dX0_releaseOldest_46 : decode cX0_releaseOldest 46 = .ok (.aload_n 0, 1) := by decide +kernel
theorem dX0_releaseOldest_47 : decode cX0_releaseOldest 47 = .ok (.getfield 9, 3) := by decide +kernel
theorem dX0_releaseOldest_50 : decode cX0_releaseOldest 50 = .ok (.iload_n 2, 1) := by decide +kernel
theorem dX0_releaseOldest_51 : decode cX0_releaseOldest 51 = .ok (.iaload, 1) := by decide +kernel
theorem dX0_releaseOldest_52 : decode cX0_releaseOldest 52 = .ok (.ifCond .ne 22, 3) := by decide +kernel
theorem dX0_releaseOldest_55 : decode cX0_releaseOldest 55 = .ok (.aload_n 0, 1) := by decide +kernel
theorem dX0_releaseOldest_56 : decode cX0_releaseOldest 56 = .ok (.aload_n 0, 1) := by decide +kernel
theorem dX0_releaseOldest_57 : decode cX0_releaseOldest 57 = .ok (.iconst 1, 1) := by decide +kernel
theorem dX0_releaseOldest_58 : decode cX0_releaseOldest 58 = .ok (.invokevirtual 36, 3) := by decide +kernel
theorem dX0_releaseOldest_61 : decode cX0_releaseOldest 61 = .ok (.putfield 22, 3) := by decide +kernel
theorem dX0_releaseOldest_64 : decode cX0_releaseOldest 64 = .ok (.aload_n 0, 1) := by decide +kernel
theorem dX0_releaseOldest_65 : decode cX0_releaseOldest 65 = .ok (.dup, 1) := by decide +kernel
theorem dX0_releaseOldest_66 : decode cX0_releaseOldest 66 = .ok (.getfield 26, 3) := by decide +kernel
theorem dX0_releaseOldest_69 : decode cX0_releaseOldest 69 = .ok (.iconst 1, 1) := by decide +kernel
theorem dX0_releaseOldest_70 : decode cX0_releaseOldest 70 = .ok (.isub, 1) := by decide +kernel
theorem dX0_releaseOldest_71 : decode cX0_releaseOldest 71 = .ok (.putfield 26, 3) := by decide +kernel
theorem dX0_releaseOldest_74 : decode cX0_releaseOldest 74 = .ok (.iload_n 3, 1) := by decide +kernel
theorem dX0_releaseOldest_75 : decode cX0_releaseOldest 75 = .ok (.ireturn, 1) := by decide +kernel
theorem dX0_loadAbove_0 : decode cX0_loadAbove 0 = .ok (.lconst 0, 1) := by decide +kernel
theorem dX0_loadAbove_1 : decode cX0_loadAbove 1 = .ok (.lstore_n 2, 1) := by decide +kernel
theorem dX0_loadAbove_2 : decode cX0_loadAbove 2 = .ok (.iload_n 1, 1) := by decide +kernel
theorem dX0_loadAbove_3 : decode cX0_loadAbove 3 = .ok (.istore 4, 2) := by decide +kernel
theorem dX0_loadAbove_5 : decode cX0_loadAbove 5 = .ok (.iconst 0, 1) := by decide +kernel
theorem dX0_loadAbove_6 : decode cX0_loadAbove 6 = .ok (.istore 5, 2) := by decide +kernel
theorem dX0_loadAbove_8 : decode cX0_loadAbove 8 = .ok (.iload 5, 2) := by decide +kernel
theorem dX0_loadAbove_10 : decode cX0_loadAbove 10 = .ok (.aload_n 0, 1) := by decide +kernel
theorem dX0_loadAbove_11 : decode cX0_loadAbove 11 = .ok (.getfield 26, 3) := by decide +kernel
theorem dX0_loadAbove_14 : decode cX0_loadAbove 14 = .ok (.if_icmp .ge 58, 3) := by decide +kernel
theorem dX0_loadAbove_17 : decode cX0_loadAbove 17 = .ok (.iload 4, 2) := by decide +kernel
theorem dX0_loadAbove_19 : decode cX0_loadAbove 19 = .ok (.ifCond .le 53, 3) := by decide +kernel
theorem dX0_loadAbove_22 : decode cX0_loadAbove 22 = .ok (.aload_n 0, 1) := by decide +kernel
theorem dX0_loadAbove_23 : decode cX0_loadAbove 23 = .ok (.iload 5, 2) := by decide +kernel
theorem dX0_loadAbove_25 : decode cX0_loadAbove 25 = .ok (.invokevirtual 50, 3) := by decide +kernel
theorem dX0_loadAbove_28 : decode cX0_loadAbove 28 = .ok (.istore 6, 2) := by decide +kernel
theorem dX0_loadAbove_30 : decode cX0_loadAbove 30 = .ok (.iload 4, 2) := by decide +kernel
theorem dX0_loadAbove_32 : decode cX0_loadAbove 32 = .ok (.aload_n 0, 1) := by decide +kernel
theorem dX0_loadAbove_33 : decode cX0_loadAbove 33 = .ok (.getfield 9, 3) := by decide +kernel
theorem dX0_loadAbove_36 : decode cX0_loadAbove 36 = .ok (.iload 6, 2) := by decide +kernel
theorem dX0_loadAbove_38 : decode cX0_loadAbove 38 = .ok (.iaload, 1) := by decide +kernel
theorem dX0_loadAbove_39 : decode cX0_loadAbove 39 = .ok (.invokestatic 60, 3) := by decide +kernel
theorem dX0_loadAbove_42 : decode cX0_loadAbove 42 = .ok (.istore 7, 2) := by decide +kernel
theorem dX0_loadAbove_44 : decode cX0_loadAbove 44 = .ok (.lload_n 2, 1) := by decide +kernel
theorem dX0_loadAbove_45 : decode cX0_loadAbove 45 = .ok (.iload 7, 2) := by decide +kernel
theorem dX0_loadAbove_47 : decode cX0_loadAbove 47 = .ok (.i2l, 1) := by decide +kernel
theorem dX0_loadAbove_48 : decode cX0_loadAbove 48 = .ok (.aload_n 0, 1) := by decide +kernel
theorem dX0_loadAbove_49 : decode cX0_loadAbove 49 = .ok (.getfield 15, 3) := by decide +kernel
theorem dX0_loadAbove_52 : decode cX0_loadAbove 52 = .ok (.iload 6, 2) := by decide +kernel
theorem dX0_loadAbove_54 : decode cX0_loadAbove 54 = .ok (.iaload, 1) := by decide +kernel
theorem dX0_loadAbove_55 : decode cX0_loadAbove 55 = .ok (.i2l, 1) := by decide +kernel
theorem dX0_loadAbove_56 : decode cX0_loadAbove 56 = .ok (.lmul, 1) := by decide +kernel
theorem dX0_loadAbove_57 : decode cX0_loadAbove 57 = .ok (.ladd, 1) := by decide +kernel
theorem dX0_loadAbove_58 : decode cX0_loadAbove 58 = .ok (.lstore_n 2, 1) := by decide +kernel
theorem dX0_loadAbove_59 : decode cX0_loadAbove 59 = .ok (.iload 4, 2) := by decide +kernel
theorem dX0_loadAbove_61 : decode cX0_loadAbove 61 = .ok (.iload 7, 2) := by decide +kernel
theorem dX0_loadAbove_63 : decode cX0_loadAbove 63 = .ok (.isub, 1) := by decide +kernel
theorem dX0_loadAbove_64 : decode cX0_loadAbove 64 = .ok (.istore 4, 2) := by decide +kernel
theorem dX0_loadAbove_66 : decode cX0_loadAbove 66 = .ok (.iinc 5 1, 3) := by decide +kernel
theorem dX0_loadAbove_69 : decode cX0_loadAbove 69 = .ok (.goto (-61), 3) := by decide +kernel
theorem dX0_loadAbove_72 : decode cX0_loadAbove 72 = .ok (.lload_n 2, 1) := by decide +kernel
theorem dX0_loadAbove_73 : decode cX0_loadAbove 73 = .ok (.lreturn, 1) := by decide +kernel
theorem dX0_mixedLayers_0 : decode cX0_mixedLayers 0 = .ok (.lload_n 1, 1) := by decide +kernel
theorem dX0_mixedLayers_1 : decode cX0_mixedLayers 1 = .ok (.aload_n 0, 1) := by decide +kernel
theorem dX0_mixedLayers_2 : decode cX0_mixedLayers 2 = .ok (.getfield 26, 3) := by decide +kernel
theorem dX0_mixedLayers_5 : decode cX0_mixedLayers 5 = .ok (.i2l, 1) := by decide +kernel
theorem dX0_mixedLayers_6 : decode cX0_mixedLayers 6 = .ok (.invokestatic 63, 3) := by decide +kernel
theorem dX0_mixedLayers_9 : decode cX0_mixedLayers 9 = .ok (.lstore_n 1, 1) := by decide +kernel
theorem dX0_mixedLayers_10 : decode cX0_mixedLayers 10 = .ok (.iconst 0, 1) := by decide +kernel
theorem dX0_mixedLayers_11 : decode cX0_mixedLayers 11 = .ok (.istore_n 3, 1) := by decide +kernel
theorem dX0_mixedLayers_12 : decode cX0_mixedLayers 12 = .ok (.iload_n 3, 1) := by decide +kernel
theorem dX0_mixedLayers_13 : decode cX0_mixedLayers 13 = .ok (.aload_n 0, 1) := by decide +kernel
theorem dX0_mixedLayers_14 : decode cX0_mixedLayers 14 = .ok (.getfield 26, 3) := by decide +kernel
theorem dX0_mixedLayers_17 : decode cX0_mixedLayers 17 = .ok (.if_icmp .ge 42, 3) := by decide +kernel
theorem dX0_mixedLayers_20 : decode cX0_mixedLayers 20 = .ok (.aload_n 0, 1) := by decide +kernel
theorem dX0_mixedLayers_21 : decode cX0_mixedLayers 21 = .ok (.iload_n 3, 1) := by decide +kernel
theorem dX0_mixedLayers_22 : decode cX0_mixedLayers 22 = .ok (.invokevirtual 50, 3) := by decide +kernel
theorem dX0_mixedLayers_25 : decode cX0_mixedLayers 25 = .ok (.istore 4, 2) := by decide +kernel
theorem dX0_mixedLayers_27 : decode cX0_mixedLayers 27 = .ok (.lload_n 1, 1) := by decide +kernel
theorem dX0_mixedLayers_28 : decode cX0_mixedLayers 28 = .ok (.aload_n 0, 1) := by decide +kernel
theorem dX0_mixedLayers_29 : decode cX0_mixedLayers 29 = .ok (.getfield 9, 3) := by decide +kernel
theorem dX0_mixedLayers_32 : decode cX0_mixedLayers 32 = .ok (.iload 4, 2) := by decide +kernel
theorem dX0_mixedLayers_34 : decode cX0_mixedLayers 34 = .ok (.iaload, 1) := by decide +kernel
theorem dX0_mixedLayers_35 : decode cX0_mixedLayers 35 = .ok (.i2l, 1) := by decide +kernel
theorem dX0_mixedLayers_36 : decode cX0_mixedLayers 36 = .ok (.invokestatic 63, 3) := by decide +kernel
theorem dX0_mixedLayers_39 : decode cX0_mixedLayers 39 = .ok (.lstore_n 1, 1) := by decide +kernel
theorem dX0_mixedLayers_40 : decode cX0_mixedLayers 40 = .ok (.lload_n 1, 1) := by decide +kernel
theorem dX0_mixedLayers_41 : decode cX0_mixedLayers 41 = .ok (.aload_n 0, 1) := by decide +kernel
theorem dX0_mixedLayers_42 : decode cX0_mixedLayers 42 = .ok (.getfield 15, 3) := by decide +kernel
theorem dX0_mixedLayers_45 : decode cX0_mixedLayers 45 = .ok (.iload 4, 2) := by decide +kernel
theorem dX0_mixedLayers_47 : decode cX0_mixedLayers 47 = .ok (.iaload, 1) := by decide +kernel
theorem dX0_mixedLayers_48 : decode cX0_mixedLayers 48 = .ok (.i2l, 1) := by decide +kernel
theorem dX0_mixedLayers_49 : decode cX0_mixedLayers 49 = .ok (.invokestatic 63, 3) := by decide +kernel
theorem dX0_mixedLayers_52 : decode cX0_mixedLayers 52 = .ok (.lstore_n 1, 1) := by decide +kernel
theorem dX0_mixedLayers_53 : decode cX0_mixedLayers 53 = .ok (.iinc 3 1, 3) := by decide +kernel
theorem dX0_mixedLayers_56 : decode cX0_mixedLayers 56 = .ok (.goto (-44), 3) := by decide +kernel
theorem dX0_mixedLayers_59 : decode cX0_mixedLayers 59 = .ok (.lload_n 1, 1) := by decide +kernel
theorem dX0_mixedLayers_60 : decode cX0_mixedLayers 60 = .ok (.lreturn, 1) := by decide +kernel
theorem dX1_init_0 : decode cX1_init 0 = .ok (.aload_n 0, 1) := by decide +kernel
theorem dX1_init_1 : decode cX1_init 1 = .ok (.invokespecial 3, 3) := by decide +kernel
theorem dX1_init_4 : decode cX1_init 4 = .ok (.aload_n 0, 1) := by decide +kernel
theorem dX1_init_5 : decode cX1_init 5 = .ok (.sipush 1000, 3) := by decide +kernel
theorem dX1_init_8 : decode cX1_init 8 = .ok (.putfield 9, 3) := by decide +kernel
theorem dX1_init_11 : decode cX1_init 11 = .ok (.aload_n 0, 1) := by decide +kernel
theorem dX1_init_12 : decode cX1_init 12 = .ok (.bipush 9, 2) := by decide +kernel
theorem dX1_init_14 : decode cX1_init 14 = .ok (.putfield 15, 3) := by decide +kernel
theorem dX1_init_17 : decode cX1_init 17 = .ok (.aload_n 0, 1) := by decide +kernel
theorem dX1_init_18 : decode cX1_init 18 = .ok (.bipush 25, 2) := by decide +kernel
theorem dX1_init_20 : decode cX1_init 20 = .ok (.putfield 18, 3) := by decide +kernel
theorem dX1_init_23 : decode cX1_init 23 = .ok (.aload_n 0, 1) := by decide +kernel
theorem dX1_init_24 : decode cX1_init 24 = .ok (.sipush 400, 3) := by decide +kernel
theorem dX1_init_27 : decode cX1_init 27 = .ok (.putfield 21, 3) := by decide +kernel
theorem dX1_init_30 : decode cX1_init 30 = .ok (.aload_n 0, 1) := by decide +kernel
theorem dX1_init_31 : decode cX1_init 31 = .ok (.sipush 1200, 3) := by decide +kernel
theorem dX1_init_34 : decode cX1_init 34 = .ok (.putfield 24, 3) := by decide +kernel
theorem dX1_init_37 : decode cX1_init 37 = .ok (.aload_n 0, 1) := by decide +kernel
theorem dX1_init_38 : decode cX1_init 38 = .ok (.iconst 0, 1) := by decide +kernel
theorem dX1_init_39 : decode cX1_init 39 = .ok (.putfield 27, 3) := by decide +kernel
theorem dX1_init_42 : decode cX1_init 42 = .ok (.aload_n 0, 1) := by decide +kernel
theorem dX1_init_43 : decode cX1_init 43 = .ok (.sipush 2000, 3) := by decide +kernel
theorem dX1_init_46 : decode cX1_init 46 = .ok (.putfield 30, 3) := by decide +kernel
theorem dX1_init_49 : decode cX1_init 49 = .ok (.aload_n 0, 1) := by decide +kernel
theorem dX1_init_50 : decode cX1_init 50 = .ok (.sipush 8000, 3) := by decide +kernel
theorem dX1_init_53 : decode cX1_init 53 = .ok (.putfield 33, 3) := by decide +kernel
theorem dX1_init_56 : decode cX1_init 56 = .ok (.aload_n 0, 1) := by decide +kernel
theorem dX1_init_57 : decode cX1_init 57 = .ok (.new 36, 3) := by decide +kernel
theorem dX1_init_60 : decode cX1_init 60 = .ok (.dup, 1) := by decide +kernel
theorem dX1_init_61 : decode cX1_init 61 = .ok (.iconst 1, 1) := by decide +kernel
theorem dX1_init_62 : decode cX1_init 62 = .ok (.invokespecial 38, 3) := by decide +kernel
theorem dX1_init_65 : decode cX1_init 65 = .ok (.putfield 41, 3) := by decide +kernel
theorem dX1_init_68 : decode cX1_init 68 = .ok (.aload_n 0, 1) := by decide +kernel
theorem dX1_init_69 : decode cX1_init 69 = .ok (.new 36, 3) := by decide +kernel
theorem dX1_init_72 : decode cX1_init 72 = .ok (.dup, 1) := by decide +kernel
theorem dX1_init_73 : decode cX1_init 73 = .ok (.iconst 0, 1) := by decide +kernel
theorem dX1_init_74 : decode cX1_init 74 = .ok (.invokespecial 38, 3) := by decide +kernel
theorem dX1_init_77 : decode cX1_init 77 = .ok (.putfield 45, 3) := by decide +kernel
theorem dX1_init_80 : decode cX1_init 80 = .ok (.aload_n 0, 1) := by decide +kernel
theorem dX1_init_81 : decode cX1_init 81 = .ok (.invokevirtual 48, 3) := by decide +kernel
theorem dX1_init_84 : decode cX1_init 84 = .ok (.return_, 1) := by decide +kernel
theorem dX1_startAnew_0 : decode cX1_startAnew 0 = .ok (.aload_n 0, 1) := by decide +kernel
theorem dX1_startAnew_1 : decode cX1_startAnew 1 = .ok (.getfield 41, 3) := by decide +kernel
theorem dX1_startAnew_4 : decode cX1_startAnew 4 = .ok (.invokevirtual 51, 3) := by decide +kernel
theorem dX1_startAnew_7 : decode cX1_startAnew 7 = .ok (.aload_n 0, 1) := by decide +kernel
theorem dX1_startAnew_8 : decode cX1_startAnew 8 = .ok (.getfield 41, 3) := by decide +kernel
theorem dX1_startAnew_11 : decode cX1_startAnew 11 = .ok (.aload_n 0, 1) := by decide +kernel
theorem dX1_startAnew_12 : decode cX1_startAnew 12 = .ok (.invokevirtual 54, 3) := by decide +kernel
theorem dX1_startAnew_15 : decode cX1_startAnew 15 = .ok (.aload_n 0, 1) := by decide +kernel
theorem dX1_startAnew_16 : decode cX1_startAnew 16 = .ok (.getfield 24, 3) := by decide +kernel
theorem dX1_startAnew_19 : decode cX1_startAnew 19 = .ok (.invokevirtual 58, 3) := by decide +kernel
theorem dX1_startAnew_22 : decode cX1_startAnew 22 = .ok (.aload_n 0, 1) := by decide +kernel
theorem dX1_startAnew_23 : decode cX1_startAnew 23 = .ok (.getfield 45, 3) := by decide +kernel
theorem dX1_startAnew_26 : decode cX1_startAnew 26 = .ok (.invokevirtual 51, 3) := by decide +kernel
theorem dX1_startAnew_29 : decode cX1_startAnew 29 = .ok (.aload_n 0, 1) := by decide +kernel
theorem dX1_startAnew_30 : decode cX1_startAnew 30 = .ok (.getfield 45, 3) := by decide +kernel
theorem dX1_startAnew_33 : decode cX1_startAnew 33 = .ok (.aload_n 0, 1) := by decide +kernel
theorem dX1_startAnew_34 : decode cX1_startAnew 34 = .ok (.invokevirtual 62, 3) := by decide +kernel
theorem dX1_startAnew_37 : decode cX1_startAnew 37 = .ok (.aload_n 0, 1) := by decide +kernel
theorem dX1_startAnew_38 : decode cX1_startAnew 38 = .ok (.getfield 24, 3) := by decide +kernel
theorem dX1_startAnew_41 : decode cX1_startAnew 41 = .ok (.invokevirtual 58, 3) := by decide +kernel
theorem dX1_startAnew_44 : decode cX1_startAnew 44 = .ok (.aload_n 0, 1) := by decide +kernel
theorem dX1_startAnew_45 : decode cX1_startAnew 45 = .ok (.iconst 0, 1) := by decide +kernel
theorem dX1_startAnew_46 : decode cX1_startAnew 46 = .ok (.putfield 65, 3) := by decide +kernel
theorem dX1_startAnew_49 : decode cX1_startAnew 49 = .ok (.aload_n 0, 1) := by decide +kernel
theorem dX1_startAnew_50 : decode cX1_startAnew 50 = .ok (.iconst 0, 1) := by decide +kernel
theorem dX1_startAnew_51 : decode cX1_startAnew 51 = .ok (.putfield 68, 3) := by decide +kernel
theorem dX1_startAnew_54 : decode cX1_startAnew 54 = .ok (.aload_n 0, 1) := by decide +kernel
theorem dX1_startAnew_55 : decode cX1_startAnew 55 = .ok (.iconst 0, 1) := by decide +kernel
theorem dX1_startAnew_56 : decode cX1_startAnew 56 = .ok (.putfield 71, 3) := by decide +kernel
theorem dX1_startAnew_59 : decode cX1_startAnew 59 = .ok (.return_, 1) := by decide +kernel
theorem dX1_copyFrom_0 : decode cX1_copyFrom 0 = .ok (.aload_n 0, 1) := by decide +kernel
theorem dX1_copyFrom_1 : decode cX1_copyFrom 1 = .ok (.aload_n 1, 1) := by decide +kernel
theorem dX1_copyFrom_2 : decode cX1_copyFrom 2 = .ok (.getfield 9, 3) := by decide +kernel
theorem dX1_copyFrom_5 : decode cX1_copyFrom 5 = .ok (.putfield 9, 3) := by decide +kernel
theorem dX1_copyFrom_8 : decode cX1_copyFrom 8 = .ok (.aload_n 0, 1) := by decide +kernel
theorem dX1_copyFrom_9 : decode cX1_copyFrom 9 = .ok (.aload_n 1, 1) := by decide +kernel
theorem dX1_copyFrom_10 : decode cX1_copyFrom 10 = .ok (.getfield 15, 3) := by decide +kernel
theorem dX1_copyFrom_13 : decode cX1_copyFrom 13 = .ok (.putfield 15, 3) := by decide +kernel
theorem dX1_copyFrom_16 : decode cX1_copyFrom 16 = .ok (.aload_n 0, 1) := by decide +kernel
theorem dX1_copyFrom_17 : decode cX1_copyFrom 17 = .ok (.aload_n 1, 1) := by decide +kernel
theorem dX1_copyFrom_18 : decode cX1_copyFrom 18 = .ok (.getfield 18, 3) := by decide +kernel
theorem dX1_copyFrom_21 : decode cX1_copyFrom 21 = .ok (.putfield 18, 3) := by decide +kernel
theorem dX1_copyFrom_24 : decode cX1_copyFrom 24 = .ok (.aload_n 0, 1) := by decide +kernel
theorem dX1_copyFrom_25 : decode cX1_copyFrom 25 = .ok (.aload_n 1, 1) := by decide +kernel
theorem dX1_copyFrom_26 : decode cX1_copyFrom 26 = .ok (.getfield 21, 3) := by decide +kernel
theorem dX1_copyFrom_29 : decode cX1_copyFrom 29 = .ok (.putfield 21, 3) := by decide +kernel
theorem dX1_copyFrom_32 : decode cX1_copyFrom 32 = .ok (.aload_n 0, 1) := by decide +kernel
theorem dX1_copyFrom_33 : decode cX1_copyFrom 33 = .ok (.aload_n 1, 1) := by decide +kernel
theorem dX1_copyFrom_34 : decode cX1_copyFrom 34 = .ok (.getfield 24, 3) := by decide +kernel
theorem dX1_copyFrom_37 : decode cX1_copyFrom 37 = .ok (.putfield 24, 3) := by decide +kernel
theorem dX1_copyFrom_40 : decode cX1_copyFrom 40 = .ok (.aload_n 0, 1) := by decide +kernel
theorem dX1_copyFrom_41 : decode cX1_copyFrom 41 = .ok (.aload_n 1, 1) := by decide +kernel
theorem dX1_copyFrom_42 : decode cX1_copyFrom 42 = .ok (.getfield 27, 3) := by decide +kernel
theorem dX1_copyFrom_45 : decode cX1_copyFrom 45 = .ok (.putfield 27, 3) := by decide +kernel
theorem dX1_copyFrom_48 : decode cX1_copyFrom 48 = .ok (.aload_n 0, 1) := by decide +kernel
theorem dX1_copyFrom_49 : decode cX1_copyFrom 49 = .ok (.aload_n 1, 1) := by decide +kernel
theorem dX1_copyFrom_50 : decode cX1_copyFrom 50 = .ok (.getfield 30, 3) := by decide +kernel
theorem dX1_copyFrom_53 : decode cX1_copyFrom 53 = .ok (.putfield 30, 3) := by decide +kernel
theorem dX1_copyFrom_56 : decode cX1_copyFrom 56 = .ok (.aload_n 0, 1) := by decide +kernel
theorem dX1_copyFrom_57 : decode cX1_copyFrom 57 = .ok (.aload_n 1, 1) := by decide +kernel
theorem dX1_copyFrom_58 : decode cX1_copyFrom 58 = .ok (.getfield 33, 3) := by decide +kernel
theorem dX1_copyFrom_61 : decode cX1_copyFrom 61 = .ok (.putfield 33, 3) := by decide +kernel
theorem dX1_copyFrom_64 : decode cX1_copyFrom 64 = .ok (.aload_n 0, 1) := by decide +kernel
theorem dX1_copyFrom_65 : decode cX1_copyFrom 65 = .ok (.aload_n 1, 1) := by decide +kernel
theorem dX1_copyFrom_66 : decode cX1_copyFrom 66 = .ok (.getfield 65, 3) := by decide +kernel
theorem dX1_copyFrom_69 : decode cX1_copyFrom 69 = .ok (.putfield 65, 3) := by decide +kernel
theorem dX1_copyFrom_72 : decode cX1_copyFrom 72 = .ok (.aload_n 0, 1) := by decide +kernel
theorem dX1_copyFrom_73 : decode cX1_copyFrom 73 = .ok (.aload_n 1, 1) := by decide +kernel
theorem dX1_copyFrom_74 : decode cX1_copyFrom 74 = .ok (.getfield 68, 3) := by decide +kernel
theorem dX1_copyFrom_77 : decode cX1_copyFrom 77 = .ok (.putfield 68, 3) := by decide +kernel
theorem dX1_copyFrom_80 : decode cX1_copyFrom 80 = .ok (.aload_n 0, 1) := by decide +kernel
theorem dX1_copyFrom_81 : decode cX1_copyFrom 81 = .ok (.aload_n 1, 1) := by decide +kernel
theorem dX1_copyFrom_82 : decode cX1_copyFrom 82 = .ok (.getfield 71, 3) := by decide +kernel
theorem dX1_copyFrom_85 : decode cX1_copyFrom 85 = .ok (.putfield 71, 3) := by decide +kernel
theorem dX1_copyFrom_88 : decode cX1_copyFrom 88 = .ok (.aload_n 0, 1) := by decide +kernel
theorem dX1_copyFrom_89 : decode cX1_copyFrom 89 = .ok (.getfield 41, 3) := by decide +kernel
theorem dX1_copyFrom_92 : decode cX1_copyFrom 92 = .ok (.aload_n 1, 1) := by decide +kernel
theorem dX1_copyFrom_93 : decode cX1_copyFrom 93 = .ok (.getfield 41, 3) := by decide +kernel
theorem dX1_copyFrom_96 : decode cX1_copyFrom 96 = .ok (.invokevirtual 74, 3) := by decide +kernel
theorem dX1_copyFrom_99 : decode cX1_copyFrom 99 = .ok (.aload_n 0, 1) := by decide +kernel
theorem dX1_copyFrom_100 : decode cX1_copyFrom 100 = .ok (.getfield 45, 3) := by decide +kernel
theorem dX1_copyFrom_103 : decode cX1_copyFrom 103 = .ok (.aload_n 1, 1) := by decide +kernel
theorem dX1_copyFrom_104 : decode cX1_copyFrom 104 = .ok (.getfield 45, 3) := by decide +kernel
theorem dX1_copyFrom_107 : decode cX1_copyFrom 107 = .ok (.invokevirtual 74, 3) := by decide +kernel
theorem dX1_copyFrom_110 : decode cX1_copyFrom 110 = .ok (.return_, 1) := by decide +kernel
theorem dX1_pipeVolume_0 : decode cX1_pipeVolume 0 = .ok (.aload_n 0, 1) := by decide +kernel
theorem dX1_pipeVolume_1 : decode cX1_pipeVolume 1 = .ok (.getfield 9, 3) := by decide +kernel
theorem dX1_pipeVolume_4 : decode cX1_pipeVolume 4 = .ok (.aload_n 0, 1) := by decide +kernel
theorem dX1_pipeVolume_5 : decode cX1_pipeVolume 5 = .ok (.getfield 15, 3) := by decide +kernel
theorem dX1_pipeVolume_8 : decode cX1_pipeVolume 8 = .ok (.imul, 1) := by decide +kernel
theorem dX1_pipeVolume_9 : decode cX1_pipeVolume 9 = .ok (.ireturn, 1) := by decide +kernel
theorem dX1_annulusVolume_0 : decode cX1_annulusVolume 0 = .ok (.aload_n 0, 1) := by decide +kernel
theorem dX1_annulusVolume_1 : decode cX1_annulusVolume 1 = .ok (.getfield 9, 3) := by decide +kernel
theorem dX1_annulusVolume_4 : decode cX1_annulusVolume 4 = .ok (.aload_n 0, 1) := by decide +kernel
theorem dX1_annulusVolume_5 : decode cX1_annulusVolume 5 = .ok (.getfield 18, 3) := by decide +kernel
theorem dX1_annulusVolume_8 : decode cX1_annulusVolume 8 = .ok (.imul, 1) := by decide +kernel
theorem dX1_annulusVolume_9 : decode cX1_annulusVolume 9 = .ok (.ireturn, 1) := by decide +kernel
theorem dX1_column_0 : decode cX1_column 0 = .ok (.iload_n 1, 1) := by decide +kernel
theorem dX1_column_1 : decode cX1_column 1 = .ok (.ifCond .ne 10, 3) := by decide +kernel
theorem dX1_column_4 : decode cX1_column 4 = .ok (.aload_n 0, 1) := by decide +kernel
theorem dX1_column_5 : decode cX1_column 5 = .ok (.getfield 41, 3) := by decide +kernel
theorem dX1_column_8 : decode cX1_column 8 = .ok (.goto 7, 3) := by decide +kernel
theorem dX1_column_11 : decode cX1_column 11 = .ok (.aload_n 0, 1) := by decide +kernel
theorem dX1_column_12 : decode cX1_column 12 = .ok (.getfield 45, 3) := by decide +kernel
theorem dX1_column_15 : decode cX1_column 15 = .ok (.areturn, 1) := by decide +kernel
theorem dX1_capacity_0 : decode cX1_capacity 0 = .ok (.iload_n 1, 1) := by decide +kernel
theorem dX1_capacity_1 : decode cX1_capacity 1 = .ok (.ifCond .ne 10, 3) := by decide +kernel
theorem dX1_capacity_4 : decode cX1_capacity 4 = .ok (.aload_n 0, 1) := by decide +kernel
theorem dX1_capacity_5 : decode cX1_capacity 5 = .ok (.getfield 15, 3) := by decide +kernel
theorem dX1_capacity_8 : decode cX1_capacity 8 = .ok (.goto 7, 3) := by decide +kernel
theorem dX1_capacity_11 : decode cX1_capacity 11 = .ok (.aload_n 0, 1) := by decide +kernel
theorem dX1_capacity_12 : decode cX1_capacity 12 = .ok (.getfield 18, 3) := by decide +kernel
theorem dX1_capacity_15 : decode cX1_capacity 15 = .ok (.ireturn, 1) := by decide +kernel
theorem dX1_canCirculate_0 : decode cX1_canCirculate 0 = .ok (.iload_n 1, 1) := by decide +kernel
theorem dX1_canCirculate_1 : decode cX1_canCirculate 1 = .ok (.aload_n 0, 1) := by decide +kernel
theorem dX1_canCirculate_2 : decode cX1_canCirculate 2 = .ok (.invokevirtual 54, 3) := by decide +kernel
theorem dX1_canCirculate_5 : decode cX1_canCirculate 5 = .ok (.if_icmp .gt 15, 3) := by decide +kernel
theorem dX1_canCirculate_8 : decode cX1_canCirculate 8 = .ok (.iload_n 1, 1) := by decide +kernel
theorem dX1_canCirculate_9 : decode cX1_canCirculate 9 = .ok (.aload_n 0, 1) := by decide +kernel
theorem dX1_canCirculate_10 : decode cX1_canCirculate 10 = .ok (.invokevirtual 62, 3) := by decide +kernel
theorem dX1_canCirculate_13 : decode cX1_canCirculate 13 = .ok (.if_icmp .gt 7, 3) := by decide +kernel
theorem dX1_canCirculate_16 : decode cX1_canCirculate 16 = .ok (.iconst 1, 1) := by decide +kernel
theorem dX1_canCirculate_17 : decode cX1_canCirculate 17 = .ok (.goto 4, 3) := by decide +kernel
theorem dX1_canCirculate_20 : decode cX1_canCirculate 20 = .ok (.iconst 0, 1) := by decide +kernel
theorem dX1_canCirculate_21 : decode cX1_canCirculate 21 = .ok (.ireturn, 1) := by decide +kernel
theorem dX1_circulate_0 : decode cX1_circulate 0 = .ok (.aload_n 0, 1) := by decide +kernel
theorem dX1_circulate_1 : decode cX1_circulate 1 = .ok (.getfield 45, 3) := by decide +kernel
theorem dX1_circulate_4 : decode cX1_circulate 4 = .ok (.iload_n 1, 1) := by decide +kernel
theorem dX1_circulate_5 : decode cX1_circulate 5 = .ok (.invokevirtual 78, 3) := by decide +kernel
theorem dX1_circulate_8 : decode cX1_circulate 8 = .ok (.aload_n 0, 1) := by decide +kernel
theorem dX1_circulate_9 : decode cX1_circulate 9 = .ok (.getfield 41, 3) := by decide +kernel
theorem dX1_circulate_12 : decode cX1_circulate 12 = .ok (.aload_n 0, 1) := by decide +kernel
theorem dX1_circulate_13 : decode cX1_circulate 13 = .ok (.getfield 45, 3) := by decide +kernel
theorem dX1_circulate_16 : decode cX1_circulate 16 = .ok (.iload_n 1, 1) := by decide +kernel
theorem dX1_circulate_17 : decode cX1_circulate 17 = .ok (.invokevirtual 82, 3) := by decide +kernel
theorem dX1_circulate_20 : decode cX1_circulate 20 = .ok (.aload_n 0, 1) := by decide +kernel
theorem dX1_circulate_21 : decode cX1_circulate 21 = .ok (.getfield 41, 3) := by decide +kernel
theorem dX1_circulate_24 : decode cX1_circulate 24 = .ok (.iload_n 1, 1) := by decide +kernel
theorem dX1_circulate_25 : decode cX1_circulate 25 = .ok (.iload_n 2, 1) := by decide +kernel
theorem dX1_circulate_26 : decode cX1_circulate 26 = .ok (.invokevirtual 58, 3) := by decide +kernel
theorem dX1_circulate_29 : decode cX1_circulate 29 = .ok (.return_, 1) := by decide +kernel
theorem dX1_circulateInSteps_0 : decode cX1_circulateInSteps 0 = .ok (.iload_n 1, 1) := by decide +kernel
theorem dX1_circulateInSteps_1 : decode cX1_circulateInSteps 1 = .ok (.iload_n 2, 1) := by decide +kernel
theorem dX1_circulateInSteps_2 : decode cX1_circulateInSteps 2 = .ok (.invokestatic 86, 3) := by decide +kernel
theorem dX1_circulateInSteps_5 : decode cX1_circulateInSteps 5 = .ok (.istore 4, 2) := by decide +kernel
theorem dX1_circulateInSteps_7 : decode cX1_circulateInSteps 7 = .ok (.iconst 0, 1) := by decide +kernel
theorem dX1_circulateInSteps_8 : decode cX1_circulateInSteps 8 = .ok (.istore 5, 2) := by decide +kernel
theorem dX1_circulateInSteps_10 : decode cX1_circulateInSteps 10 = .ok (.iload 5, 2) := by decide +kernel
theorem dX1_circulateInSteps_12 : decode cX1_circulateInSteps 12 = .ok (.iload 4, 2) := by decide +kernel
theorem dX1_circulateInSteps_14 : decode cX1_circulateInSteps 14 = .ok (.if_icmp .ge 19, 3) := by decide +kernel
theorem dX1_circulateInSteps_17 : decode cX1_circulateInSteps 17 = .ok (.aload_n 0, 1) := by decide +kernel
theorem dX1_circulateInSteps_18 : decode cX1_circulateInSteps 18 = .ok (.iload_n 2, 1) := by decide +kernel
theorem dX1_circulateInSteps_19 : decode cX1_circulateInSteps 19 = .ok (.iload_n 3, 1) := by decide +kernel
theorem dX1_circulateInSteps_20 : decode cX1_circulateInSteps 20 = .ok (.invokevirtual 90, 3) := by decide +kernel
theorem dX1_circulateInSteps_23 : decode cX1_circulateInSteps 23 = .ok (.aload_n 0, 1) := by decide +kernel
theorem dX1_circulateInSteps_24 : decode cX1_circulateInSteps 24 = .ok (.invokevirtual 93, 3) := by decide +kernel
theorem dX1_circulateInSteps_27 : decode cX1_circulateInSteps 27 = .ok (.iinc 5 1, 3) := by decide +kernel
theorem dX1_circulateInSteps_30 : decode cX1_circulateInSteps 30 = .ok (.goto (-20), 3) := by decide +kernel
theorem dX1_circulateInSteps_33 : decode cX1_circulateInSteps 33 = .ok (.return_, 1) := by decide +kernel
theorem dX1_letIn_0 : decode cX1_letIn 0 = .ok (.aload_n 0, 1) := by decide +kernel
theorem dX1_letIn_1 : decode cX1_letIn 1 = .ok (.getfield 45, 3) := by decide +kernel
theorem dX1_letIn_4 : decode cX1_letIn 4 = .ok (.iload_n 1, 1) := by decide +kernel
theorem dX1_letIn_5 : decode cX1_letIn 5 = .ok (.invokevirtual 78, 3) := by decide +kernel
theorem dX1_letIn_8 : decode cX1_letIn 8 = .ok (.aload_n 0, 1) := by decide +kernel
theorem dX1_letIn_9 : decode cX1_letIn 9 = .ok (.getfield 45, 3) := by decide +kernel
theorem dX1_letIn_12 : decode cX1_letIn 12 = .ok (.iload_n 1, 1) := by decide +kernel
theorem dX1_letIn_13 : decode cX1_letIn 13 = .ok (.iload_n 2, 1) := by decide +kernel
theorem dX1_letIn_14 : decode cX1_letIn 14 = .ok (.invokevirtual 58, 3) := by decide +kernel
theorem dX1_letIn_17 : decode cX1_letIn 17 = .ok (.aload_n 0, 1) := by decide +kernel
theorem dX1_letIn_18 : decode cX1_letIn 18 = .ok (.dup, 1) := by decide +kernel
theorem dX1_letIn_19 : decode cX1_letIn 19 = .ok (.getfield 65, 3) := by decide +kernel
theorem dX1_letIn_22 : decode cX1_letIn 22 = .ok (.iload_n 1, 1) := by decide +kernel
theorem dX1_letIn_23 : decode cX1_letIn 23 = .ok (.iadd, 1) := by decide +kernel
theorem dX1_letIn_24 : decode cX1_letIn 24 = .ok (.putfield 65, 3) := by decide +kernel
theorem dX1_letIn_27 : decode cX1_letIn 27 = .ok (.return_, 1) := by decide +kernel
theorem dX1_checkShoe_0 : decode cX1_checkShoe 0 = .ok (.aload_n 0, 1) := by decide +kernel
theorem dX1_checkShoe_1 : decode cX1_checkShoe 1 = .ok (.invokevirtual 96, 3) := by decide +kernel
theorem dX1_checkShoe_4 : decode cX1_checkShoe 4 = .ok (.istore_n 1, 1) := by decide +kernel
theorem dX1_checkShoe_5 : decode cX1_checkShoe 5 = .ok (.iload_n 1, 1) := by decide +kernel
theorem dX1_checkShoe_6 : decode cX1_checkShoe 6 = .ok (.aload_n 0, 1) := by decide +kernel
theorem dX1_checkShoe_7 : decode cX1_checkShoe 7 = .ok (.getfield 33, 3) := by decide +kernel
theorem dX1_checkShoe_10 : decode cX1_checkShoe 10 = .ok (.if_icmp .le 13, 3) := by decide +kernel
theorem dX1_checkShoe_13 : decode cX1_checkShoe 13 = .ok (.aload_n 0, 1) := by decide +kernel
theorem dX1_checkShoe_14 : decode cX1_checkShoe 14 = .ok (.dup, 1) := by decide +kernel
theorem dX1_checkShoe_15 : decode cX1_checkShoe 15 = .ok (.getfield 68, 3) := by decide +kernel
theorem dX1_checkShoe_18 : decode cX1_checkShoe 18 = .ok (.iconst 1, 1) := by decide +kernel
theorem dX1_checkShoe_19 : decode cX1_checkShoe 19 = .ok (.iadd, 1) := by decide +kernel
theorem dX1_checkShoe_20 : decode cX1_checkShoe 20 = .ok (.putfield 68, 3) := by decide +kernel
theorem dX1_checkShoe_23 : decode cX1_checkShoe 23 = .ok (.aload_n 0, 1) := by decide +kernel
theorem dX1_checkShoe_24 : decode cX1_checkShoe 24 = .ok (.aload_n 0, 1) := by decide +kernel
theorem dX1_checkShoe_25 : decode cX1_checkShoe 25 = .ok (.getfield 71, 3) := by decide +kernel
theorem dX1_checkShoe_28 : decode cX1_checkShoe 28 = .ok (.iload_n 1, 1) := by decide +kernel
theorem dX1_checkShoe_29 : decode cX1_checkShoe 29 = .ok (.invokestatic 99, 3) := by decide +kernel
theorem dX1_checkShoe_32 : decode cX1_checkShoe 32 = .ok (.putfield 71, 3) := by decide +kernel
theorem dX1_checkShoe_35 : decode cX1_checkShoe 35 = .ok (.return_, 1) := by decide +kernel
theorem dX1_pressureOfWhole_0 : decode cX1_pressureOfWhole 0 = .ok (.aload_n 0, 1) := by decide +kernel
theorem dX1_pressureOfWhole_1 : decode cX1_pressureOfWhole 1 = .ok (.iload_n 1, 1) := by decide +kernel
theorem dX1_pressureOfWhole_2 : decode cX1_pressureOfWhole 2 = .ok (.invokevirtual 104, 3) := by decide +kernel
theorem dX1_pressureOfWhole_5 : decode cX1_pressureOfWhole 5 = .ok (.getfield 108, 3) := by decide +kernel
theorem dX1_pressureOfWhole_8 : decode cX1_pressureOfWhole 8 = .ok (.aload_n 0, 1) := by decide +kernel
theorem dX1_pressureOfWhole_9 : decode cX1_pressureOfWhole 9 = .ok (.iload_n 1, 1) := by decide +kernel
theorem dX1_pressureOfWhole_10 : decode cX1_pressureOfWhole 10 = .ok (.invokevirtual 112, 3) := by decide +kernel
theorem dX1_pressureOfWhole_13 : decode cX1_pressureOfWhole 13 = .ok (.invokestatic 116, 3) := by decide +kernel
theorem dX1_pressureOfWhole_16 : decode cX1_pressureOfWhole 16 = .ok (.ireturn, 1) := by decide +kernel
theorem dX1_pressureOfPart_0 : decode cX1_pressureOfPart 0 = .ok (.aload_n 0, 1) := by decide +kernel
theorem dX1_pressureOfPart_1 : decode cX1_pressureOfPart 1 = .ok (.iload_n 1, 1) := by decide +kernel
theorem dX1_pressureOfPart_2 : decode cX1_pressureOfPart 2 = .ok (.invokevirtual 112, 3) := by decide +kernel
theorem dX1_pressureOfPart_5 : decode cX1_pressureOfPart 5 = .ok (.istore_n 3, 1) := by decide +kernel
theorem dX1_pressureOfPart_6 : decode cX1_pressureOfPart 6 = .ok (.aload_n 0, 1) := by decide +kernel
theorem dX1_pressureOfPart_7 : decode cX1_pressureOfPart 7 = .ok (.iload_n 1, 1) := by decide +kernel
theorem dX1_pressureOfPart_8 : decode cX1_pressureOfPart 8 = .ok (.invokevirtual 104, 3) := by decide +kernel
theorem dX1_pressureOfPart_11 : decode cX1_pressureOfPart 11 = .ok (.iload_n 2, 1) := by decide +kernel
theorem dX1_pressureOfPart_12 : decode cX1_pressureOfPart 12 = .ok (.iload_n 3, 1) := by decide +kernel
theorem dX1_pressureOfPart_13 : decode cX1_pressureOfPart 13 = .ok (.imul, 1) := by decide +kernel
theorem dX1_pressureOfPart_14 : decode cX1_pressureOfPart 14 = .ok (.invokevirtual 120, 3) := by decide +kernel
theorem dX1_pressureOfPart_17 : decode cX1_pressureOfPart 17 = .ok (.iload_n 3, 1) := by decide +kernel
theorem dX1_pressureOfPart_18 : decode cX1_pressureOfPart 18 = .ok (.invokestatic 116, 3) := by decide +kernel
theorem dX1_pressureOfPart_21 : decode cX1_pressureOfPart 21 = .ok (.ireturn, 1) := by decide +kernel
theorem dX1_pressureOf_0 : decode cX1_pressureOf 0 = .ok (.ldc2_w 124, 3) := by decide +kernel
theorem dX1_pressureOf_3 : decode cX1_pressureOf 3 = .ok (.lload_n 0, 1) := by decide +kernel
theorem dX1_pressureOf_4 : decode cX1_pressureOf 4 = .ok (.lmul, 1) := by decide +kernel
theorem dX1_pressureOf_5 : decode cX1_pressureOf 5 = .ok (.ldc2_w 126, 3) := by decide +kernel
theorem dX1_pressureOf_8 : decode cX1_pressureOf 8 = .ok (.iconst 1, 1) := by decide +kernel
theorem dX1_pressureOf_9 : decode cX1_pressureOf 9 = .ok (.iload_n 2, 1) := by decide +kernel
theorem dX1_pressureOf_10 : decode cX1_pressureOf 10 = .ok (.invokestatic 99, 3) := by decide +kernel
theorem dX1_pressureOf_13 : decode cX1_pressureOf 13 = .ok (.i2l, 1) := by decide +kernel
theorem dX1_pressureOf_14 : decode cX1_pressureOf 14 = .ok (.lmul, 1) := by decide +kernel
theorem dX1_pressureOf_15 : decode cX1_pressureOf 15 = .ok (.ldiv, 1) := by decide +kernel
theorem dX1_pressureOf_16 : decode cX1_pressureOf 16 = .ok (.l2i, 1) := by decide +kernel
theorem dX1_pressureOf_17 : decode cX1_pressureOf 17 = .ok (.ireturn, 1) := by decide +kernel
theorem dX1_pressureAtPipe_0 : decode cX1_pressureAtPipe 0 = .ok (.iconst 0, 1) := by decide +kernel
theorem dX1_pressureAtPipe_1 : decode cX1_pressureAtPipe 1 = .ok (.aload_n 0, 1) := by decide +kernel
theorem dX1_pressureAtPipe_2 : decode cX1_pressureAtPipe 2 = .ok (.getfield 27, 3) := by decide +kernel
theorem dX1_pressureAtPipe_5 : decode cX1_pressureAtPipe 5 = .ok (.aload_n 0, 1) := by decide +kernel
theorem dX1_pressureAtPipe_6 : decode cX1_pressureAtPipe 6 = .ok (.iconst 0, 1) := by decide +kernel
theorem dX1_pressureAtPipe_7 : decode cX1_pressureAtPipe 7 = .ok (.invokevirtual 128, 3) := by decide +kernel
theorem dX1_pressureAtPipe_10 : decode cX1_pressureAtPipe 10 = .ok (.isub, 1) := by decide +kernel
theorem dX1_pressureAtPipe_11 : decode cX1_pressureAtPipe 11 = .ok (.invokestatic 99, 3) := by decide +kernel
theorem dX1_pressureAtPipe_14 : decode cX1_pressureAtPipe 14 = .ok (.ireturn, 1) := by decide +kernel
theorem dX1_pressureAtCasing_0 : decode cX1_pressureAtCasing 0 = .ok (.iconst 0, 1) := by decide +kernel
theorem dX1_pressureAtCasing_1 : decode cX1_pressureAtCasing 1 = .ok (.aload_n 0, 1) := by decide +kernel
theorem dX1_pressureAtCasing_2 : decode cX1_pressureAtCasing 2 = .ok (.getfield 27, 3) := by decide +kernel
theorem dX1_pressureAtCasing_5 : decode cX1_pressureAtCasing 5 = .ok (.aload_n 0, 1) := by decide +kernel
theorem dX1_pressureAtCasing_6 : decode cX1_pressureAtCasing 6 = .ok (.iconst 1, 1) := by decide +kernel
theorem dX1_pressureAtCasing_7 : decode cX1_pressureAtCasing 7 = .ok (.invokevirtual 128, 3) := by decide +kernel
theorem dX1_pressureAtCasing_10 : decode cX1_pressureAtCasing 10 = .ok (.isub, 1) := by decide +kernel
theorem dX1_pressureAtCasing_11 : decode cX1_pressureAtCasing 11 = .ok (.invokestatic 99, 3) := by decide +kernel
theorem dX1_pressureAtCasing_14 : decode cX1_pressureAtCasing 14 = .ok (.ireturn, 1) := by decide +kernel
theorem dX1_pressureAtStandpipe_0 : decode cX1_pressureAtStandpipe 0 = .ok (.aload_n 0, 1) := by decide +kernel
theorem dX1_pressureAtStandpipe_1 : decode cX1_pressureAtStandpipe 1 = .ok (.getfield 30, 3) := by decide +kernel
theorem dX1_pressureAtStandpipe_4 : decode cX1_pressureAtStandpipe 4 = .ok (.aload_n 0, 1) := by decide +kernel
theorem dX1_pressureAtStandpipe_5 : decode cX1_pressureAtStandpipe 5 = .ok (.invokevirtual 131, 3) := by decide +kernel
theorem dX1_pressureAtStandpipe_8 : decode cX1_pressureAtStandpipe 8 = .ok (.iadd, 1) := by decide +kernel
theorem dX1_pressureAtStandpipe_9 : decode cX1_pressureAtStandpipe 9 = .ok (.ireturn, 1) := by decide +kernel
theorem dX1_pressureAtShoe_0 : decode cX1_pressureAtShoe 0 = .ok (.aload_n 0, 1) := by decide +kernel
theorem dX1_pressureAtShoe_1 : decode cX1_pressureAtShoe 1 = .ok (.invokevirtual 134, 3) := by decide +kernel
theorem dX1_pressureAtShoe_4 : decode cX1_pressureAtShoe 4 = .ok (.aload_n 0, 1) := by decide +kernel
theorem dX1_pressureAtShoe_5 : decode cX1_pressureAtShoe 5 = .ok (.iconst 1, 1) := by decide +kernel
theorem dX1_pressureAtShoe_6 : decode cX1_pressureAtShoe 6 = .ok (.aload_n 0, 1) := by decide +kernel
theorem dX1_pressureAtShoe_7 : decode cX1_pressureAtShoe 7 = .ok (.getfield 21, 3) := by decide +kernel
theorem dX1_pressureAtShoe_10 : decode cX1_pressureAtShoe 10 = .ok (.invokevirtual 137, 3) := by decide +kernel
theorem dX1_pressureAtShoe_13 : decode cX1_pressureAtShoe 13 = .ok (.iadd, 1) := by decide +kernel
theorem dX1_pressureAtShoe_14 : decode cX1_pressureAtShoe 14 = .ok (.ireturn, 1) := by decide +kernel
theorem dX1_densityToKill_0 : decode cX1_densityToKill 0 = .ok (.ldc2_w 124, 3) := by decide +kernel
theorem dX1_densityToKill_3 : decode cX1_densityToKill 3 = .ok (.iconst 1, 1) := by decide +kernel
theorem dX1_densityToKill_4 : decode cX1_densityToKill 4 = .ok (.aload_n 0, 1) := by decide +kernel
theorem dX1_densityToKill_5 : decode cX1_densityToKill 5 = .ok (.getfield 9, 3) := by decide +kernel
theorem dX1_densityToKill_8 : decode cX1_densityToKill 8 = .ok (.invokestatic 99, 3) := by decide +kernel
theorem dX1_densityToKill_11 : decode cX1_densityToKill 11 = .ok (.i2l, 1) := by decide +kernel
theorem dX1_densityToKill_12 : decode cX1_densityToKill 12 = .ok (.lmul, 1) := by decide +kernel
theorem dX1_densityToKill_13 : decode cX1_densityToKill 13 = .ok (.lstore_n 1, 1) := by decide +kernel
theorem dX1_densityToKill_14 : decode cX1_densityToKill 14 = .ok (.ldc2_w 126, 3) := by decide +kernel
theorem dX1_densityToKill_17 : decode cX1_densityToKill 17 = .ok (.aload_n 0, 1) := by decide +kernel
theorem dX1_densityToKill_18 : decode cX1_densityToKill 18 = .ok (.getfield 27, 3) := by decide +kernel
theorem dX1_densityToKill_21 : decode cX1_densityToKill 21 = .ok (.i2l, 1) := by decide +kernel
theorem dX1_densityToKill_22 : decode cX1_densityToKill 22 = .ok (.lmul, 1) := by decide +kernel
theorem dX1_densityToKill_23 : decode cX1_densityToKill 23 = .ok (.lload_n 1, 1) := by decide +kernel
theorem dX1_densityToKill_24 : decode cX1_densityToKill 24 = .ok (.ladd, 1) := by decide +kernel
theorem dX1_densityToKill_25 : decode cX1_densityToKill 25 = .ok (.lconst 1, 1) := by decide +kernel
theorem dX1_densityToKill_26 : decode cX1_densityToKill 26 = .ok (.lsub, 1) := by decide +kernel
theorem dX1_densityToKill_27 : decode cX1_densityToKill 27 = .ok (.lload_n 1, 1) := by decide +kernel
theorem dX1_densityToKill_28 : decode cX1_densityToKill 28 = .ok (.ldiv, 1) := by decide +kernel
theorem dX1_densityToKill_29 : decode cX1_densityToKill 29 = .ok (.lstore_n 3, 1) := by decide +kernel
theorem dX1_densityToKill_30 : decode cX1_densityToKill 30 = .ok (.lload_n 3, 1) := by decide +kernel
theorem dX1_densityToKill_31 : decode cX1_densityToKill 31 = .ok (.ldc2_w 140, 3) := by decide +kernel
theorem dX1_densityToKill_34 : decode cX1_densityToKill 34 = .ok (.lcmp, 1) := by decide +kernel
theorem dX1_densityToKill_35 : decode cX1_densityToKill 35 = .ok (.ifCond .le 8, 3) := by decide +kernel
theorem dX1_densityToKill_38 : decode cX1_densityToKill 38 = .ok (.bipush (-4), 2) := by decide +kernel
theorem dX1_densityToKill_40 : decode cX1_densityToKill 40 = .ok (.goto 9, 3) := by decide +kernel
theorem dX1_densityToKill_43 : decode cX1_densityToKill 43 = .ok (.lconst 1, 1) := by decide +kernel
theorem dX1_densityToKill_44 : decode cX1_densityToKill 44 = .ok (.lload_n 3, 1) := by decide +kernel
theorem dX1_densityToKill_45 : decode cX1_densityToKill 45 = .ok (.invokestatic 142, 3) := by decide +kernel
theorem dX1_densityToKill_48 : decode cX1_densityToKill 48 = .ok (.l2i, 1) := by decide +kernel
theorem dX1_densityToKill_49 : decode cX1_densityToKill 49 = .ok (.ireturn, 1) := by decide +kernel
theorem dX1_mixedSettings_0 : decode cX1_mixedSettings 0 = .ok (.lload_n 1, 1) := by decide +kernel
theorem dX1_mixedSettings_1 : decode cX1_mixedSettings 1 = .ok (.aload_n 0, 1) := by decide +kernel
theorem dX1_mixedSettings_2 : decode cX1_mixedSettings 2 = .ok (.getfield 9, 3) := by decide +kernel
theorem dX1_mixedSettings_5 : decode cX1_mixedSettings 5 = .ok (.i2l, 1) := by decide +kernel
theorem dX1_mixedSettings_6 : decode cX1_mixedSettings 6 = .ok (.invokestatic 145, 3) := by decide +kernel
theorem dX1_mixedSettings_9 : decode cX1_mixedSettings 9 = .ok (.lstore_n 1, 1) := by decide +kernel
theorem dX1_mixedSettings_10 : decode cX1_mixedSettings 10 = .ok (.lload_n 1, 1) := by decide +kernel
theorem dX1_mixedSettings_11 : decode cX1_mixedSettings 11 = .ok (.aload_n 0, 1) := by decide +kernel
theorem dX1_mixedSettings_12 : decode cX1_mixedSettings 12 = .ok (.getfield 15, 3) := by decide +kernel
theorem dX1_mixedSettings_15 : decode cX1_mixedSettings 15 = .ok (.i2l, 1) := by decide +kernel
theorem dX1_mixedSettings_16 : decode cX1_mixedSettings 16 = .ok (.invokestatic 145, 3) := by decide +kernel
theorem dX1_mixedSettings_19 : decode cX1_mixedSettings 19 = .ok (.lstore_n 1, 1) := by decide +kernel
theorem dX1_mixedSettings_20 : decode cX1_mixedSettings 20 = .ok (.lload_n 1, 1) := by decide +kernel
theorem dX1_mixedSettings_21 : decode cX1_mixedSettings 21 = .ok (.aload_n 0, 1) := by decide +kernel
theorem dX1_mixedSettings_22 : decode cX1_mixedSettings 22 = .ok (.getfield 18, 3) := by decide +kernel
theorem dX1_mixedSettings_25 : decode cX1_mixedSettings 25 = .ok (.i2l, 1) := by decide +kernel
theorem dX1_mixedSettings_26 : decode cX1_mixedSettings 26 = .ok (.invokestatic 145, 3) := by decide +kernel
theorem dX1_mixedSettings_29 : decode cX1_mixedSettings 29 = .ok (.lstore_n 1, 1) := by decide +kernel
theorem dX1_mixedSettings_30 : decode cX1_mixedSettings 30 = .ok (.lload_n 1, 1) := by decide +kernel
theorem dX1_mixedSettings_31 : decode cX1_mixedSettings 31 = .ok (.aload_n 0, 1) := by decide +kernel
theorem dX1_mixedSettings_32 : decode cX1_mixedSettings 32 = .ok (.getfield 21, 3) := by decide +kernel
theorem dX1_mixedSettings_35 : decode cX1_mixedSettings 35 = .ok (.i2l, 1) := by decide +kernel
theorem dX1_mixedSettings_36 : decode cX1_mixedSettings 36 = .ok (.invokestatic 145, 3) := by decide +kernel
theorem dX1_mixedSettings_39 : decode cX1_mixedSettings 39 = .ok (.lstore_n 1, 1) := by decide +kernel
theorem dX1_mixedSettings_40 : decode cX1_mixedSettings 40 = .ok (.lload_n 1, 1) := by decide +kernel
theorem dX1_mixedSettings_41 : decode cX1_mixedSettings 41 = .ok (.aload_n 0, 1) := by decide +kernel
theorem dX1_mixedSettings_42 : decode cX1_mixedSettings 42 = .ok (.getfield 24, 3) := by decide +kernel
theorem dX1_mixedSettings_45 : decode cX1_mixedSettings 45 = .ok (.i2l, 1) := by decide +kernel
theorem dX1_mixedSettings_46 : decode cX1_mixedSettings 46 = .ok (.invokestatic 145, 3) := by decide +kernel
theorem dX1_mixedSettings_49 : decode cX1_mixedSettings 49 = .ok (.lstore_n 1, 1) := by decide +kernel
theorem dX1_mixedSettings_50 : decode cX1_mixedSettings 50 = .ok (.lload_n 1, 1) := by decide +kernel
theorem dX1_mixedSettings_51 : decode cX1_mixedSettings 51 = .ok (.aload_n 0, 1) := by decide +kernel
theorem dX1_mixedSettings_52 : decode cX1_mixedSettings 52 = .ok (.getfield 27, 3) := by decide +kernel
theorem dX1_mixedSettings_55 : decode cX1_mixedSettings 55 = .ok (.i2l, 1) := by decide +kernel
theorem dX1_mixedSettings_56 : decode cX1_mixedSettings 56 = .ok (.invokestatic 145, 3) := by decide +kernel
theorem dX1_mixedSettings_59 : decode cX1_mixedSettings 59 = .ok (.lstore_n 1, 1) := by decide +kernel
theorem dX1_mixedSettings_60 : decode cX1_mixedSettings 60 = .ok (.lload_n 1, 1) := by decide +kernel
theorem dX1_mixedSettings_61 : decode cX1_mixedSettings 61 = .ok (.aload_n 0, 1) := by decide +kernel
theorem dX1_mixedSettings_62 : decode cX1_mixedSettings 62 = .ok (.getfield 30, 3) := by decide +kernel
theorem dX1_mixedSettings_65 : decode cX1_mixedSettings 65 = .ok (.i2l, 1) := by decide +kernel
theorem dX1_mixedSettings_66 : decode cX1_mixedSettings 66 = .ok (.invokestatic 145, 3) := by decide +kernel
theorem dX1_mixedSettings_69 : decode cX1_mixedSettings 69 = .ok (.lstore_n 1, 1) := by decide +kernel
theorem dX1_mixedSettings_70 : decode cX1_mixedSettings 70 = .ok (.lload_n 1, 1) := by decide +kernel
theorem dX1_mixedSettings_71 : decode cX1_mixedSettings 71 = .ok (.aload_n 0, 1) := by decide +kernel
theorem dX1_mixedSettings_72 : decode cX1_mixedSettings 72 = .ok (.getfield 33, 3) := by decide +kernel
theorem dX1_mixedSettings_75 : decode cX1_mixedSettings 75 = .ok (.i2l, 1) := by decide +kernel
theorem dX1_mixedSettings_76 : decode cX1_mixedSettings 76 = .ok (.invokestatic 145, 3) := by decide +kernel
theorem dX1_mixedSettings_79 : decode cX1_mixedSettings 79 = .ok (.lreturn, 1) := by decide +kernel
theorem dX1_mixedReadings_0 : decode cX1_mixedReadings 0 = .ok (.lload_n 1, 1) := by decide +kernel
theorem dX1_mixedReadings_1 : decode cX1_mixedReadings 1 = .ok (.aload_n 0, 1) := by decide +kernel
theorem dX1_mixedReadings_2 : decode cX1_mixedReadings 2 = .ok (.invokevirtual 131, 3) := by decide +kernel
theorem dX1_mixedReadings_5 : decode cX1_mixedReadings 5 = .ok (.i2l, 1) := by decide +kernel
theorem dX1_mixedReadings_6 : decode cX1_mixedReadings 6 = .ok (.invokestatic 145, 3) := by decide +kernel
theorem dX1_mixedReadings_9 : decode cX1_mixedReadings 9 = .ok (.lstore_n 1, 1) := by decide +kernel
theorem dX1_mixedReadings_10 : decode cX1_mixedReadings 10 = .ok (.lload_n 1, 1) := by decide +kernel
theorem dX1_mixedReadings_11 : decode cX1_mixedReadings 11 = .ok (.aload_n 0, 1) := by decide +kernel
theorem dX1_mixedReadings_12 : decode cX1_mixedReadings 12 = .ok (.invokevirtual 134, 3) := by decide +kernel
theorem dX1_mixedReadings_15 : decode cX1_mixedReadings 15 = .ok (.i2l, 1) := by decide +kernel
theorem dX1_mixedReadings_16 : decode cX1_mixedReadings 16 = .ok (.invokestatic 145, 3) := by decide +kernel
theorem dX1_mixedReadings_19 : decode cX1_mixedReadings 19 = .ok (.lstore_n 1, 1) := by decide +kernel
theorem dX1_mixedReadings_20 : decode cX1_mixedReadings 20 = .ok (.lload_n 1, 1) := by decide +kernel
theorem dX1_mixedReadings_21 : decode cX1_mixedReadings 21 = .ok (.aload_n 0, 1) := by decide +kernel
theorem dX1_mixedReadings_22 : decode cX1_mixedReadings 22 = .ok (.invokevirtual 148, 3) := by decide +kernel
theorem dX1_mixedReadings_25 : decode cX1_mixedReadings 25 = .ok (.i2l, 1) := by decide +kernel
theorem dX1_mixedReadings_26 : decode cX1_mixedReadings 26 = .ok (.invokestatic 145, 3) := by decide +kernel
theorem dX1_mixedReadings_29 : decode cX1_mixedReadings 29 = .ok (.lstore_n 1, 1) := by decide +kernel
theorem dX1_mixedReadings_30 : decode cX1_mixedReadings 30 = .ok (.lload_n 1, 1) := by decide +kernel
theorem dX1_mixedReadings_31 : decode cX1_mixedReadings 31 = .ok (.aload_n 0, 1) := by decide +kernel
theorem dX1_mixedReadings_32 : decode cX1_mixedReadings 32 = .ok (.invokevirtual 96, 3) := by decide +kernel
theorem dX1_mixedReadings_35 : decode cX1_mixedReadings 35 = .ok (.i2l, 1) := by decide +kernel
theorem dX1_mixedReadings_36 : decode cX1_mixedReadings 36 = .ok (.invokestatic 145, 3) := by decide +kernel
theorem dX1_mixedReadings_39 : decode cX1_mixedReadings 39 = .ok (.lstore_n 1, 1) := by decide +kernel
theorem dX1_mixedReadings_40 : decode cX1_mixedReadings 40 = .ok (.lload_n 1, 1) := by decide +kernel
theorem dX1_mixedReadings_41 : decode cX1_mixedReadings 41 = .ok (.aload_n 0, 1) := by decide +kernel
theorem dX1_mixedReadings_42 : decode cX1_mixedReadings 42 = .ok (.getfield 65, 3) := by decide +kernel
theorem dX1_mixedReadings_45 : decode cX1_mixedReadings 45 = .ok (.i2l, 1) := by decide +kernel
theorem dX1_mixedReadings_46 : decode cX1_mixedReadings 46 = .ok (.invokestatic 145, 3) := by decide +kernel
theorem dX1_mixedReadings_49 : decode cX1_mixedReadings 49 = .ok (.lstore_n 1, 1) := by decide +kernel
theorem dX1_mixedReadings_50 : decode cX1_mixedReadings 50 = .ok (.lload_n 1, 1) := by decide +kernel
theorem dX1_mixedReadings_51 : decode cX1_mixedReadings 51 = .ok (.aload_n 0, 1) := by decide +kernel
theorem dX1_mixedReadings_52 : decode cX1_mixedReadings 52 = .ok (.getfield 68, 3) := by decide +kernel
theorem dX1_mixedReadings_55 : decode cX1_mixedReadings 55 = .ok (.i2l, 1) := by decide +kernel
theorem dX1_mixedReadings_56 : decode cX1_mixedReadings 56 = .ok (.invokestatic 145, 3) := by decide +kernel
theorem dX1_mixedReadings_59 : decode cX1_mixedReadings 59 = .ok (.lstore_n 1, 1) := by decide +kernel
theorem dX1_mixedReadings_60 : decode cX1_mixedReadings 60 = .ok (.lload_n 1, 1) := by decide +kernel
theorem dX1_mixedReadings_61 : decode cX1_mixedReadings 61 = .ok (.aload_n 0, 1) := by decide +kernel
theorem dX1_mixedReadings_62 : decode cX1_mixedReadings 62 = .ok (.getfield 71, 3) := by decide +kernel
theorem dX1_mixedReadings_65 : decode cX1_mixedReadings 65 = .ok (.i2l, 1) := by decide +kernel
theorem dX1_mixedReadings_66 : decode cX1_mixedReadings 66 = .ok (.invokestatic 145, 3) := by decide +kernel
theorem dX1_mixedReadings_69 : decode cX1_mixedReadings 69 = .ok (.lreturn, 1) := by decide +kernel
