theorem dX0_init_0 : decode cX0_init 0 = .ok (.aload_n 0, 1) := by decide +kernel
theorem dX0_init_1 : decode cX0_init 1 = .ok (.invokespecial 3, 3) := by decide +kernel
theorem dX0_init_4 : decode cX0_init 4 = .ok (.aload_n 0, 1) := by decide +kernel
theorem dX0_init_5 : decode cX0_init 5 = .ok (.bipush 6, 2) := by decide +kernel
theorem dX0_init_7 : decode cX0_init 7 = .ok (.anewarray 9, 3) := by decide +kernel
theorem dX0_init_10 : decode cX0_init 10 = .ok (.putfield 11, 3) := by decide +kernel
theorem dX0_init_13 : decode cX0_init 13 = .ok (.iconst 0, 1) := by decide +kernel
theorem dX0_init_14 : decode cX0_init 14 = .ok (.istore_n 1, 1) := by decide +kernel
theorem dX0_init_15 : decode cX0_init 15 = .ok (.iload_n 1, 1) := by decide +kernel
theorem dX0_init_16 : decode cX0_init 16 = .ok (.aload_n 0, 1) := by decide +kernel
theorem dX0_init_17 : decode cX0_init 17 = .ok (.getfield 11, 3) := by decide +kernel
theorem dX0_init_20 : decode cX0_init 20 = .ok (.arraylength, 1) := by decide +kernel
theorem dX0_init_21 : decode cX0_init 21 = .ok (.if_icmp .ge 22, 3) := by decide +kernel
theorem dX0_init_24 : decode cX0_init 24 = .ok (.aload_n 0, 1) := by decide +kernel
theorem dX0_init_25 : decode cX0_init 25 = .ok (.getfield 11, 3) := by decide +kernel
theorem dX0_init_28 : decode cX0_init 28 = .ok (.iload_n 1, 1) := by decide +kernel
theorem dX0_init_29 : decode cX0_init 29 = .ok (.new 9, 3) := by decide +kernel
theorem dX0_init_32 : decode cX0_init 32 = .ok (.dup, 1) := by decide +kernel
theorem dX0_init_33 : decode cX0_init 33 = .ok (.invokespecial 17, 3) := by decide +kernel
theorem dX0_init_36 : decode cX0_init 36 = .ok (.aastore, 1) := by decide +kernel
theorem dX0_init_37 : decode cX0_init 37 = .ok (.iinc 1 1, 3) := by decide +kernel
theorem dX0_init_40 : decode cX0_init 40 = .ok (.goto (-25), 3) := by decide +kernel
theorem dX0_init_43 : decode cX0_init 43 = .ok (.return_, 1) := by decide +kernel
theorem dX0_save_0 : decode cX0_save 0 = .ok (.aload_n 0, 1) := by decide +kernel
theorem dX0_save_1 : decode cX0_save 1 = .ok (.getfield 18, 3) := by decide +kernel
theorem dX0_save_4 : decode cX0_save 4 = .ok (.bipush 6, 2) := by decide +kernel
theorem dX0_save_6 : decode cX0_save 6 = .ok (.if_icmp .lt 21, 3) := by decide +kernel
theorem dX0_save_9 : decode cX0_save 9 = .ok (.aload_n 0, 1) := by decide +kernel
theorem dX0_save_10 : decode cX0_save 10 = .ok (.aload_n 0, 1) := by decide +kernel
theorem dX0_save_11 : decode cX0_save 11 = .ok (.getfield 22, 3) := by decide +kernel
theorem dX0_save_14 : decode cX0_save 14 = .ok (.iconst 1, 1) := by decide +kernel
theorem dX0_save_15 : decode cX0_save 15 = .ok (.iadd, 1) := by decide +kernel
theorem dX0_save_16 : decode cX0_save 16 = .ok (.bipush 6, 2) := by decide +kernel
theorem dX0_save_18 : decode cX0_save 18 = .ok (.irem, 1) := by decide +kernel
theorem dX0_save_19 : decode cX0_save 19 = .ok (.putfield 22, 3) := by decide +kernel
theorem dX0_save_22 : decode cX0_save 22 = .ok (.aload_n 0, 1) := by decide +kernel
theorem dX0_save_23 : decode cX0_save 23 = .ok (.iconst 5, 1) := by decide +kernel
theorem dX0_save_24 : decode cX0_save 24 = .ok (.putfield 18, 3) := by decide +kernel
theorem dX0_save_27 : decode cX0_save 27 = .ok (.aload_n 0, 1) := by decide +kernel
theorem dX0_save_28 : decode cX0_save 28 = .ok (.aload_n 0, 1) := by decide +kernel
theorem dX0_save_29 : decode cX0_save 29 = .ok (.getfield 18, 3) := by decide +kernel
theorem dX0_save_32 : decode cX0_save 32 = .ok (.invokevirtual 25, 3) := by decide +kernel
theorem dX0_save_35 : decode cX0_save 35 = .ok (.astore_n 2, 1) := by decide +kernel
theorem dX0_save_36 : decode cX0_save 36 = .ok (.aload_n 2, 1) := by decide +kernel
theorem dX0_save_37 : decode cX0_save 37 = .ok (.ifnull 18, 3) := by decide +kernel
theorem dX0_save_40 : decode cX0_save 40 = .ok (.aload_n 2, 1) := by decide +kernel
theorem dX0_save_41 : decode cX0_save 41 = .ok (.aload_n 1, 1) := by decide +kernel
theorem dX0_save_42 : decode cX0_save 42 = .ok (.invokevirtual 29, 3) := by decide +kernel
theorem dX0_save_45 : decode cX0_save 45 = .ok (.aload_n 0, 1) := by decide +kernel
theorem dX0_save_46 : decode cX0_save 46 = .ok (.dup, 1) := by decide +kernel
theorem dX0_save_47 : decode cX0_save 47 = .ok (.getfield 18, 3) := by decide +kernel
theorem dX0_save_50 : decode cX0_save 50 = .ok (.iconst 1, 1) := by decide +kernel
theorem dX0_save_51 : decode cX0_save 51 = .ok (.iadd, 1) := by decide +kernel
theorem dX0_save_52 : decode cX0_save 52 = .ok (.putfield 18, 3) := by decide +kernel
theorem dX0_save_55 : decode cX0_save 55 = .ok (.return_, 1) := by decide +kernel
theorem dX0_slotOf_0 : decode cX0_slotOf 0 = .ok (.aload_n 0, 1) := by decide +kernel
theorem dX0_slotOf_1 : decode cX0_slotOf 1 = .ok (.getfield 22, 3) := by decide +kernel
theorem dX0_slotOf_4 : decode cX0_slotOf 4 = .ok (.iload_n 1, 1) := by decide +kernel
theorem dX0_slotOf_5 : decode cX0_slotOf 5 = .ok (.iadd, 1) := by decide +kernel
theorem dX0_slotOf_6 : decode cX0_slotOf 6 = .ok (.bipush 6, 2) := by decide +kernel
theorem dX0_slotOf_8 : decode cX0_slotOf 8 = .ok (.irem, 1) := by decide +kernel
theorem dX0_slotOf_9 : decode cX0_slotOf 9 = .ok (.istore_n 2, 1) := by decide +kernel
theorem dX0_slotOf_10 : decode cX0_slotOf 10 = .ok (.iload_n 2, 1) := by decide +kernel
theorem dX0_slotOf_11 : decode cX0_slotOf 11 = .ok (.ifCond .lt 12, 3) := by decide +kernel
theorem dX0_slotOf_14 : decode cX0_slotOf 14 = .ok (.iload_n 2, 1) := by decide +kernel
theorem dX0_slotOf_15 : decode cX0_slotOf 15 = .ok (.aload_n 0, 1) := by decide +kernel
theorem dX0_slotOf_16 : decode cX0_slotOf 16 = .ok (.getfield 11, 3) := by decide +kernel
theorem dX0_slotOf_19 : decode cX0_slotOf 19 = .ok (.arraylength, 1) := by decide +kernel
theorem dX0_slotOf_20 : decode cX0_slotOf 20 = .ok (.if_icmp .lt 7, 3) := by decide +kernel
theorem dX0_slotOf_23 : decode cX0_slotOf 23 = .ok (.aconst_null, 1) := by decide +kernel
theorem dX0_slotOf_24 : decode cX0_slotOf 24 = .ok (.goto 9, 3) := by decide +kernel
theorem dX0_slotOf_27 : decode cX0_slotOf 27 = .ok (.aload_n 0, 1) := by decide +kernel
theorem dX0_slotOf_28 : decode cX0_slotOf 28 = .ok (.getfield 11, 3) := by decide +kernel
theorem dX0_slotOf_31 : decode cX0_slotOf 31 = .ok (.iload_n 2, 1) := by decide +kernel
theorem dX0_slotOf_32 : decode cX0_slotOf 32 = .ok (.aaload, 1) := by decide +kernel
theorem dX0_slotOf_33 : decode cX0_slotOf 33 = .ok (.areturn, 1) := by decide +kernel
theorem dX1_init_0 : decode cX1_init 0 = .ok (.aload_n 0, 1) := by decide +kernel
theorem dX1_init_1 : decode cX1_init 1 = .ok (.invokespecial 3, 3) := by decide +kernel
theorem dX1_init_4 : decode cX1_init 4 = .ok (.aload_n 0, 1) := by decide +kernel
theorem dX1_init_5 : decode cX1_init 5 = .ok (.new 9, 3) := by decide +kernel
theorem dX1_init_8 : decode cX1_init 8 = .ok (.dup, 1) := by decide +kernel
theorem dX1_init_9 : decode cX1_init 9 = .ok (.invokespecial 11, 3) := by decide +kernel
theorem dX1_init_12 : decode cX1_init 12 = .ok (.putfield 12, 3) := by decide +kernel
theorem dX1_init_15 : decode cX1_init 15 = .ok (.return_, 1) := by decide +kernel
theorem dX2_init_0 : decode cX2_init 0 = .ok (.aload_n 0, 1) := by decide +kernel
theorem dX2_init_1 : decode cX2_init 1 = .ok (.invokespecial 3, 3) := by decide +kernel
theorem dX2_init_4 : decode cX2_init 4 = .ok (.aload_n 0, 1) := by decide +kernel
theorem dX2_init_5 : decode cX2_init 5 = .ok (.iload_n 1, 1) := by decide +kernel
theorem dX2_init_6 : decode cX2_init 6 = .ok (.putfield 9, 3) := by decide +kernel
theorem dX2_init_9 : decode cX2_init 9 = .ok (.aload_n 0, 1) := by decide +kernel
theorem dX2_init_10 : decode cX2_init 10 = .ok (.iconst (-1), 1) := by decide +kernel
theorem dX2_init_11 : decode cX2_init 11 = .ok (.putfield 15, 3) := by decide +kernel
theorem dX2_init_14 : decode cX2_init 14 = .ok (.return_, 1) := by decide +kernel
theorem dX2_copyFrom_0 : decode cX2_copyFrom 0 = .ok (.aload_n 0, 1) := by decide +kernel
theorem dX2_copyFrom_1 : decode cX2_copyFrom 1 = .ok (.aload_n 1, 1) := by decide +kernel
theorem dX2_copyFrom_2 : decode cX2_copyFrom 2 = .ok (.getfield 18, 3) := by decide +kernel
theorem dX2_copyFrom_5 : decode cX2_copyFrom 5 = .ok (.putfield 18, 3) := by decide +kernel
theorem dX2_copyFrom_8 : decode cX2_copyFrom 8 = .ok (.aload_n 0, 1) := by decide +kernel
theorem dX2_copyFrom_9 : decode cX2_copyFrom 9 = .ok (.aload_n 1, 1) := by decide +kernel
theorem dX2_copyFrom_10 : decode cX2_copyFrom 10 = .ok (.getfield 21, 3) := by decide +kernel
theorem dX2_copyFrom_13 : decode cX2_copyFrom 13 = .ok (.putfield 21, 3) := by decide +kernel
theorem dX2_copyFrom_16 : decode cX2_copyFrom 16 = .ok (.aload_n 0, 1) := by decide +kernel
theorem dX2_copyFrom_17 : decode cX2_copyFrom 17 = .ok (.aload_n 1, 1) := by decide +kernel
theorem dX2_copyFrom_18 : decode cX2_copyFrom 18 = .ok (.getfield 24, 3) := by decide +kernel
theorem dX2_copyFrom_21 : decode cX2_copyFrom 21 = .ok (.putfield 24, 3) := by decide +kernel
theorem dX2_copyFrom_24 : decode cX2_copyFrom 24 = .ok (.aload_n 0, 1) := by decide +kernel
theorem dX2_copyFrom_25 : decode cX2_copyFrom 25 = .ok (.aload_n 1, 1) := by decide +kernel
theorem dX2_copyFrom_26 : decode cX2_copyFrom 26 = .ok (.getfield 27, 3) := by decide +kernel
theorem dX2_copyFrom_29 : decode cX2_copyFrom 29 = .ok (.putfield 27, 3) := by decide +kernel
theorem dX2_copyFrom_32 : decode cX2_copyFrom 32 = .ok (.aload_n 0, 1) := by decide +kernel
theorem dX2_copyFrom_33 : decode cX2_copyFrom 33 = .ok (.aload_n 1, 1) := by decide +kernel
theorem dX2_copyFrom_34 : decode cX2_copyFrom 34 = .ok (.getfield 15, 3) := by decide +kernel
theorem dX2_copyFrom_37 : decode cX2_copyFrom 37 = .ok (.putfield 15, 3) := by decide +kernel
theorem dX2_copyFrom_40 : decode cX2_copyFrom 40 = .ok (.aload_n 0, 1) := by decide +kernel
theorem dX2_copyFrom_41 : decode cX2_copyFrom 41 = .ok (.aload_n 1, 1) := by decide +kernel
theorem dX2_copyFrom_42 : decode cX2_copyFrom 42 = .ok (.getfield 30, 3) := by decide +kernel
theorem dX2_copyFrom_45 : decode cX2_copyFrom 45 = .ok (.putfield 30, 3) := by decide +kernel
theorem dX2_copyFrom_48 : decode cX2_copyFrom 48 = .ok (.return_, 1) := by decide +kernel
theorem dX3_init_0 : decode cX3_init 0 = .ok (.aload_n 0, 1) := by decide +kernel
theorem dX3_init_1 : decode cX3_init 1 = .ok (.invokespecial 3, 3) := by decide +kernel
theorem dX3_init_4 : decode cX3_init 4 = .ok (.aload_n 0, 1) := by decide +kernel
theorem dX3_init_5 : decode cX3_init 5 = .ok (.bipush 12, 2) := by decide +kernel
theorem dX3_init_7 : decode cX3_init 7 = .ok (.anewarray 9, 3) := by decide +kernel
theorem dX3_init_10 : decode cX3_init 10 = .ok (.putfield 11, 3) := by decide +kernel
theorem dX3_init_13 : decode cX3_init 13 = .ok (.iconst 0, 1) := by decide +kernel
theorem dX3_init_14 : decode cX3_init 14 = .ok (.istore_n 1, 1) := by decide +kernel
theorem dX3_init_15 : decode cX3_init 15 = .ok (.iload_n 1, 1) := by decide +kernel
theorem dX3_init_16 : decode cX3_init 16 = .ok (.aload_n 0, 1) := by decide +kernel
theorem dX3_init_17 : decode cX3_init 17 = .ok (.getfield 11, 3) := by decide +kernel
theorem dX3_init_20 : decode cX3_init 20 = .ok (.arraylength, 1) := by decide +kernel
theorem dX3_init_21 : decode cX3_init 21 = .ok (.if_icmp .ge 23, 3) := by decide +kernel
theorem dX3_init_24 : decode cX3_init 24 = .ok (.aload_n 0, 1) := by decide +kernel
theorem dX3_init_25 : decode cX3_init 25 = .ok (.getfield 11, 3) := by decide +kernel
theorem dX3_init_28 : decode cX3_init 28 = .ok (.iload_n 1, 1) := by decide +kernel
theorem dX3_init_29 : decode cX3_init 29 = .ok (.new 9, 3) := by decide +kernel
theorem dX3_init_32 : decode cX3_init 32 = .ok (.dup, 1) := by decide +kernel
theorem dX3_init_33 : decode cX3_init 33 = .ok (.iload_n 1, 1) := by decide +kernel
theorem dX3_init_34 : decode cX3_init 34 = .ok (.invokespecial 17, 3) := by decide +kernel
theorem dX3_init_37 : decode cX3_init 37 = .ok (.aastore, 1) := by decide +kernel
theorem dX3_init_38 : decode cX3_init 38 = .ok (.iinc 1 1, 3) := by decide +kernel
theorem dX3_init_41 : decode cX3_init 41 = .ok (.goto (-26), 3) := by decide +kernel
theorem dX3_init_44 : decode cX3_init 44 = .ok (.aload_n 0, 1) := by decide +kernel
theorem dX3_init_45 : decode cX3_init 45 = .ok (.iconst 4, 1) := by decide +kernel
theorem dX3_init_46 : decode cX3_init 46 = .ok (.anewarray 20, 3) := by decide +kernel
theorem dX3_init_49 : decode cX3_init 49 = .ok (.putfield 22, 3) := by decide +kernel
theorem dX3_init_52 : decode cX3_init 52 = .ok (.iconst 0, 1) := by decide +kernel
theorem dX3_init_53 : decode cX3_init 53 = .ok (.istore_n 1, 1) := by decide +kernel
theorem dX3_init_54 : decode cX3_init 54 = .ok (.iload_n 1, 1) := by decide +kernel
theorem dX3_init_55 : decode cX3_init 55 = .ok (.aload_n 0, 1) := by decide +kernel
theorem dX3_init_56 : decode cX3_init 56 = .ok (.getfield 22, 3) := by decide +kernel
theorem dX3_init_59 : decode cX3_init 59 = .ok (.arraylength, 1) := by decide +kernel
theorem dX3_init_60 : decode cX3_init 60 = .ok (.if_icmp .ge 22, 3) := by decide +kernel
theorem dX3_init_63 : decode cX3_init 63 = .ok (.aload_n 0, 1) := by decide +kernel
theorem dX3_init_64 : decode cX3_init 64 = .ok (.getfield 22, 3) := by decide +kernel
theorem dX3_init_67 : decode cX3_init 67 = .ok (.iload_n 1, 1) := by decide +kernel
theorem dX3_init_68 : decode cX3_init 68 = .ok (.new 20, 3) := by decide +kernel
theorem dX3_init_71 : decode cX3_init 71 = .ok (.dup, 1) := by decide +kernel
theorem dX3_init_72 : decode cX3_init 72 = .ok (.invokespecial 26, 3) := by decide +kernel
theorem dX3_init_75 : decode cX3_init 75 = .ok (.aastore, 1) := by decide +kernel
theorem dX3_init_76 : decode cX3_init 76 = .ok (.iinc 1 1, 3) := by decide +kernel
theorem dX3_init_79 : decode cX3_init 79 = .ok (.goto (-25), 3) := by decide +kernel
theorem dX3_init_82 : decode cX3_init 82 = .ok (.return_, 1) := by decide +kernel
theorem dX3_copyFrom_0 : decode cX3_copyFrom 0 = .ok (.iconst 0, 1) := by decide +kernel
theorem dX3_copyFrom_1 : decode cX3_copyFrom 1 = .ok (.istore_n 2, 1) := by decide +kernel
theorem dX3_copyFrom_2 : decode cX3_copyFrom 2 = .ok (.iload_n 2, 1) := by decide +kernel
theorem dX3_copyFrom_3 : decode cX3_copyFrom 3 = .ok (.aload_n 0, 1) := by decide +kernel
theorem dX3_copyFrom_4 : decode cX3_copyFrom 4 = .ok (.getfield 11, 3) := by decide +kernel
theorem dX3_copyFrom_7 : decode cX3_copyFrom 7 = .ok (.arraylength, 1) := by decide +kernel
theorem dX3_copyFrom_8 : decode cX3_copyFrom 8 = .ok (.if_icmp .ge 48, 3) := by decide +kernel
theorem dX3_copyFrom_11 : decode cX3_copyFrom 11 = .ok (.iload_n 2, 1) := by decide +kernel
theorem dX3_copyFrom_12 : decode cX3_copyFrom 12 = .ok (.aload_n 1, 1) := by decide +kernel
theorem dX3_copyFrom_13 : decode cX3_copyFrom 13 = .ok (.getfield 11, 3) := by decide +kernel
theorem dX3_copyFrom_16 : decode cX3_copyFrom 16 = .ok (.arraylength, 1) := by decide +kernel
theorem dX3_copyFrom_17 : decode cX3_copyFrom 17 = .ok (.if_icmp .ge 39, 3) := by decide +kernel
theorem dX3_copyFrom_20 : decode cX3_copyFrom 20 = .ok (.aload_n 0, 1) := by decide +kernel
theorem dX3_copyFrom_21 : decode cX3_copyFrom 21 = .ok (.getfield 11, 3) := by decide +kernel
theorem dX3_copyFrom_24 : decode cX3_copyFrom 24 = .ok (.iload_n 2, 1) := by decide +kernel
theorem dX3_copyFrom_25 : decode cX3_copyFrom 25 = .ok (.aaload, 1) := by decide +kernel
theorem dX3_copyFrom_26 : decode cX3_copyFrom 26 = .ok (.astore_n 3, 1) := by decide +kernel
theorem dX3_copyFrom_27 : decode cX3_copyFrom 27 = .ok (.aload_n 1, 1) := by decide +kernel
theorem dX3_copyFrom_28 : decode cX3_copyFrom 28 = .ok (.getfield 11, 3) := by decide +kernel
theorem dX3_copyFrom_31 : decode cX3_copyFrom 31 = .ok (.iload_n 2, 1) := by decide +kernel
theorem dX3_copyFrom_32 : decode cX3_copyFrom 32 = .ok (.aaload, 1) := by decide +kernel
theorem dX3_copyFrom_33 : decode cX3_copyFrom 33 = .ok (.astore 4, 2) := by decide +kernel
theorem dX3_copyFrom_35 : decode cX3_copyFrom 35 = .ok (.aload_n 3, 1) := by decide +kernel
theorem dX3_copyFrom_36 : decode cX3_copyFrom 36 = .ok (.ifnull 14, 3) := by decide +kernel
theorem dX3_copyFrom_39 : decode cX3_copyFrom 39 = .ok (.aload 4, 2) := by decide +kernel
theorem dX3_copyFrom_41 : decode cX3_copyFrom 41 = .ok (.ifnull 9, 3) := by decide +kernel
theorem dX3_copyFrom_44 : decode cX3_copyFrom 44 = .ok (.aload_n 3, 1) := by decide +kernel
theorem dX3_copyFrom_45 : decode cX3_copyFrom 45 = .ok (.aload 4, 2) := by decide +kernel
theorem dX3_copyFrom_47 : decode cX3_copyFrom 47 = .ok (.invokevirtual 27, 3) := by decide +kernel
theorem dX3_copyFrom_50 : decode cX3_copyFrom 50 = .ok (.iinc 2 1, 3) := by decide +kernel
theorem dX3_copyFrom_53 : decode cX3_copyFrom 53 = .ok (.goto (-51), 3) := by decide +kernel
theorem dX3_copyFrom_56 : decode cX3_copyFrom 56 = .ok (.iconst 0, 1) := by decide +kernel
theorem dX3_copyFrom_57 : decode cX3_copyFrom 57 = .ok (.istore_n 2, 1) := by decide +kernel
theorem dX3_copyFrom_58 : decode cX3_copyFrom 58 = .ok (.iload_n 2, 1) := by decide +kernel
theorem dX3_copyFrom_59 : decode cX3_copyFrom 59 = .ok (.aload_n 0, 1) := by decide +kernel
theorem dX3_copyFrom_60 : decode cX3_copyFrom 60 = .ok (.getfield 22, 3) := by decide +kernel
theorem dX3_copyFrom_63 : decode cX3_copyFrom 63 = .ok (.arraylength, 1) := by decide +kernel
theorem dX3_copyFrom_64 : decode cX3_copyFrom 64 = .ok (.if_icmp .ge 48, 3) := by decide +kernel
theorem dX3_copyFrom_67 : decode cX3_copyFrom 67 = .ok (.iload_n 2, 1) := by decide +kernel
theorem dX3_copyFrom_68 : decode cX3_copyFrom 68 = .ok (.aload_n 1, 1) := by decide +kernel
theorem dX3_copyFrom_69 : decode cX3_copyFrom 69 = .ok (.getfield 22, 3) := by decide +kernel
theorem dX3_copyFrom_72 : decode cX3_copyFrom 72 = .ok (.arraylength, 1) := by decide +kernel
theorem dX3_copyFrom_73 : decode cX3_copyFrom 73 = .ok (.if_icmp .ge 39, 3) := by decide +kernel
theorem dX3_copyFrom_76 : decode cX3_copyFrom 76 = .ok (.aload_n 0, 1) := by decide +kernel
theorem dX3_copyFrom_77 : decode cX3_copyFrom 77 = .ok (.getfield 22, 3) := by decide +kernel
theorem dX3_copyFrom_80 : decode cX3_copyFrom 80 = .ok (.iload_n 2, 1) := by decide +kernel
theorem dX3_copyFrom_81 : decode cX3_copyFrom 81 = .ok (.aaload, 1) := by decide +kernel
theorem dX3_copyFrom_82 : decode cX3_copyFrom 82 = .ok (.astore_n 3, 1) := by decide +kernel
theorem dX3_copyFrom_83 : decode cX3_copyFrom 83 = .ok (.aload_n 1, 1) := by decide +kernel
theorem dX3_copyFrom_84 : decode cX3_copyFrom 84 = .ok (.getfield 22, 3) := by decide +kernel
theorem dX3_copyFrom_87 : decode cX3_copyFrom 87 = .ok (.iload_n 2, 1) := by decide +kernel
theorem dX3_copyFrom_88 : decode cX3_copyFrom 88 = .ok (.aaload, 1) := by decide +kernel
theorem dX3_copyFrom_89 : decode cX3_copyFrom 89 = .ok (.astore 4, 2) := by decide +kernel
theorem dX3_copyFrom_91 : decode cX3_copyFrom 91 = .ok (.aload_n 3, 1) := by decide +kernel
theorem dX3_copyFrom_92 : decode cX3_copyFrom 92 = .ok (.ifnull 14, 3) := by decide +kernel
theorem dX3_copyFrom_95 : decode cX3_copyFrom 95 = .ok (.aload 4, 2) := by decide +kernel
theorem dX3_copyFrom_97 : decode cX3_copyFrom 97 = .ok (.ifnull 9, 3) := by decide +kernel
theorem dX3_copyFrom_100 : decode cX3_copyFrom 100 = .ok (.aload_n 3, 1) := by decide +kernel
theorem dX3_copyFrom_101 : decode cX3_copyFrom 101 = .ok (.aload 4, 2) := by decide +kernel
theorem dX3_copyFrom_103 : decode cX3_copyFrom 103 = .ok (.invokevirtual 31, 3) := by decide +kernel
theorem dX3_copyFrom_106 : decode cX3_copyFrom 106 = .ok (.iinc 2 1, 3) := by decide +kernel
theorem dX3_copyFrom_109 : decode cX3_copyFrom 109 = .ok (.goto (-51), 3) := by decide +kernel
theorem dX3_copyFrom_112 : decode cX3_copyFrom 112 = .ok (.aload_n 0, 1) := by decide +kernel
theorem dX3_copyFrom_113 : decode cX3_copyFrom 113 = .ok (.aload_n 1, 1) := by decide +kernel
theorem dX3_copyFrom_114 : decode cX3_copyFrom 114 = .ok (.getfield 34, 3) := by decide +kernel
theorem dX3_copyFrom_117 : decode cX3_copyFrom 117 = .ok (.putfield 34, 3) := by decide +kernel
theorem dX3_copyFrom_120 : decode cX3_copyFrom 120 = .ok (.aload_n 0, 1) := by decide +kernel
theorem dX3_copyFrom_121 : decode cX3_copyFrom 121 = .ok (.aload_n 1, 1) := by decide +kernel
theorem dX3_copyFrom_122 : decode cX3_copyFrom 122 = .ok (.getfield 38, 3) := by decide +kernel
theorem dX3_copyFrom_125 : decode cX3_copyFrom 125 = .ok (.putfield 38, 3) := by decide +kernel
theorem dX3_copyFrom_128 : decode cX3_copyFrom 128 = .ok (.aload_n 0, 1) := by decide +kernel
theorem dX3_copyFrom_129 : decode cX3_copyFrom 129 = .ok (.aload_n 1, 1) := by decide +kernel
theorem dX3_copyFrom_130 : decode cX3_copyFrom 130 = .ok (.getfield 41, 3) := by decide +kernel
theorem dX3_copyFrom_133 : decode cX3_copyFrom 133 = .ok (.putfield 41, 3) := by decide +kernel
theorem dX3_copyFrom_136 : decode cX3_copyFrom 136 = .ok (.aload_n 0, 1) := by decide +kernel
theorem dX3_copyFrom_137 : decode cX3_copyFrom 137 = .ok (.aload_n 1, 1) := by decide +kernel
theorem dX3_copyFrom_138 : decode cX3_copyFrom 138 = .ok (.getfield 44, 3) := by decide +kernel
theorem dX3_copyFrom_141 : decode cX3_copyFrom 141 = .ok (.putfield 44, 3) := by decide +kernel
theorem dX3_copyFrom_144 : decode cX3_copyFrom 144 = .ok (.aload_n 0, 1) := by decide +kernel
theorem dX3_copyFrom_145 : decode cX3_copyFrom 145 = .ok (.aload_n 1, 1) := by decide +kernel
theorem dX3_copyFrom_146 : decode cX3_copyFrom 146 = .ok (.getfield 47, 3) := by decide +kernel
theorem dX3_copyFrom_149 : decode cX3_copyFrom 149 = .ok (.putfield 47, 3) := by decide +kernel
theorem dX3_copyFrom_152 : decode cX3_copyFrom 152 = .ok (.aload_n 0, 1) := by decide +kernel
theorem dX3_copyFrom_153 : decode cX3_copyFrom 153 = .ok (.aload_n 1, 1) := by decide +kernel
theorem dX3_copyFrom_154 : decode cX3_copyFrom 154 = .ok (.getfield 50, 3) := by decide +kernel
theorem dX3_copyFrom_157 : decode cX3_copyFrom 157 = .ok (.putfield 50, 3) := by decide +kernel
theorem dX3_copyFrom_160 : decode cX3_copyFrom 160 = .ok (.aload_n 0, 1) := by decide +kernel
theorem dX3_copyFrom_161 : decode cX3_copyFrom 161 = .ok (.aload_n 1, 1) := by decide +kernel
theorem dX3_copyFrom_162 : decode cX3_copyFrom 162 = .ok (.getfield 53, 3) := by decide +kernel
theorem dX3_copyFrom_165 : decode cX3_copyFrom 165 = .ok (.putfield 53, 3) := by decide +kernel
theorem dX3_copyFrom_168 : decode cX3_copyFrom 168 = .ok (.aload_n 0, 1) := by decide +kernel
theorem dX3_copyFrom_169 : decode cX3_copyFrom 169 = .ok (.aload_n 1, 1) := by decide +kernel
theorem dX3_copyFrom_170 : decode cX3_copyFrom 170 = .ok (.getfield 56, 3) := by decide +kernel
theorem dX3_copyFrom_173 : decode cX3_copyFrom 173 = .ok (.putfield 56, 3) := by decide +kernel
theorem dX3_copyFrom_176 : decode cX3_copyFrom 176 = .ok (.return_, 1) := by decide +kernel
theorem dX3_wipe_0 : decode cX3_wipe 0 = .ok (.aload_n 0, 1) := by decide +kernel
theorem dX3_wipe_1 : decode cX3_wipe 1 = .ok (.getfield 11, 3) := by decide +kernel
theorem dX3_wipe_4 : decode cX3_wipe 4 = .ok (.astore_n 1, 1) := by decide +kernel
theorem dX3_wipe_5 : decode cX3_wipe 5 = .ok (.aload_n 1, 1) := by decide +kernel
theorem dX3_wipe_6 : decode cX3_wipe 6 = .ok (.arraylength, 1) := by decide +kernel
theorem dX3_wipe_7 : decode cX3_wipe 7 = .ok (.istore_n 2, 1) := by decide +kernel
theorem dX3_wipe_8 : decode cX3_wipe 8 = .ok (.iconst 0, 1) := by decide +kernel
theorem dX3_wipe_9 : decode cX3_wipe 9 = .ok (.istore_n 3, 1) := by decide +kernel
theorem dX3_wipe_10 : decode cX3_wipe 10 = .ok (.iload_n 3, 1) := by decide +kernel
theorem dX3_wipe_11 : decode cX3_wipe 11 = .ok (.iload_n 2, 1) := by decide +kernel
theorem dX3_wipe_12 : decode cX3_wipe 12 = .ok (.if_icmp .ge 31, 3) := by decide +kernel
theorem dX3_wipe_15 : decode cX3_wipe 15 = .ok (.aload_n 1, 1) := by decide +kernel
theorem dX3_wipe_16 : decode cX3_wipe 16 = .ok (.iload_n 3, 1) := by decide +kernel
theorem dX3_wipe_17 : decode cX3_wipe 17 = .ok (.aaload, 1) := by decide +kernel
theorem dX3_wipe_18 : decode cX3_wipe 18 = .ok (.astore 4, 2) := by decide +kernel
theorem dX3_wipe_20 : decode cX3_wipe 20 = .ok (.aload 4, 2) := by decide +kernel
theorem dX3_wipe_22 : decode cX3_wipe 22 = .ok (.ifnull 15, 3) := by decide +kernel
theorem dX3_wipe_25 : decode cX3_wipe 25 = .ok (.aload 4, 2) := by decide +kernel
theorem dX3_wipe_27 : decode cX3_wipe 27 = .ok (.iconst 0, 1) := by decide +kernel
theorem dX3_wipe_28 : decode cX3_wipe 28 = .ok (.putfield 59, 3) := by decide +kernel
theorem dX3_wipe_31 : decode cX3_wipe 31 = .ok (.aload 4, 2) := by decide +kernel
theorem dX3_wipe_33 : decode cX3_wipe 33 = .ok (.iconst (-1), 1) := by decide +kernel
theorem dX3_wipe_34 : decode cX3_wipe 34 = .ok (.putfield 63, 3) := by decide +kernel
theorem dX3_wipe_37 : decode cX3_wipe 37 = .ok (.iinc 3 1, 3) := by decide +kernel
theorem dX3_wipe_40 : decode cX3_wipe 40 = .ok (.goto (-30), 3) := by decide +kernel
theorem dX3_wipe_43 : decode cX3_wipe 43 = .ok (.aload_n 0, 1) := by decide +kernel
theorem dX3_wipe_44 : decode cX3_wipe 44 = .ok (.getfield 22, 3) := by decide +kernel
theorem dX3_wipe_47 : decode cX3_wipe 47 = .ok (.astore_n 1, 1) := by decide +kernel
theorem dX3_wipe_48 : decode cX3_wipe 48 = .ok (.aload_n 1, 1) := by decide +kernel
theorem dX3_wipe_49 : decode cX3_wipe 49 = .ok (.arraylength, 1) := by decide +kernel
theorem dX3_wipe_50 : decode cX3_wipe 50 = .ok (.istore_n 2, 1) := by decide +kernel
theorem dX3_wipe_51 : decode cX3_wipe 51 = .ok (.iconst 0, 1) := by decide +kernel
theorem dX3_wipe_52 : decode cX3_wipe 52 = .ok (.istore_n 3, 1) := by decide +kernel
theorem dX3_wipe_53 : decode cX3_wipe 53 = .ok (.iload_n 3, 1) := by decide +kernel
theorem dX3_wipe_54 : decode cX3_wipe 54 = .ok (.iload_n 2, 1) := by decide +kernel
theorem dX3_wipe_55 : decode cX3_wipe 55 = .ok (.if_icmp .ge 25, 3) := by decide +kernel
theorem dX3_wipe_58 : decode cX3_wipe 58 = .ok (.aload_n 1, 1) := by decide +kernel
theorem dX3_wipe_59 : decode cX3_wipe 59 = .ok (.iload_n 3, 1) := by decide +kernel
theorem dX3_wipe_60 : decode cX3_wipe 60 = .ok (.aaload, 1) := by decide +kernel
theorem dX3_wipe_61 : decode cX3_wipe 61 = .ok (.astore 4, 2) := by decide +kernel
theorem dX3_wipe_63 : decode cX3_wipe 63 = .ok (.aload 4, 2) := by decide +kernel
theorem dX3_wipe_65 : decode cX3_wipe 65 = .ok (.ifnull 9, 3) := by decide +kernel
theorem dX3_wipe_68 : decode cX3_wipe 68 = .ok (.aload 4, 2) := by decide +kernel
theorem dX3_wipe_70 : decode cX3_wipe 70 = .ok (.iconst 0, 1) := by decide +kernel
theorem dX3_wipe_71 : decode cX3_wipe 71 = .ok (.putfield 66, 3) := by decide +kernel
theorem dX3_wipe_74 : decode cX3_wipe 74 = .ok (.iinc 3 1, 3) := by decide +kernel
theorem dX3_wipe_77 : decode cX3_wipe 77 = .ok (.goto (-24), 3) := by decide +kernel
theorem dX3_wipe_80 : decode cX3_wipe 80 = .ok (.aload_n 0, 1) := by decide +kernel
theorem dX3_wipe_81 : decode cX3_wipe 81 = .ok (.iconst 0, 1) := by decide +kernel
theorem dX3_wipe_82 : decode cX3_wipe 82 = .ok (.putfield 34, 3) := by decide +kernel
theorem dX3_wipe_85 : decode cX3_wipe 85 = .ok (.aload_n 0, 1) := by decide +kernel
theorem dX3_wipe_86 : decode cX3_wipe 86 = .ok (.iconst 0, 1) := by decide +kernel
theorem dX3_wipe_87 : decode cX3_wipe 87 = .ok (.putfield 38, 3) := by decide +kernel
theorem dX3_wipe_90 : decode cX3_wipe 90 = .ok (.aload_n 0, 1) := by decide +kernel
theorem dX3_wipe_91 : decode cX3_wipe 91 = .ok (.iconst 0, 1) := by decide +kernel
theorem dX3_wipe_92 : decode cX3_wipe 92 = .ok (.putfield 41, 3) := by decide +kernel
theorem dX3_wipe_95 : decode cX3_wipe 95 = .ok (.aload_n 0, 1) := by decide +kernel
theorem dX3_wipe_96 : decode cX3_wipe 96 = .ok (.iconst 0, 1) := by decide +kernel
theorem dX3_wipe_97 : decode cX3_wipe 97 = .ok (.putfield 44, 3) := by decide +kernel
theorem dX3_wipe_100 : decode cX3_wipe 100 = .ok (.aload_n 0, 1) := by decide +kernel
theorem dX3_wipe_101 : decode cX3_wipe 101 = .ok (.iconst 0, 1) := by decide +kernel
theorem dX3_wipe_102 : decode cX3_wipe 102 = .ok (.putfield 47, 3) := by decide +kernel
theorem dX3_wipe_105 : decode cX3_wipe 105 = .ok (.aload_n 0, 1) := by decide +kernel
theorem dX3_wipe_106 : decode cX3_wipe 106 = .ok (.iconst 0, 1) := by decide +kernel
theorem dX3_wipe_107 : decode cX3_wipe 107 = .ok (.putfield 50, 3) := by decide +kernel
theorem dX3_wipe_110 : decode cX3_wipe 110 = .ok (.aload_n 0, 1) := by decide +kernel
theorem dX3_wipe_111 : decode cX3_wipe 111 = .ok (.iconst 0, 1) := by decide +kernel
theorem dX3_wipe_112 : decode cX3_wipe 112 = .ok (.putfield 53, 3) := by decide +kernel
theorem dX3_wipe_115 : decode cX3_wipe 115 = .ok (.aload_n 0, 1) := by decide +kernel
theorem dX3_wipe_116 : decode cX3_wipe 116 = .ok (.iconst 0, 1) := by decide +kernel
theorem dX3_wipe_117 : decode cX3_wipe 117 = .ok (.putfield 56, 3) := by decide +kernel
theorem dX3_wipe_120 : decode cX3_wipe 120 = .ok (.return_, 1) := by decide +kernel
theorem dX3_findMarble_0 : decode cX3_findMarble 0 = .ok (.iload_n 1, 1) := by decide +kernel
theorem dX3_findMarble_1 : decode cX3_findMarble 1 = .ok (.ifCond .lt 20, 3) := by decide +kernel
theorem dX3_findMarble_4 : decode cX3_findMarble 4 = .ok (.iload_n 1, 1) := by decide +kernel
theorem dX3_findMarble_5 : decode cX3_findMarble 5 = .ok (.aload_n 0, 1) := by decide +kernel
theorem dX3_findMarble_6 : decode cX3_findMarble 6 = .ok (.getfield 34, 3) := by decide +kernel
theorem dX3_findMarble_9 : decode cX3_findMarble 9 = .ok (.if_icmp .ge 12, 3) := by decide +kernel
theorem dX3_findMarble_12 : decode cX3_findMarble 12 = .ok (.iload_n 1, 1) := by decide +kernel
theorem dX3_findMarble_13 : decode cX3_findMarble 13 = .ok (.aload_n 0, 1) := by decide +kernel
theorem dX3_findMarble_14 : decode cX3_findMarble 14 = .ok (.getfield 11, 3) := by decide +kernel
theorem dX3_findMarble_17 : decode cX3_findMarble 17 = .ok (.arraylength, 1) := by decide +kernel
theorem dX3_findMarble_18 : decode cX3_findMarble 18 = .ok (.if_icmp .lt 7, 3) := by decide +kernel
theorem dX3_findMarble_21 : decode cX3_findMarble 21 = .ok (.aconst_null, 1) := by decide +kernel
theorem dX3_findMarble_22 : decode cX3_findMarble 22 = .ok (.goto 9, 3) := by decide +kernel
theorem dX3_findMarble_25 : decode cX3_findMarble 25 = .ok (.aload_n 0, 1) := by decide +kernel
theorem dX3_findMarble_26 : decode cX3_findMarble 26 = .ok (.getfield 11, 3) := by decide +kernel
theorem dX3_findMarble_29 : decode cX3_findMarble 29 = .ok (.iload_n 1, 1) := by decide +kernel
theorem dX3_findMarble_30 : decode cX3_findMarble 30 = .ok (.aaload, 1) := by decide +kernel
theorem dX3_findMarble_31 : decode cX3_findMarble 31 = .ok (.areturn, 1) := by decide +kernel
theorem dX3_findRing_0 : decode cX3_findRing 0 = .ok (.iload_n 1, 1) := by decide +kernel
theorem dX3_findRing_1 : decode cX3_findRing 1 = .ok (.ifCond .lt 20, 3) := by decide +kernel
theorem dX3_findRing_4 : decode cX3_findRing 4 = .ok (.iload_n 1, 1) := by decide +kernel
theorem dX3_findRing_5 : decode cX3_findRing 5 = .ok (.aload_n 0, 1) := by decide +kernel
theorem dX3_findRing_6 : decode cX3_findRing 6 = .ok (.getfield 38, 3) := by decide +kernel
theorem dX3_findRing_9 : decode cX3_findRing 9 = .ok (.if_icmp .ge 12, 3) := by decide +kernel
theorem dX3_findRing_12 : decode cX3_findRing 12 = .ok (.iload_n 1, 1) := by decide +kernel
theorem dX3_findRing_13 : decode cX3_findRing 13 = .ok (.aload_n 0, 1) := by decide +kernel
theorem dX3_findRing_14 : decode cX3_findRing 14 = .ok (.getfield 22, 3) := by decide +kernel
theorem dX3_findRing_17 : decode cX3_findRing 17 = .ok (.arraylength, 1) := by decide +kernel
theorem dX3_findRing_18 : decode cX3_findRing 18 = .ok (.if_icmp .lt 7, 3) := by decide +kernel
theorem dX3_findRing_21 : decode cX3_findRing 21 = .ok (.aconst_null, 1) := by decide +kernel
theorem dX3_findRing_22 : decode cX3_findRing 22 = .ok (.goto 9, 3) := by decide +kernel
theorem dX3_findRing_25 : decode cX3_findRing 25 = .ok (.aload_n 0, 1) := by decide +kernel
theorem dX3_findRing_26 : decode cX3_findRing 26 = .ok (.getfield 22, 3) := by decide +kernel
theorem dX3_findRing_29 : decode cX3_findRing 29 = .ok (.iload_n 1, 1) := by decide +kernel
theorem dX3_findRing_30 : decode cX3_findRing 30 = .ok (.aaload, 1) := by decide +kernel
theorem dX3_findRing_31 : decode cX3_findRing 31 = .ok (.areturn, 1) := by decide +kernel
theorem dX3_refusalOfMarble_0 : decode cX3_refusalOfMarble 0 = .ok (.iload_n 1, 1) := by decide +kernel
theorem dX3_refusalOfMarble_1 : decode cX3_refusalOfMarble 1 = .ok (.iload_n 2, 1) := by decide +kernel
theorem dX3_refusalOfMarble_2 : decode cX3_refusalOfMarble 2 = .ok (.invokestatic 69, 3) := by decide +kernel
theorem dX3_refusalOfMarble_5 : decode cX3_refusalOfMarble 5 = .ok (.ifCond .eq 11, 3) := by decide +kernel
theorem dX3_refusalOfMarble_8 : decode cX3_refusalOfMarble 8 = .ok (.iload 4, 2) := by decide +kernel
theorem dX3_refusalOfMarble_10 : decode cX3_refusalOfMarble 10 = .ok (.invokestatic 73, 3) := by decide +kernel
theorem dX3_refusalOfMarble_13 : decode cX3_refusalOfMarble 13 = .ok (.ifCond .ne 7, 3) := by decide +kernel
theorem dX3_refusalOfMarble_16 : decode cX3_refusalOfMarble 16 = .ok (.sipush (-1001), 3) := by decide +kernel
theorem dX3_refusalOfMarble_19 : decode cX3_refusalOfMarble 19 = .ok (.ireturn, 1) := by decide +kernel
theorem dX3_refusalOfMarble_20 : decode cX3_refusalOfMarble 20 = .ok (.iload_n 3, 1) := by decide +kernel
theorem dX3_refusalOfMarble_21 : decode cX3_refusalOfMarble 21 = .ok (.iconst 1, 1) := by decide +kernel
theorem dX3_refusalOfMarble_22 : decode cX3_refusalOfMarble 22 = .ok (.if_icmp .lt 8, 3) := by decide +kernel
theorem dX3_refusalOfMarble_25 : decode cX3_refusalOfMarble 25 = .ok (.iload_n 3, 1) := by decide +kernel
theorem dX3_refusalOfMarble_26 : decode cX3_refusalOfMarble 26 = .ok (.iconst 3, 1) := by decide +kernel
theorem dX3_refusalOfMarble_27 : decode cX3_refusalOfMarble 27 = .ok (.if_icmp .le 7, 3) := by decide +kernel
theorem dX3_refusalOfMarble_30 : decode cX3_refusalOfMarble 30 = .ok (.sipush (-1002), 3) := by decide +kernel
theorem dX3_refusalOfMarble_33 : decode cX3_refusalOfMarble 33 = .ok (.ireturn, 1) := by decide +kernel
theorem dX3_refusalOfMarble_34 : decode cX3_refusalOfMarble 34 = .ok (.aload_n 0, 1) := by decide +kernel
theorem dX3_refusalOfMarble_35 : decode cX3_refusalOfMarble 35 = .ok (.iload_n 1, 1) := by decide +kernel
theorem dX3_refusalOfMarble_36 : decode cX3_refusalOfMarble 36 = .ok (.iload_n 2, 1) := by decide +kernel
theorem dX3_refusalOfMarble_37 : decode cX3_refusalOfMarble 37 = .ok (.invokevirtual 77, 3) := by decide +kernel
theorem dX3_refusalOfMarble_40 : decode cX3_refusalOfMarble 40 = .ok (.ifnull 7, 3) := by decide +kernel
theorem dX3_refusalOfMarble_43 : decode cX3_refusalOfMarble 43 = .ok (.sipush (-1003), 3) := by decide +kernel
theorem dX3_refusalOfMarble_46 : decode cX3_refusalOfMarble 46 = .ok (.ireturn, 1) := by decide +kernel
theorem dX3_refusalOfMarble_47 : decode cX3_refusalOfMarble 47 = .ok (.aload_n 0, 1) := by decide +kernel
theorem dX3_refusalOfMarble_48 : decode cX3_refusalOfMarble 48 = .ok (.getfield 34, 3) := by decide +kernel
theorem dX3_refusalOfMarble_51 : decode cX3_refusalOfMarble 51 = .ok (.bipush 12, 2) := by decide +kernel
theorem dX3_refusalOfMarble_53 : decode cX3_refusalOfMarble 53 = .ok (.if_icmp .lt 9, 3) := by decide +kernel
theorem dX3_refusalOfMarble_56 : decode cX3_refusalOfMarble 56 = .ok (.sipush (-1004), 3) := by decide +kernel
theorem dX3_refusalOfMarble_59 : decode cX3_refusalOfMarble 59 = .ok (.goto 4, 3) := by decide +kernel
theorem dX3_refusalOfMarble_62 : decode cX3_refusalOfMarble 62 = .ok (.iconst 0, 1) := by decide +kernel
theorem dX3_refusalOfMarble_63 : decode cX3_refusalOfMarble 63 = .ok (.ireturn, 1) := by decide +kernel
theorem dX3_addMarble_0 : decode cX3_addMarble 0 = .ok (.aload_n 0, 1) := by decide +kernel
theorem dX3_addMarble_1 : decode cX3_addMarble 1 = .ok (.getfield 34, 3) := by decide +kernel
theorem dX3_addMarble_4 : decode cX3_addMarble 4 = .ok (.ifCond .lt 15, 3) := by decide +kernel
theorem dX3_addMarble_7 : decode cX3_addMarble 7 = .ok (.aload_n 0, 1) := by decide +kernel
theorem dX3_addMarble_8 : decode cX3_addMarble 8 = .ok (.getfield 34, 3) := by decide +kernel
theorem dX3_addMarble_11 : decode cX3_addMarble 11 = .ok (.aload_n 0, 1) := by decide +kernel
theorem dX3_addMarble_12 : decode cX3_addMarble 12 = .ok (.getfield 11, 3) := by decide +kernel
theorem dX3_addMarble_15 : decode cX3_addMarble 15 = .ok (.arraylength, 1) := by decide +kernel
theorem dX3_addMarble_16 : decode cX3_addMarble 16 = .ok (.if_icmp .lt 7, 3) := by decide +kernel
theorem dX3_addMarble_19 : decode cX3_addMarble 19 = .ok (.sipush (-1004), 3) := by decide +kernel
theorem dX3_addMarble_22 : decode cX3_addMarble 22 = .ok (.ireturn, 1) := by decide +kernel
theorem dX3_addMarble_23 : decode cX3_addMarble 23 = .ok (.aload_n 0, 1) := by decide +kernel
theorem dX3_addMarble_24 : decode cX3_addMarble 24 = .ok (.getfield 11, 3) := by decide +kernel
theorem dX3_addMarble_27 : decode cX3_addMarble 27 = .ok (.aload_n 0, 1) := by decide +kernel
theorem dX3_addMarble_28 : decode cX3_addMarble 28 = .ok (.getfield 34, 3) := by decide +kernel
theorem dX3_addMarble_31 : decode cX3_addMarble 31 = .ok (.aaload, 1) := by decide +kernel
theorem dX3_addMarble_32 : decode cX3_addMarble 32 = .ok (.astore 5, 2) := by decide +kernel
theorem dX3_addMarble_34 : decode cX3_addMarble 34 = .ok (.aload 5, 2) := by decide +kernel
theorem dX3_addMarble_36 : decode cX3_addMarble 36 = .ok (.ifnonnull 7, 3) := by decide +kernel
theorem dX3_addMarble_39 : decode cX3_addMarble 39 = .ok (.sipush (-1004), 3) := by decide +kernel
theorem dX3_addMarble_42 : decode cX3_addMarble 42 = .ok (.ireturn, 1) := by decide +kernel
theorem dX3_addMarble_43 : decode cX3_addMarble 43 = .ok (.aload 5, 2) := by decide +kernel
theorem dX3_addMarble_45 : decode cX3_addMarble 45 = .ok (.iload_n 1, 1) := by decide +kernel
theorem dX3_addMarble_46 : decode cX3_addMarble 46 = .ok (.putfield 81, 3) := by decide +kernel
theorem dX3_addMarble_49 : decode cX3_addMarble 49 = .ok (.aload 5, 2) := by decide +kernel
theorem dX3_addMarble_51 : decode cX3_addMarble 51 = .ok (.iload_n 2, 1) := by decide +kernel
theorem dX3_addMarble_52 : decode cX3_addMarble 52 = .ok (.putfield 84, 3) := by decide +kernel
theorem dX3_addMarble_55 : decode cX3_addMarble 55 = .ok (.aload 5, 2) := by decide +kernel
theorem dX3_addMarble_57 : decode cX3_addMarble 57 = .ok (.iload_n 3, 1) := by decide +kernel
theorem dX3_addMarble_58 : decode cX3_addMarble 58 = .ok (.putfield 87, 3) := by decide +kernel
theorem dX3_addMarble_61 : decode cX3_addMarble 61 = .ok (.aload 5, 2) := by decide +kernel
theorem dX3_addMarble_63 : decode cX3_addMarble 63 = .ok (.iload 4, 2) := by decide +kernel
theorem dX3_addMarble_65 : decode cX3_addMarble 65 = .ok (.putfield 90, 3) := by decide +kernel
theorem dX3_addMarble_68 : decode cX3_addMarble 68 = .ok (.aload 5, 2) := by decide +kernel
theorem dX3_addMarble_70 : decode cX3_addMarble 70 = .ok (.iconst (-1), 1) := by decide +kernel
theorem dX3_addMarble_71 : decode cX3_addMarble 71 = .ok (.putfield 63, 3) := by decide +kernel
theorem dX3_addMarble_74 : decode cX3_addMarble 74 = .ok (.aload 5, 2) := by decide +kernel
theorem dX3_addMarble_76 : decode cX3_addMarble 76 = .ok (.iconst 1, 1) := by decide +kernel
theorem dX3_addMarble_77 : decode cX3_addMarble 77 = .ok (.putfield 59, 3) := by decide +kernel
theorem dX3_addMarble_80 : decode cX3_addMarble 80 = .ok (.aload_n 0, 1) := by decide +kernel
theorem dX3_addMarble_81 : decode cX3_addMarble 81 = .ok (.dup, 1) := by decide +kernel
theorem dX3_addMarble_82 : decode cX3_addMarble 82 = .ok (.getfield 34, 3) := by decide +kernel
theorem dX3_addMarble_85 : decode cX3_addMarble 85 = .ok (.iconst 1, 1) := by decide +kernel
theorem dX3_addMarble_86 : decode cX3_addMarble 86 = .ok (.iadd, 1) := by decide +kernel
theorem dX3_addMarble_87 : decode cX3_addMarble 87 = .ok (.putfield 34, 3) := by decide +kernel
theorem dX3_addMarble_90 : decode cX3_addMarble 90 = .ok (.aload 5, 2) := by decide +kernel
theorem dX3_addMarble_92 : decode cX3_addMarble 92 = .ok (.getfield 93, 3) := by decide +kernel
theorem dX3_addMarble_95 : decode cX3_addMarble 95 = .ok (.ireturn, 1) := by decide +kernel
theorem dX3_refusalOfRing_0 : decode cX3_refusalOfRing 0 = .ok (.iload_n 1, 1) := by decide +kernel
theorem dX3_refusalOfRing_1 : decode cX3_refusalOfRing 1 = .ok (.iload_n 2, 1) := by decide +kernel
theorem dX3_refusalOfRing_2 : decode cX3_refusalOfRing 2 = .ok (.invokestatic 69, 3) := by decide +kernel
theorem dX3_refusalOfRing_5 : decode cX3_refusalOfRing 5 = .ok (.ifCond .ne 7, 3) := by decide +kernel
theorem dX3_refusalOfRing_8 : decode cX3_refusalOfRing 8 = .ok (.sipush (-1001), 3) := by decide +kernel
theorem dX3_refusalOfRing_11 : decode cX3_refusalOfRing 11 = .ok (.ireturn, 1) := by decide +kernel
theorem dX3_refusalOfRing_12 : decode cX3_refusalOfRing 12 = .ok (.iload_n 3, 1) := by decide +kernel
theorem dX3_refusalOfRing_13 : decode cX3_refusalOfRing 13 = .ok (.iconst 1, 1) := by decide +kernel
theorem dX3_refusalOfRing_14 : decode cX3_refusalOfRing 14 = .ok (.if_icmp .lt 9, 3) := by decide +kernel
theorem dX3_refusalOfRing_17 : decode cX3_refusalOfRing 17 = .ok (.iload_n 3, 1) := by decide +kernel
theorem dX3_refusalOfRing_18 : decode cX3_refusalOfRing 18 = .ok (.bipush 15, 2) := by decide +kernel
theorem dX3_refusalOfRing_20 : decode cX3_refusalOfRing 20 = .ok (.if_icmp .le 7, 3) := by decide +kernel
theorem dX3_refusalOfRing_23 : decode cX3_refusalOfRing 23 = .ok (.sipush (-1002), 3) := by decide +kernel
theorem dX3_refusalOfRing_26 : decode cX3_refusalOfRing 26 = .ok (.ireturn, 1) := by decide +kernel
theorem dX3_refusalOfRing_27 : decode cX3_refusalOfRing 27 = .ok (.aload_n 0, 1) := by decide +kernel
theorem dX3_refusalOfRing_28 : decode cX3_refusalOfRing 28 = .ok (.getfield 38, 3) := by decide +kernel
theorem dX3_refusalOfRing_31 : decode cX3_refusalOfRing 31 = .ok (.iconst 4, 1) := by decide +kernel
theorem dX3_refusalOfRing_32 : decode cX3_refusalOfRing 32 = .ok (.if_icmp .lt 9, 3) := by decide +kernel
theorem dX3_refusalOfRing_35 : decode cX3_refusalOfRing 35 = .ok (.sipush (-1004), 3) := by decide +kernel
theorem dX3_refusalOfRing_38 : decode cX3_refusalOfRing 38 = .ok (.goto 4, 3) := by decide +kernel
theorem dX3_refusalOfRing_41 : decode cX3_refusalOfRing 41 = .ok (.iconst 0, 1) := by decide +kernel
theorem dX3_refusalOfRing_42 : decode cX3_refusalOfRing 42 = .ok (.ireturn, 1) := by decide +kernel
theorem dX3_addRing_0 : decode cX3_addRing 0 = .ok (.aload_n 0, 1) := by decide +kernel
theorem dX3_addRing_1 : decode cX3_addRing 1 = .ok (.getfield 38, 3) := by decide +kernel
theorem dX3_addRing_4 : decode cX3_addRing 4 = .ok (.ifCond .lt 15, 3) := by decide +kernel
theorem dX3_addRing_7 : decode cX3_addRing 7 = .ok (.aload_n 0, 1) := by decide +kernel
theorem dX3_addRing_8 : decode cX3_addRing 8 = .ok (.getfield 38, 3) := by decide +kernel
theorem dX3_addRing_11 : decode cX3_addRing 11 = .ok (.aload_n 0, 1) := by decide +kernel
theorem dX3_addRing_12 : decode cX3_addRing 12 = .ok (.getfield 22, 3) := by decide +kernel
theorem dX3_addRing_15 : decode cX3_addRing 15 = .ok (.arraylength, 1) := by decide +kernel
theorem dX3_addRing_16 : decode cX3_addRing 16 = .ok (.if_icmp .lt 7, 3) := by decide +kernel
theorem dX3_addRing_19 : decode cX3_addRing 19 = .ok (.sipush (-1004), 3) := by decide +kernel
theorem dX3_addRing_22 : decode cX3_addRing 22 = .ok (.ireturn, 1) := by decide +kernel
theorem dX3_addRing_23 : decode cX3_addRing 23 = .ok (.aload_n 0, 1) := by decide +kernel
theorem dX3_addRing_24 : decode cX3_addRing 24 = .ok (.getfield 22, 3) := by decide +kernel
theorem dX3_addRing_27 : decode cX3_addRing 27 = .ok (.aload_n 0, 1) := by decide +kernel
theorem dX3_addRing_28 : decode cX3_addRing 28 = .ok (.getfield 38, 3) := by decide +kernel
theorem dX3_addRing_31 : decode cX3_addRing 31 = .ok (.aaload, 1) := by decide +kernel
theorem dX3_addRing_32 : decode cX3_addRing 32 = .ok (.astore 4, 2) := by decide +kernel
theorem dX3_addRing_34 : decode cX3_addRing 34 = .ok (.aload 4, 2) := by decide +kernel
theorem dX3_addRing_36 : decode cX3_addRing 36 = .ok (.ifnonnull 7, 3) := by decide +kernel
theorem dX3_addRing_39 : decode cX3_addRing 39 = .ok (.sipush (-1004), 3) := by decide +kernel
theorem dX3_addRing_42 : decode cX3_addRing 42 = .ok (.ireturn, 1) := by decide +kernel
theorem dX3_addRing_43 : decode cX3_addRing 43 = .ok (.aload 4, 2) := by decide +kernel
theorem dX3_addRing_45 : decode cX3_addRing 45 = .ok (.iload_n 1, 1) := by decide +kernel
theorem dX3_addRing_46 : decode cX3_addRing 46 = .ok (.putfield 96, 3) := by decide +kernel
theorem dX3_addRing_49 : decode cX3_addRing 49 = .ok (.aload 4, 2) := by decide +kernel
theorem dX3_addRing_51 : decode cX3_addRing 51 = .ok (.iload_n 2, 1) := by decide +kernel
theorem dX3_addRing_52 : decode cX3_addRing 52 = .ok (.putfield 97, 3) := by decide +kernel
theorem dX3_addRing_55 : decode cX3_addRing 55 = .ok (.aload 4, 2) := by decide +kernel
theorem dX3_addRing_57 : decode cX3_addRing 57 = .ok (.iload_n 3, 1) := by decide +kernel
theorem dX3_addRing_58 : decode cX3_addRing 58 = .ok (.putfield 66, 3) := by decide +kernel
theorem dX3_addRing_61 : decode cX3_addRing 61 = .ok (.aload_n 0, 1) := by decide +kernel
theorem dX3_addRing_62 : decode cX3_addRing 62 = .ok (.dup, 1) := by decide +kernel
theorem dX3_addRing_63 : decode cX3_addRing 63 = .ok (.getfield 38, 3) := by decide +kernel
theorem dX3_addRing_66 : decode cX3_addRing 66 = .ok (.iconst 1, 1) := by decide +kernel
theorem dX3_addRing_67 : decode cX3_addRing 67 = .ok (.iadd, 1) := by decide +kernel
theorem dX3_addRing_68 : decode cX3_addRing 68 = .ok (.putfield 38, 3) := by decide +kernel
theorem dX3_addRing_71 : decode cX3_addRing 71 = .ok (.aload_n 0, 1) := by decide +kernel
theorem dX3_addRing_72 : decode cX3_addRing 72 = .ok (.getfield 38, 3) := by decide +kernel
theorem dX3_addRing_75 : decode cX3_addRing 75 = .ok (.iconst 1, 1) := by decide +kernel
theorem dX3_addRing_76 : decode cX3_addRing 76 = .ok (.isub, 1) := by decide +kernel
theorem dX3_addRing_77 : decode cX3_addRing 77 = .ok (.ireturn, 1) := by decide +kernel
theorem dX3_nextPlayer_0 : decode cX3_nextPlayer 0 = .ok (.aload_n 0, 1) := by decide +kernel
theorem dX3_nextPlayer_1 : decode cX3_nextPlayer 1 = .ok (.aload_n 0, 1) := by decide +kernel
theorem dX3_nextPlayer_2 : decode cX3_nextPlayer 2 = .ok (.getfield 41, 3) := by decide +kernel
theorem dX3_nextPlayer_5 : decode cX3_nextPlayer 5 = .ok (.iconst 2, 1) := by decide +kernel
theorem dX3_nextPlayer_6 : decode cX3_nextPlayer 6 = .ok (.if_icmp .ge 12, 3) := by decide +kernel
theorem dX3_nextPlayer_9 : decode cX3_nextPlayer 9 = .ok (.aload_n 0, 1) := by decide +kernel
theorem dX3_nextPlayer_10 : decode cX3_nextPlayer 10 = .ok (.getfield 41, 3) := by decide +kernel
theorem dX3_nextPlayer_13 : decode cX3_nextPlayer 13 = .ok (.iconst 1, 1) := by decide +kernel
theorem dX3_nextPlayer_14 : decode cX3_nextPlayer 14 = .ok (.iadd, 1) := by decide +kernel
theorem dX3_nextPlayer_15 : decode cX3_nextPlayer 15 = .ok (.goto 4, 3) := by decide +kernel
theorem dX3_nextPlayer_18 : decode cX3_nextPlayer 18 = .ok (.iconst 0, 1) := by decide +kernel
theorem dX3_nextPlayer_19 : decode cX3_nextPlayer 19 = .ok (.putfield 41, 3) := by decide +kernel
theorem dX3_nextPlayer_22 : decode cX3_nextPlayer 22 = .ok (.return_, 1) := by decide +kernel
theorem dX3_marbleOn_0 : decode cX3_marbleOn 0 = .ok (.aload_n 0, 1) := by decide +kernel
theorem dX3_marbleOn_1 : decode cX3_marbleOn 1 = .ok (.getfield 11, 3) := by decide +kernel
theorem dX3_marbleOn_4 : decode cX3_marbleOn 4 = .ok (.astore_n 3, 1) := by decide +kernel
theorem dX3_marbleOn_5 : decode cX3_marbleOn 5 = .ok (.aload_n 3, 1) := by decide +kernel
theorem dX3_marbleOn_6 : decode cX3_marbleOn 6 = .ok (.arraylength, 1) := by decide +kernel
theorem dX3_marbleOn_7 : decode cX3_marbleOn 7 = .ok (.istore 4, 2) := by decide +kernel
theorem dX3_marbleOn_9 : decode cX3_marbleOn 9 = .ok (.iconst 0, 1) := by decide +kernel
theorem dX3_marbleOn_10 : decode cX3_marbleOn 10 = .ok (.istore 5, 2) := by decide +kernel
theorem dX3_marbleOn_12 : decode cX3_marbleOn 12 = .ok (.iload 5, 2) := by decide +kernel
theorem dX3_marbleOn_14 : decode cX3_marbleOn 14 = .ok (.iload 4, 2) := by decide +kernel
theorem dX3_marbleOn_16 : decode cX3_marbleOn 16 = .ok (.if_icmp .ge 49, 3) := by decide +kernel
theorem dX3_marbleOn_19 : decode cX3_marbleOn 19 = .ok (.aload_n 3, 1) := by decide +kernel
theorem dX3_marbleOn_20 : decode cX3_marbleOn 20 = .ok (.iload 5, 2) := by decide +kernel
theorem dX3_marbleOn_22 : decode cX3_marbleOn 22 = .ok (.aaload, 1) := by decide +kernel
theorem dX3_marbleOn_23 : decode cX3_marbleOn 23 = .ok (.astore 6, 2) := by decide +kernel
theorem dX3_marbleOn_25 : decode cX3_marbleOn 25 = .ok (.aload 6, 2) := by decide +kernel
theorem dX3_marbleOn_27 : decode cX3_marbleOn 27 = .ok (.ifnull 32, 3) := by decide +kernel
theorem dX3_marbleOn_30 : decode cX3_marbleOn 30 = .ok (.aload 6, 2) := by decide +kernel
theorem dX3_marbleOn_32 : decode cX3_marbleOn 32 = .ok (.getfield 59, 3) := by decide +kernel
theorem dX3_marbleOn_35 : decode cX3_marbleOn 35 = .ok (.ifCond .eq 24, 3) := by decide +kernel
theorem dX3_marbleOn_38 : decode cX3_marbleOn 38 = .ok (.aload 6, 2) := by decide +kernel
theorem dX3_marbleOn_40 : decode cX3_marbleOn 40 = .ok (.getfield 81, 3) := by decide +kernel
theorem dX3_marbleOn_43 : decode cX3_marbleOn 43 = .ok (.iload_n 1, 1) := by decide +kernel
theorem dX3_marbleOn_44 : decode cX3_marbleOn 44 = .ok (.if_icmp .ne 15, 3) := by decide +kernel
theorem dX3_marbleOn_47 : decode cX3_marbleOn 47 = .ok (.aload 6, 2) := by decide +kernel
theorem dX3_marbleOn_49 : decode cX3_marbleOn 49 = .ok (.getfield 84, 3) := by decide +kernel
theorem dX3_marbleOn_52 : decode cX3_marbleOn 52 = .ok (.iload_n 2, 1) := by decide +kernel
theorem dX3_marbleOn_53 : decode cX3_marbleOn 53 = .ok (.if_icmp .ne 6, 3) := by decide +kernel
theorem dX3_marbleOn_56 : decode cX3_marbleOn 56 = .ok (.aload 6, 2) := by decide +kernel
theorem dX3_marbleOn_58 : decode cX3_marbleOn 58 = .ok (.areturn, 1) := by decide +kernel
theorem dX3_marbleOn_59 : decode cX3_marbleOn 59 = .ok (.iinc 5 1, 3) := by decide +kernel
theorem dX3_marbleOn_62 : decode cX3_marbleOn 62 = .ok (.goto (-50), 3) := by decide +kernel
theorem dX3_marbleOn_65 : decode cX3_marbleOn 65 = .ok (.aconst_null, 1) := by decide +kernel
theorem dX3_marbleOn_66 : decode cX3_marbleOn 66 = .ok (.areturn, 1) := by decide +kernel
theorem dX3_ringsAround_0 : decode cX3_ringsAround 0 = .ok (.iconst 0, 1) := by decide +kernel
theorem dX3_ringsAround_1 : decode cX3_ringsAround 1 = .ok (.istore_n 3, 1) := by decide +kernel
theorem dX3_ringsAround_2 : decode cX3_ringsAround 2 = .ok (.iconst 0, 1) := by decide +kernel
theorem dX3_ringsAround_3 : decode cX3_ringsAround 3 = .ok (.istore 4, 2) := by decide +kernel
theorem dX3_ringsAround_5 : decode cX3_ringsAround 5 = .ok (.iload 4, 2) := by decide +kernel
theorem dX3_ringsAround_7 : decode cX3_ringsAround 7 = .ok (.aload_n 0, 1) := by decide +kernel
theorem dX3_ringsAround_8 : decode cX3_ringsAround 8 = .ok (.getfield 22, 3) := by decide +kernel
theorem dX3_ringsAround_11 : decode cX3_ringsAround 11 = .ok (.arraylength, 1) := by decide +kernel
theorem dX3_ringsAround_12 : decode cX3_ringsAround 12 = .ok (.if_icmp .ge 40, 3) := by decide +kernel
theorem dX3_ringsAround_15 : decode cX3_ringsAround 15 = .ok (.aload_n 0, 1) := by decide +kernel
theorem dX3_ringsAround_16 : decode cX3_ringsAround 16 = .ok (.getfield 22, 3) := by decide +kernel
theorem dX3_ringsAround_19 : decode cX3_ringsAround 19 = .ok (.iload 4, 2) := by decide +kernel
theorem dX3_ringsAround_21 : decode cX3_ringsAround 21 = .ok (.aaload, 1) := by decide +kernel
theorem dX3_ringsAround_22 : decode cX3_ringsAround 22 = .ok (.astore 5, 2) := by decide +kernel
theorem dX3_ringsAround_24 : decode cX3_ringsAround 24 = .ok (.aload 5, 2) := by decide +kernel
theorem dX3_ringsAround_26 : decode cX3_ringsAround 26 = .ok (.ifnull 20, 3) := by decide +kernel
theorem dX3_ringsAround_29 : decode cX3_ringsAround 29 = .ok (.aload 5, 2) := by decide +kernel
theorem dX3_ringsAround_31 : decode cX3_ringsAround 31 = .ok (.iload_n 1, 1) := by decide +kernel
theorem dX3_ringsAround_32 : decode cX3_ringsAround 32 = .ok (.iload_n 2, 1) := by decide +kernel
theorem dX3_ringsAround_33 : decode cX3_ringsAround 33 = .ok (.invokevirtual 98, 3) := by decide +kernel
theorem dX3_ringsAround_36 : decode cX3_ringsAround 36 = .ok (.ifCond .eq 10, 3) := by decide +kernel
theorem dX3_ringsAround_39 : decode cX3_ringsAround 39 = .ok (.iload_n 3, 1) := by decide +kernel
theorem dX3_ringsAround_40 : decode cX3_ringsAround 40 = .ok (.iconst 1, 1) := by decide +kernel
theorem dX3_ringsAround_41 : decode cX3_ringsAround 41 = .ok (.iload 4, 2) := by decide +kernel
theorem dX3_ringsAround_43 : decode cX3_ringsAround 43 = .ok (.ishl, 1) := by decide +kernel
theorem dX3_ringsAround_44 : decode cX3_ringsAround 44 = .ok (.ior, 1) := by decide +kernel
theorem dX3_ringsAround_45 : decode cX3_ringsAround 45 = .ok (.istore_n 3, 1) := by decide +kernel
theorem dX3_ringsAround_46 : decode cX3_ringsAround 46 = .ok (.iinc 4 1, 3) := by decide +kernel
theorem dX3_ringsAround_49 : decode cX3_ringsAround 49 = .ok (.goto (-44), 3) := by decide +kernel
theorem dX3_ringsAround_52 : decode cX3_ringsAround 52 = .ok (.iload_n 3, 1) := by decide +kernel
theorem dX3_ringsAround_53 : decode cX3_ringsAround 53 = .ok (.ireturn, 1) := by decide +kernel
theorem dX3_marblesIn_0 : decode cX3_marblesIn 0 = .ok (.iconst 0, 1) := by decide +kernel
theorem dX3_marblesIn_1 : decode cX3_marblesIn 1 = .ok (.istore_n 2, 1) := by decide +kernel
theorem dX3_marblesIn_2 : decode cX3_marblesIn 2 = .ok (.aload_n 0, 1) := by decide +kernel
theorem dX3_marblesIn_3 : decode cX3_marblesIn 3 = .ok (.getfield 11, 3) := by decide +kernel
theorem dX3_marblesIn_6 : decode cX3_marblesIn 6 = .ok (.astore_n 3, 1) := by decide +kernel
theorem dX3_marblesIn_7 : decode cX3_marblesIn 7 = .ok (.aload_n 3, 1) := by decide +kernel
theorem dX3_marblesIn_8 : decode cX3_marblesIn 8 = .ok (.arraylength, 1) := by decide +kernel
theorem dX3_marblesIn_9 : decode cX3_marblesIn 9 = .ok (.istore 4, 2) := by decide +kernel
theorem dX3_marblesIn_11 : decode cX3_marblesIn 11 = .ok (.iconst 0, 1) := by decide +kernel
theorem dX3_marblesIn_12 : decode cX3_marblesIn 12 = .ok (.istore 5, 2) := by decide +kernel
theorem dX3_marblesIn_14 : decode cX3_marblesIn 14 = .ok (.iload 5, 2) := by decide +kernel
theorem dX3_marblesIn_16 : decode cX3_marblesIn 16 = .ok (.iload 4, 2) := by decide +kernel
theorem dX3_marblesIn_18 : decode cX3_marblesIn 18 = .ok (.if_icmp .ge 55, 3) := by decide +kernel
theorem dX3_marblesIn_21 : decode cX3_marblesIn 21 = .ok (.aload_n 3, 1) := by decide +kernel
theorem dX3_marblesIn_22 : decode cX3_marblesIn 22 = .ok (.iload 5, 2) := by decide +kernel
theorem dX3_marblesIn_24 : decode cX3_marblesIn 24 = .ok (.aaload, 1) := by decide +kernel
theorem dX3_marblesIn_25 : decode cX3_marblesIn 25 = .ok (.astore 6, 2) := by decide +kernel
theorem dX3_marblesIn_27 : decode cX3_marblesIn 27 = .ok (.aload 6, 2) := by decide +kernel
theorem dX3_marblesIn_29 : decode cX3_marblesIn 29 = .ok (.ifnull 38, 3) := by decide +kernel
theorem dX3_marblesIn_32 : decode cX3_marblesIn 32 = .ok (.aload 6, 2) := by decide +kernel
theorem dX3_marblesIn_34 : decode cX3_marblesIn 34 = .ok (.getfield 59, 3) := by decide +kernel
theorem dX3_marblesIn_37 : decode cX3_marblesIn 37 = .ok (.ifCond .eq 30, 3) := by decide +kernel
theorem dX3_marblesIn_40 : decode cX3_marblesIn 40 = .ok (.aload_n 1, 1) := by decide +kernel
theorem dX3_marblesIn_41 : decode cX3_marblesIn 41 = .ok (.aload 6, 2) := by decide +kernel
theorem dX3_marblesIn_43 : decode cX3_marblesIn 43 = .ok (.getfield 81, 3) := by decide +kernel
theorem dX3_marblesIn_46 : decode cX3_marblesIn 46 = .ok (.aload 6, 2) := by decide +kernel
theorem dX3_marblesIn_48 : decode cX3_marblesIn 48 = .ok (.getfield 84, 3) := by decide +kernel
theorem dX3_marblesIn_51 : decode cX3_marblesIn 51 = .ok (.invokevirtual 98, 3) := by decide +kernel
theorem dX3_marblesIn_54 : decode cX3_marblesIn 54 = .ok (.ifCond .eq 13, 3) := by decide +kernel
theorem dX3_marblesIn_57 : decode cX3_marblesIn 57 = .ok (.iload_n 2, 1) := by decide +kernel
theorem dX3_marblesIn_58 : decode cX3_marblesIn 58 = .ok (.iconst 1, 1) := by decide +kernel
theorem dX3_marblesIn_59 : decode cX3_marblesIn 59 = .ok (.aload 6, 2) := by decide +kernel
theorem dX3_marblesIn_61 : decode cX3_marblesIn 61 = .ok (.getfield 93, 3) := by decide +kernel
theorem dX3_marblesIn_64 : decode cX3_marblesIn 64 = .ok (.ishl, 1) := by decide +kernel
theorem dX3_marblesIn_65 : decode cX3_marblesIn 65 = .ok (.ior, 1) := by decide +kernel
theorem dX3_marblesIn_66 : decode cX3_marblesIn 66 = .ok (.istore_n 2, 1) := by decide +kernel
theorem dX3_marblesIn_67 : decode cX3_marblesIn 67 = .ok (.iinc 5 1, 3) := by decide +kernel
theorem dX3_marblesIn_70 : decode cX3_marblesIn 70 = .ok (.goto (-56), 3) := by decide +kernel
theorem dX3_marblesIn_73 : decode cX3_marblesIn 73 = .ok (.iload_n 2, 1) := by decide +kernel
theorem dX3_marblesIn_74 : decode cX3_marblesIn 74 = .ok (.ireturn, 1) := by decide +kernel
theorem dX3_pointsOf_0 : decode cX3_pointsOf 0 = .ok (.iconst 0, 1) := by decide +kernel
theorem dX3_pointsOf_1 : decode cX3_pointsOf 1 = .ok (.istore_n 2, 1) := by decide +kernel
theorem dX3_pointsOf_2 : decode cX3_pointsOf 2 = .ok (.aload_n 0, 1) := by decide +kernel
theorem dX3_pointsOf_3 : decode cX3_pointsOf 3 = .ok (.getfield 11, 3) := by decide +kernel
theorem dX3_pointsOf_6 : decode cX3_pointsOf 6 = .ok (.astore_n 3, 1) := by decide +kernel
theorem dX3_pointsOf_7 : decode cX3_pointsOf 7 = .ok (.aload_n 3, 1) := by decide +kernel
theorem dX3_pointsOf_8 : decode cX3_pointsOf 8 = .ok (.arraylength, 1) := by decide +kernel
theorem dX3_pointsOf_9 : decode cX3_pointsOf 9 = .ok (.istore 4, 2) := by decide +kernel
theorem dX3_pointsOf_11 : decode cX3_pointsOf 11 = .ok (.iconst 0, 1) := by decide +kernel
theorem dX3_pointsOf_12 : decode cX3_pointsOf 12 = .ok (.istore 5, 2) := by decide +kernel
theorem dX3_pointsOf_14 : decode cX3_pointsOf 14 = .ok (.iload 5, 2) := by decide +kernel
theorem dX3_pointsOf_16 : decode cX3_pointsOf 16 = .ok (.iload 4, 2) := by decide +kernel
theorem dX3_pointsOf_18 : decode cX3_pointsOf 18 = .ok (.if_icmp .ge 69, 3) := by decide +kernel
theorem dX3_pointsOf_21 : decode cX3_pointsOf 21 = .ok (.aload_n 3, 1) := by decide +kernel
theorem dX3_pointsOf_22 : decode cX3_pointsOf 22 = .ok (.iload 5, 2) := by decide +kernel
theorem dX3_pointsOf_24 : decode cX3_pointsOf 24 = .ok (.aaload, 1) := by decide +kernel
theorem dX3_pointsOf_25 : decode cX3_pointsOf 25 = .ok (.astore 6, 2) := by decide +kernel
theorem dX3_pointsOf_27 : decode cX3_pointsOf 27 = .ok (.aload 6, 2) := by decide +kernel
theorem dX3_pointsOf_29 : decode cX3_pointsOf 29 = .ok (.ifnull 52, 3) := by decide +kernel
theorem dX3_pointsOf_32 : decode cX3_pointsOf 32 = .ok (.aload 6, 2) := by decide +kernel
theorem dX3_pointsOf_34 : decode cX3_pointsOf 34 = .ok (.getfield 63, 3) := by decide +kernel
theorem dX3_pointsOf_37 : decode cX3_pointsOf 37 = .ok (.iconst (-1), 1) := by decide +kernel
theorem dX3_pointsOf_38 : decode cX3_pointsOf 38 = .ok (.if_icmp .ne 6, 3) := by decide +kernel
theorem dX3_pointsOf_41 : decode cX3_pointsOf 41 = .ok (.goto 40, 3) := by decide +kernel
theorem dX3_pointsOf_44 : decode cX3_pointsOf 44 = .ok (.aload 6, 2) := by decide +kernel
theorem dX3_pointsOf_46 : decode cX3_pointsOf 46 = .ok (.getfield 63, 3) := by decide +kernel
theorem dX3_pointsOf_49 : decode cX3_pointsOf 49 = .ok (.iload_n 1, 1) := by decide +kernel
theorem dX3_pointsOf_50 : decode cX3_pointsOf 50 = .ok (.if_icmp .ne 14, 3) := by decide +kernel
theorem dX3_pointsOf_53 : decode cX3_pointsOf 53 = .ok (.iload_n 2, 1) := by decide +kernel
theorem dX3_pointsOf_54 : decode cX3_pointsOf 54 = .ok (.aload 6, 2) := by decide +kernel
theorem dX3_pointsOf_56 : decode cX3_pointsOf 56 = .ok (.getfield 87, 3) := by decide +kernel
theorem dX3_pointsOf_59 : decode cX3_pointsOf 59 = .ok (.iadd, 1) := by decide +kernel
theorem dX3_pointsOf_60 : decode cX3_pointsOf 60 = .ok (.istore_n 2, 1) := by decide +kernel
theorem dX3_pointsOf_61 : decode cX3_pointsOf 61 = .ok (.goto 20, 3) := by decide +kernel
theorem dX3_pointsOf_64 : decode cX3_pointsOf 64 = .ok (.aload 6, 2) := by decide +kernel
theorem dX3_pointsOf_66 : decode cX3_pointsOf 66 = .ok (.getfield 90, 3) := by decide +kernel
theorem dX3_pointsOf_69 : decode cX3_pointsOf 69 = .ok (.iload_n 1, 1) := by decide +kernel
theorem dX3_pointsOf_70 : decode cX3_pointsOf 70 = .ok (.if_icmp .ne 11, 3) := by decide +kernel
theorem dX3_pointsOf_73 : decode cX3_pointsOf 73 = .ok (.iload_n 2, 1) := by decide +kernel
theorem dX3_pointsOf_74 : decode cX3_pointsOf 74 = .ok (.aload 6, 2) := by decide +kernel
theorem dX3_pointsOf_76 : decode cX3_pointsOf 76 = .ok (.getfield 87, 3) := by decide +kernel
theorem dX3_pointsOf_79 : decode cX3_pointsOf 79 = .ok (.isub, 1) := by decide +kernel
theorem dX3_pointsOf_80 : decode cX3_pointsOf 80 = .ok (.istore_n 2, 1) := by decide +kernel
theorem dX3_pointsOf_81 : decode cX3_pointsOf 81 = .ok (.iinc 5 1, 3) := by decide +kernel
theorem dX3_pointsOf_84 : decode cX3_pointsOf 84 = .ok (.goto (-70), 3) := by decide +kernel
theorem dX3_pointsOf_87 : decode cX3_pointsOf 87 = .ok (.iload_n 2, 1) := by decide +kernel
theorem dX3_pointsOf_88 : decode cX3_pointsOf 88 = .ok (.ireturn, 1) := by decide +kernel
theorem dX3_isOutAfter_0 : decode cX3_isOutAfter 0 = .ok (.iconst 0, 1) := by decide +kernel
theorem dX3_isOutAfter_1 : decode cX3_isOutAfter 1 = .ok (.istore_n 3, 1) := by decide +kernel
theorem dX3_isOutAfter_2 : decode cX3_isOutAfter 2 = .ok (.iload_n 3, 1) := by decide +kernel
theorem dX3_isOutAfter_3 : decode cX3_isOutAfter 3 = .ok (.getstatic 101, 3) := by decide +kernel
theorem dX3_isOutAfter_6 : decode cX3_isOutAfter 6 = .ok (.arraylength, 1) := by decide +kernel
theorem dX3_isOutAfter_7 : decode cX3_isOutAfter 7 = .ok (.if_icmp .ge 58, 3) := by decide +kernel
theorem dX3_isOutAfter_10 : decode cX3_isOutAfter 10 = .ok (.aload_n 1, 1) := by decide +kernel
theorem dX3_isOutAfter_11 : decode cX3_isOutAfter 11 = .ok (.getfield 81, 3) := by decide +kernel
theorem dX3_isOutAfter_14 : decode cX3_isOutAfter 14 = .ok (.iload_n 2, 1) := by decide +kernel
theorem dX3_isOutAfter_15 : decode cX3_isOutAfter 15 = .ok (.iload_n 3, 1) := by decide +kernel
theorem dX3_isOutAfter_16 : decode cX3_isOutAfter 16 = .ok (.invokestatic 105, 3) := by decide +kernel
theorem dX3_isOutAfter_19 : decode cX3_isOutAfter 19 = .ok (.imul, 1) := by decide +kernel
theorem dX3_isOutAfter_20 : decode cX3_isOutAfter 20 = .ok (.iadd, 1) := by decide +kernel
theorem dX3_isOutAfter_21 : decode cX3_isOutAfter 21 = .ok (.istore 4, 2) := by decide +kernel
theorem dX3_isOutAfter_23 : decode cX3_isOutAfter 23 = .ok (.aload_n 1, 1) := by decide +kernel
theorem dX3_isOutAfter_24 : decode cX3_isOutAfter 24 = .ok (.getfield 84, 3) := by decide +kernel
theorem dX3_isOutAfter_27 : decode cX3_isOutAfter 27 = .ok (.iload_n 2, 1) := by decide +kernel
theorem dX3_isOutAfter_28 : decode cX3_isOutAfter 28 = .ok (.iload_n 3, 1) := by decide +kernel
theorem dX3_isOutAfter_29 : decode cX3_isOutAfter 29 = .ok (.invokestatic 109, 3) := by decide +kernel
theorem dX3_isOutAfter_32 : decode cX3_isOutAfter 32 = .ok (.imul, 1) := by decide +kernel
theorem dX3_isOutAfter_33 : decode cX3_isOutAfter 33 = .ok (.iadd, 1) := by decide +kernel
theorem dX3_isOutAfter_34 : decode cX3_isOutAfter 34 = .ok (.istore 5, 2) := by decide +kernel
theorem dX3_isOutAfter_36 : decode cX3_isOutAfter 36 = .ok (.iload 4, 2) := by decide +kernel
theorem dX3_isOutAfter_38 : decode cX3_isOutAfter 38 = .ok (.iload 5, 2) := by decide +kernel
theorem dX3_isOutAfter_40 : decode cX3_isOutAfter 40 = .ok (.invokestatic 69, 3) := by decide +kernel
theorem dX3_isOutAfter_43 : decode cX3_isOutAfter 43 = .ok (.ifCond .eq 16, 3) := by decide +kernel
theorem dX3_isOutAfter_46 : decode cX3_isOutAfter 46 = .ok (.aload_n 0, 1) := by decide +kernel
theorem dX3_isOutAfter_47 : decode cX3_isOutAfter 47 = .ok (.iload 4, 2) := by decide +kernel
theorem dX3_isOutAfter_49 : decode cX3_isOutAfter 49 = .ok (.iload 5, 2) := by decide +kernel
theorem dX3_isOutAfter_51 : decode cX3_isOutAfter 51 = .ok (.invokevirtual 112, 3) := by decide +kernel
theorem dX3_isOutAfter_54 : decode cX3_isOutAfter 54 = .ok (.ifCond .ne 5, 3) := by decide +kernel
theorem dX3_isOutAfter_57 : decode cX3_isOutAfter 57 = .ok (.iconst 1, 1) := by decide +kernel
theorem dX3_isOutAfter_58 : decode cX3_isOutAfter 58 = .ok (.ireturn, 1) := by decide +kernel
theorem dX3_isOutAfter_59 : decode cX3_isOutAfter 59 = .ok (.iinc 3 1, 3) := by decide +kernel
theorem dX3_isOutAfter_62 : decode cX3_isOutAfter 62 = .ok (.goto (-60), 3) := by decide +kernel
theorem dX3_isOutAfter_65 : decode cX3_isOutAfter 65 = .ok (.iconst 0, 1) := by decide +kernel
theorem dX3_isOutAfter_66 : decode cX3_isOutAfter 66 = .ok (.ireturn, 1) := by decide +kernel
theorem dX3_markAhead_0 : decode cX3_markAhead 0 = .ok (.aload_n 0, 1) := by decide +kernel
theorem dX3_markAhead_1 : decode cX3_markAhead 1 = .ok (.getfield 11, 3) := by decide +kernel
theorem dX3_markAhead_4 : decode cX3_markAhead 4 = .ok (.astore_n 1, 1) := by decide +kernel
theorem dX3_markAhead_5 : decode cX3_markAhead 5 = .ok (.aload_n 1, 1) := by decide +kernel
theorem dX3_markAhead_6 : decode cX3_markAhead 6 = .ok (.arraylength, 1) := by decide +kernel
theorem dX3_markAhead_7 : decode cX3_markAhead 7 = .ok (.istore_n 2, 1) := by decide +kernel
theorem dX3_markAhead_8 : decode cX3_markAhead 8 = .ok (.iconst 0, 1) := by decide +kernel
theorem dX3_markAhead_9 : decode cX3_markAhead 9 = .ok (.istore_n 3, 1) := by decide +kernel
theorem dX3_markAhead_10 : decode cX3_markAhead 10 = .ok (.iload_n 3, 1) := by decide +kernel
theorem dX3_markAhead_11 : decode cX3_markAhead 11 = .ok (.iload_n 2, 1) := by decide +kernel
theorem dX3_markAhead_12 : decode cX3_markAhead 12 = .ok (.if_icmp .ge 56, 3) := by decide +kernel
theorem dX3_markAhead_15 : decode cX3_markAhead 15 = .ok (.aload_n 1, 1) := by decide +kernel
theorem dX3_markAhead_16 : decode cX3_markAhead 16 = .ok (.iload_n 3, 1) := by decide +kernel
theorem dX3_markAhead_17 : decode cX3_markAhead 17 = .ok (.aaload, 1) := by decide +kernel
theorem dX3_markAhead_18 : decode cX3_markAhead 18 = .ok (.astore 4, 2) := by decide +kernel
theorem dX3_markAhead_20 : decode cX3_markAhead 20 = .ok (.aload 4, 2) := by decide +kernel
theorem dX3_markAhead_22 : decode cX3_markAhead 22 = .ok (.ifnull 40, 3) := by decide +kernel
theorem dX3_markAhead_25 : decode cX3_markAhead 25 = .ok (.aload 4, 2) := by decide +kernel
theorem dX3_markAhead_27 : decode cX3_markAhead 27 = .ok (.aload 4, 2) := by decide +kernel
theorem dX3_markAhead_29 : decode cX3_markAhead 29 = .ok (.getfield 59, 3) := by decide +kernel
theorem dX3_markAhead_32 : decode cX3_markAhead 32 = .ok (.ifCond .eq 20, 3) := by decide +kernel
theorem dX3_markAhead_35 : decode cX3_markAhead 35 = .ok (.aload_n 0, 1) := by decide +kernel
theorem dX3_markAhead_36 : decode cX3_markAhead 36 = .ok (.aload 4, 2) := by decide +kernel
theorem dX3_markAhead_38 : decode cX3_markAhead 38 = .ok (.getfield 81, 3) := by decide +kernel
theorem dX3_markAhead_41 : decode cX3_markAhead 41 = .ok (.aload 4, 2) := by decide +kernel
theorem dX3_markAhead_43 : decode cX3_markAhead 43 = .ok (.getfield 84, 3) := by decide +kernel
theorem dX3_markAhead_46 : decode cX3_markAhead 46 = .ok (.invokevirtual 112, 3) := by decide +kernel
theorem dX3_markAhead_49 : decode cX3_markAhead 49 = .ok (.goto 4, 3) := by decide +kernel
theorem dX3_markAhead_52 : decode cX3_markAhead 52 = .ok (.iconst 0, 1) := by decide +kernel
theorem dX3_markAhead_53 : decode cX3_markAhead 53 = .ok (.putfield 116, 3) := by decide +kernel
theorem dX3_markAhead_56 : decode cX3_markAhead 56 = .ok (.aload 4, 2) := by decide +kernel
theorem dX3_markAhead_58 : decode cX3_markAhead 58 = .ok (.iconst 0, 1) := by decide +kernel
theorem dX3_markAhead_59 : decode cX3_markAhead 59 = .ok (.putfield 119, 3) := by decide +kernel
theorem dX3_markAhead_62 : decode cX3_markAhead 62 = .ok (.iinc 3 1, 3) := by decide +kernel
theorem dX3_markAhead_65 : decode cX3_markAhead 65 = .ok (.goto (-55), 3) := by decide +kernel
theorem dX3_markAhead_68 : decode cX3_markAhead 68 = .ok (.return_, 1) := by decide +kernel
theorem dX3_isWonBy_0 : decode cX3_isWonBy 0 = .ok (.aload_n 1, 1) := by decide +kernel
theorem dX3_isWonBy_1 : decode cX3_isWonBy 1 = .ok (.getfield 59, 3) := by decide +kernel
theorem dX3_isWonBy_4 : decode cX3_isWonBy 4 = .ok (.ifCond .eq 44, 3) := by decide +kernel
theorem dX3_isWonBy_7 : decode cX3_isWonBy 7 = .ok (.aload_n 1, 1) := by decide +kernel
theorem dX3_isWonBy_8 : decode cX3_isWonBy 8 = .ok (.getfield 119, 3) := by decide +kernel
theorem dX3_isWonBy_11 : decode cX3_isWonBy 11 = .ok (.ifCond .eq 37, 3) := by decide +kernel
theorem dX3_isWonBy_14 : decode cX3_isWonBy 14 = .ok (.aload_n 1, 1) := by decide +kernel
theorem dX3_isWonBy_15 : decode cX3_isWonBy 15 = .ok (.getfield 90, 3) := by decide +kernel
theorem dX3_isWonBy_18 : decode cX3_isWonBy 18 = .ok (.iload_n 2, 1) := by decide +kernel
theorem dX3_isWonBy_19 : decode cX3_isWonBy 19 = .ok (.if_icmp .eq 29, 3) := by decide +kernel
theorem dX3_isWonBy_22 : decode cX3_isWonBy 22 = .ok (.aload_n 1, 1) := by decide +kernel
theorem dX3_isWonBy_23 : decode cX3_isWonBy 23 = .ok (.getfield 116, 3) := by decide +kernel
theorem dX3_isWonBy_26 : decode cX3_isWonBy 26 = .ok (.ifCond .eq 22, 3) := by decide +kernel
theorem dX3_isWonBy_29 : decode cX3_isWonBy 29 = .ok (.aload_n 0, 1) := by decide +kernel
theorem dX3_isWonBy_30 : decode cX3_isWonBy 30 = .ok (.aload_n 1, 1) := by decide +kernel
theorem dX3_isWonBy_31 : decode cX3_isWonBy 31 = .ok (.getfield 81, 3) := by decide +kernel
theorem dX3_isWonBy_34 : decode cX3_isWonBy 34 = .ok (.aload_n 1, 1) := by decide +kernel
theorem dX3_isWonBy_35 : decode cX3_isWonBy 35 = .ok (.getfield 84, 3) := by decide +kernel
theorem dX3_isWonBy_38 : decode cX3_isWonBy 38 = .ok (.invokevirtual 112, 3) := by decide +kernel
theorem dX3_isWonBy_41 : decode cX3_isWonBy 41 = .ok (.ifCond .ne 7, 3) := by decide +kernel
theorem dX3_isWonBy_44 : decode cX3_isWonBy 44 = .ok (.iconst 1, 1) := by decide +kernel
theorem dX3_isWonBy_45 : decode cX3_isWonBy 45 = .ok (.goto 4, 3) := by decide +kernel
theorem dX3_isWonBy_48 : decode cX3_isWonBy 48 = .ok (.iconst 0, 1) := by decide +kernel
theorem dX3_isWonBy_49 : decode cX3_isWonBy 49 = .ok (.ireturn, 1) := by decide +kernel
theorem dX3_growRings_0 : decode cX3_growRings 0 = .ok (.iconst 0, 1) := by decide +kernel
theorem dX3_growRings_1 : decode cX3_growRings 1 = .ok (.istore_n 2, 1) := by decide +kernel
theorem dX3_growRings_2 : decode cX3_growRings 2 = .ok (.iload_n 2, 1) := by decide +kernel
theorem dX3_growRings_3 : decode cX3_growRings 3 = .ok (.aload_n 0, 1) := by decide +kernel
theorem dX3_growRings_4 : decode cX3_growRings 4 = .ok (.getfield 22, 3) := by decide +kernel
theorem dX3_growRings_7 : decode cX3_growRings 7 = .ok (.arraylength, 1) := by decide +kernel
theorem dX3_growRings_8 : decode cX3_growRings 8 = .ok (.if_icmp .ge 58, 3) := by decide +kernel
theorem dX3_growRings_11 : decode cX3_growRings 11 = .ok (.aload_n 0, 1) := by decide +kernel
theorem dX3_growRings_12 : decode cX3_growRings 12 = .ok (.getfield 22, 3) := by decide +kernel
theorem dX3_growRings_15 : decode cX3_growRings 15 = .ok (.iload_n 2, 1) := by decide +kernel
theorem dX3_growRings_16 : decode cX3_growRings 16 = .ok (.aaload, 1) := by decide +kernel
theorem dX3_growRings_17 : decode cX3_growRings 17 = .ok (.astore_n 3, 1) := by decide +kernel
theorem dX3_growRings_18 : decode cX3_growRings 18 = .ok (.aload_n 3, 1) := by decide +kernel
theorem dX3_growRings_19 : decode cX3_growRings 19 = .ok (.ifnull 41, 3) := by decide +kernel
theorem dX3_growRings_22 : decode cX3_growRings 22 = .ok (.iload_n 1, 1) := by decide +kernel
theorem dX3_growRings_23 : decode cX3_growRings 23 = .ok (.iload_n 2, 1) := by decide +kernel
theorem dX3_growRings_24 : decode cX3_growRings 24 = .ok (.ishr, 1) := by decide +kernel
theorem dX3_growRings_25 : decode cX3_growRings 25 = .ok (.iconst 1, 1) := by decide +kernel
theorem dX3_growRings_26 : decode cX3_growRings 26 = .ok (.iand, 1) := by decide +kernel
theorem dX3_growRings_27 : decode cX3_growRings 27 = .ok (.iconst 1, 1) := by decide +kernel
theorem dX3_growRings_28 : decode cX3_growRings 28 = .ok (.if_icmp .ne 32, 3) := by decide +kernel
theorem dX3_growRings_31 : decode cX3_growRings 31 = .ok (.aload_n 3, 1) := by decide +kernel
theorem dX3_growRings_32 : decode cX3_growRings 32 = .ok (.getfield 66, 3) := by decide +kernel
theorem dX3_growRings_35 : decode cX3_growRings 35 = .ok (.bipush 15, 2) := by decide +kernel
theorem dX3_growRings_37 : decode cX3_growRings 37 = .ok (.if_icmp .ge 23, 3) := by decide +kernel
theorem dX3_growRings_40 : decode cX3_growRings 40 = .ok (.aload_n 3, 1) := by decide +kernel
theorem dX3_growRings_41 : decode cX3_growRings 41 = .ok (.dup, 1) := by decide +kernel
theorem dX3_growRings_42 : decode cX3_growRings 42 = .ok (.getfield 66, 3) := by decide +kernel
theorem dX3_growRings_45 : decode cX3_growRings 45 = .ok (.iconst 1, 1) := by decide +kernel
theorem dX3_growRings_46 : decode cX3_growRings 46 = .ok (.iadd, 1) := by decide +kernel
theorem dX3_growRings_47 : decode cX3_growRings 47 = .ok (.putfield 66, 3) := by decide +kernel
theorem dX3_growRings_50 : decode cX3_growRings 50 = .ok (.aload_n 0, 1) := by decide +kernel
theorem dX3_growRings_51 : decode cX3_growRings 51 = .ok (.dup, 1) := by decide +kernel
theorem dX3_growRings_52 : decode cX3_growRings 52 = .ok (.getfield 53, 3) := by decide +kernel
theorem dX3_growRings_55 : decode cX3_growRings 55 = .ok (.iconst 1, 1) := by decide +kernel
theorem dX3_growRings_56 : decode cX3_growRings 56 = .ok (.iadd, 1) := by decide +kernel
theorem dX3_growRings_57 : decode cX3_growRings 57 = .ok (.putfield 53, 3) := by decide +kernel
theorem dX3_growRings_60 : decode cX3_growRings 60 = .ok (.iinc 2 1, 3) := by decide +kernel
theorem dX3_growRings_63 : decode cX3_growRings 63 = .ok (.goto (-61), 3) := by decide +kernel
theorem dX3_growRings_66 : decode cX3_growRings 66 = .ok (.return_, 1) := by decide +kernel
theorem dX4_init_0 : decode cX4_init 0 = .ok (.aload_n 0, 1) := by decide +kernel
theorem dX4_init_1 : decode cX4_init 1 = .ok (.invokespecial 3, 3) := by decide +kernel
theorem dX4_init_4 : decode cX4_init 4 = .ok (.return_, 1) := by decide +kernel
theorem dX4_copyFrom_0 : decode cX4_copyFrom 0 = .ok (.aload_n 0, 1) := by decide +kernel
theorem dX4_copyFrom_1 : decode cX4_copyFrom 1 = .ok (.aload_n 1, 1) := by decide +kernel
theorem dX4_copyFrom_2 : decode cX4_copyFrom 2 = .ok (.getfield 9, 3) := by decide +kernel
theorem dX4_copyFrom_5 : decode cX4_copyFrom 5 = .ok (.putfield 9, 3) := by decide +kernel
theorem dX4_copyFrom_8 : decode cX4_copyFrom 8 = .ok (.aload_n 0, 1) := by decide +kernel
theorem dX4_copyFrom_9 : decode cX4_copyFrom 9 = .ok (.aload_n 1, 1) := by decide +kernel
theorem dX4_copyFrom_10 : decode cX4_copyFrom 10 = .ok (.getfield 15, 3) := by decide +kernel
theorem dX4_copyFrom_13 : decode cX4_copyFrom 13 = .ok (.putfield 15, 3) := by decide +kernel
theorem dX4_copyFrom_16 : decode cX4_copyFrom 16 = .ok (.aload_n 0, 1) := by decide +kernel
theorem dX4_copyFrom_17 : decode cX4_copyFrom 17 = .ok (.aload_n 1, 1) := by decide +kernel
theorem dX4_copyFrom_18 : decode cX4_copyFrom 18 = .ok (.getfield 18, 3) := by decide +kernel
theorem dX4_copyFrom_21 : decode cX4_copyFrom 21 = .ok (.putfield 18, 3) := by decide +kernel
theorem dX4_copyFrom_24 : decode cX4_copyFrom 24 = .ok (.return_, 1) := by decide +kernel
theorem dX4_holds_0 : decode cX4_holds 0 = .ok (.iload_n 1, 1) := by decide +kernel
theorem dX4_holds_1 : decode cX4_holds 1 = .ok (.aload_n 0, 1) := by decide +kernel
theorem dX4_holds_2 : decode cX4_holds 2 = .ok (.getfield 9, 3) := by decide +kernel
theorem dX4_holds_5 : decode cX4_holds 5 = .ok (.isub, 1) := by decide +kernel
theorem dX4_holds_6 : decode cX4_holds 6 = .ok (.istore_n 3, 1) := by decide +kernel
theorem dX4_holds_7 : decode cX4_holds 7 = .ok (.iload_n 2, 1) := by decide +kernel
theorem dX4_holds_8 : decode cX4_holds 8 = .ok (.aload_n 0, 1) := by decide +kernel
theorem dX4_holds_9 : decode cX4_holds 9 = .ok (.getfield 15, 3) := by decide +kernel
theorem dX4_holds_12 : decode cX4_holds 12 = .ok (.isub, 1) := by decide +kernel
theorem dX4_holds_13 : decode cX4_holds 13 = .ok (.istore 4, 2) := by decide +kernel
theorem dX4_holds_15 : decode cX4_holds 15 = .ok (.aload_n 0, 1) := by decide +kernel
theorem dX4_holds_16 : decode cX4_holds 16 = .ok (.getfield 18, 3) := by decide +kernel
theorem dX4_holds_19 : decode cX4_holds 19 = .ok (.ifCond .le 28, 3) := by decide +kernel
theorem dX4_holds_22 : decode cX4_holds 22 = .ok (.iload_n 3, 1) := by decide +kernel
theorem dX4_holds_23 : decode cX4_holds 23 = .ok (.iload_n 3, 1) := by decide +kernel
theorem dX4_holds_24 : decode cX4_holds 24 = .ok (.imul, 1) := by decide +kernel
theorem dX4_holds_25 : decode cX4_holds 25 = .ok (.iload 4, 2) := by decide +kernel
theorem dX4_holds_27 : decode cX4_holds 27 = .ok (.iload 4, 2) := by decide +kernel
theorem dX4_holds_29 : decode cX4_holds 29 = .ok (.imul, 1) := by decide +kernel
theorem dX4_holds_30 : decode cX4_holds 30 = .ok (.iadd, 1) := by decide +kernel
theorem dX4_holds_31 : decode cX4_holds 31 = .ok (.aload_n 0, 1) := by decide +kernel
theorem dX4_holds_32 : decode cX4_holds 32 = .ok (.getfield 18, 3) := by decide +kernel
theorem dX4_holds_35 : decode cX4_holds 35 = .ok (.aload_n 0, 1) := by decide +kernel
theorem dX4_holds_36 : decode cX4_holds 36 = .ok (.getfield 18, 3) := by decide +kernel
theorem dX4_holds_39 : decode cX4_holds 39 = .ok (.imul, 1) := by decide +kernel
theorem dX4_holds_40 : decode cX4_holds 40 = .ok (.if_icmp .gt 7, 3) := by decide +kernel
theorem dX4_holds_43 : decode cX4_holds 43 = .ok (.iconst 1, 1) := by decide +kernel
theorem dX4_holds_44 : decode cX4_holds 44 = .ok (.goto 4, 3) := by decide +kernel
theorem dX4_holds_47 : decode cX4_holds 47 = .ok (.iconst 0, 1) := by decide +kernel
theorem dX4_holds_48 : decode cX4_holds 48 = .ok (.ireturn, 1) := by decide +kernel
theorem dX4_pointsInside_0 : decode cX4_pointsInside 0 = .ok (.iconst 0, 1) := by decide +kernel
theorem dX4_pointsInside_1 : decode cX4_pointsInside 1 = .ok (.istore_n 1, 1) := by decide +kernel
theorem dX4_pointsInside_2 : decode cX4_pointsInside 2 = .ok (.iconst 0, 1) := by decide +kernel
theorem dX4_pointsInside_3 : decode cX4_pointsInside 3 = .ok (.istore_n 2, 1) := by decide +kernel
theorem dX4_pointsInside_4 : decode cX4_pointsInside 4 = .ok (.iload_n 2, 1) := by decide +kernel
theorem dX4_pointsInside_5 : decode cX4_pointsInside 5 = .ok (.bipush 30, 2) := by decide +kernel
theorem dX4_pointsInside_7 : decode cX4_pointsInside 7 = .ok (.if_icmp .gt 35, 3) := by decide +kernel
theorem dX4_pointsInside_10 : decode cX4_pointsInside 10 = .ok (.iconst 0, 1) := by decide +kernel
theorem dX4_pointsInside_11 : decode cX4_pointsInside 11 = .ok (.istore_n 3, 1) := by decide +kernel
theorem dX4_pointsInside_12 : decode cX4_pointsInside 12 = .ok (.iload_n 3, 1) := by decide +kernel
theorem dX4_pointsInside_13 : decode cX4_pointsInside 13 = .ok (.bipush 30, 2) := by decide +kernel
theorem dX4_pointsInside_15 : decode cX4_pointsInside 15 = .ok (.if_icmp .gt 21, 3) := by decide +kernel
theorem dX4_pointsInside_18 : decode cX4_pointsInside 18 = .ok (.aload_n 0, 1) := by decide +kernel
theorem dX4_pointsInside_19 : decode cX4_pointsInside 19 = .ok (.iload_n 2, 1) := by decide +kernel
theorem dX4_pointsInside_20 : decode cX4_pointsInside 20 = .ok (.iload_n 3, 1) := by decide +kernel
theorem dX4_pointsInside_21 : decode cX4_pointsInside 21 = .ok (.invokevirtual 21, 3) := by decide +kernel
theorem dX4_pointsInside_24 : decode cX4_pointsInside 24 = .ok (.ifCond .eq 6, 3) := by decide +kernel
theorem dX4_pointsInside_27 : decode cX4_pointsInside 27 = .ok (.iinc 1 1, 3) := by decide +kernel
theorem dX4_pointsInside_30 : decode cX4_pointsInside 30 = .ok (.iinc 3 1, 3) := by decide +kernel
theorem dX4_pointsInside_33 : decode cX4_pointsInside 33 = .ok (.goto (-21), 3) := by decide +kernel
theorem dX4_pointsInside_36 : decode cX4_pointsInside 36 = .ok (.iinc 2 1, 3) := by decide +kernel
theorem dX4_pointsInside_39 : decode cX4_pointsInside 39 = .ok (.goto (-35), 3) := by decide +kernel
theorem dX4_pointsInside_42 : decode cX4_pointsInside 42 = .ok (.iload_n 1, 1) := by decide +kernel
theorem dX4_pointsInside_43 : decode cX4_pointsInside 43 = .ok (.ireturn, 1) := by decide +kernel
theorem dX5_init_0 : decode cX5_init 0 = .ok (.aload_n 0, 1) := by decide +kernel
theorem dX5_init_1 : decode cX5_init 1 = .ok (.invokespecial 3, 3) := by decide +kernel
theorem dX5_init_4 : decode cX5_init 4 = .ok (.return_, 1) := by decide +kernel
theorem dX5_play_0 : decode cX5_play 0 = .ok (.aload_n 0, 1) := by decide +kernel
theorem dX5_play_1 : decode cX5_play 1 = .ok (.iconst 0, 1) := by decide +kernel
theorem dX5_play_2 : decode cX5_play 2 = .ok (.putfield 9, 3) := by decide +kernel
theorem dX5_play_5 : decode cX5_play 5 = .ok (.aload_n 0, 1) := by decide +kernel
theorem dX5_play_6 : decode cX5_play 6 = .ok (.iconst 0, 1) := by decide +kernel
theorem dX5_play_7 : decode cX5_play 7 = .ok (.putfield 15, 3) := by decide +kernel
theorem dX5_play_10 : decode cX5_play 10 = .ok (.aload_n 0, 1) := by decide +kernel
theorem dX5_play_11 : decode cX5_play 11 = .ok (.iconst 0, 1) := by decide +kernel
theorem dX5_play_12 : decode cX5_play 12 = .ok (.putfield 18, 3) := by decide +kernel
theorem dX5_play_15 : decode cX5_play 15 = .ok (.aload_n 0, 1) := by decide +kernel
theorem dX5_play_16 : decode cX5_play 16 = .ok (.iconst 0, 1) := by decide +kernel
theorem dX5_play_17 : decode cX5_play 17 = .ok (.putfield 21, 3) := by decide +kernel
theorem dX5_play_20 : decode cX5_play 20 = .ok (.aload_n 0, 1) := by decide +kernel
theorem dX5_play_21 : decode cX5_play 21 = .ok (.iload 4, 2) := by decide +kernel
theorem dX5_play_23 : decode cX5_play 23 = .ok (.putfield 24, 3) := by decide +kernel
theorem dX5_play_26 : decode cX5_play 26 = .ok (.aload_n 0, 1) := by decide +kernel
theorem dX5_play_27 : decode cX5_play 27 = .ok (.iload_n 3, 1) := by decide +kernel
theorem dX5_play_28 : decode cX5_play 28 = .ok (.invokestatic 27, 3) := by decide +kernel
theorem dX5_play_31 : decode cX5_play 31 = .ok (.putfield 31, 3) := by decide +kernel
theorem dX5_play_34 : decode cX5_play 34 = .ok (.aload_n 0, 1) := by decide +kernel
theorem dX5_play_35 : decode cX5_play 35 = .ok (.iload_n 3, 1) := by decide +kernel
theorem dX5_play_36 : decode cX5_play 36 = .ok (.invokestatic 34, 3) := by decide +kernel
theorem dX5_play_39 : decode cX5_play 39 = .ok (.putfield 37, 3) := by decide +kernel
theorem dX5_play_42 : decode cX5_play 42 = .ok (.aload_n 1, 1) := by decide +kernel
theorem dX5_play_43 : decode cX5_play 43 = .ok (.iload_n 2, 1) := by decide +kernel
theorem dX5_play_44 : decode cX5_play 44 = .ok (.invokevirtual 40, 3) := by decide +kernel
theorem dX5_play_47 : decode cX5_play 47 = .ok (.astore 5, 2) := by decide +kernel
theorem dX5_play_49 : decode cX5_play 49 = .ok (.aload 5, 2) := by decide +kernel
theorem dX5_play_51 : decode cX5_play 51 = .ok (.ifnonnull 4, 3) := by decide +kernel
theorem dX5_play_54 : decode cX5_play 54 = .ok (.return_, 1) := by decide +kernel
theorem dX5_play_55 : decode cX5_play 55 = .ok (.aload_n 1, 1) := by decide +kernel
theorem dX5_play_56 : decode cX5_play 56 = .ok (.invokevirtual 46, 3) := by decide +kernel
theorem dX5_play_59 : decode cX5_play 59 = .ok (.aload_n 0, 1) := by decide +kernel
theorem dX5_play_60 : decode cX5_play 60 = .ok (.aload_n 1, 1) := by decide +kernel
theorem dX5_play_61 : decode cX5_play 61 = .ok (.aload 5, 2) := by decide +kernel
theorem dX5_play_63 : decode cX5_play 63 = .ok (.invokevirtual 49, 3) := by decide +kernel
theorem dX5_play_66 : decode cX5_play 66 = .ok (.aload_n 0, 1) := by decide +kernel
theorem dX5_play_67 : decode cX5_play 67 = .ok (.aload_n 1, 1) := by decide +kernel
theorem dX5_play_68 : decode cX5_play 68 = .ok (.aload 5, 2) := by decide +kernel
theorem dX5_play_70 : decode cX5_play 70 = .ok (.getfield 53, 3) := by decide +kernel
theorem dX5_play_73 : decode cX5_play 73 = .ok (.invokevirtual 58, 3) := by decide +kernel
theorem dX5_play_76 : decode cX5_play 76 = .ok (.aload_n 1, 1) := by decide +kernel
theorem dX5_play_77 : decode cX5_play 77 = .ok (.dup, 1) := by decide +kernel
theorem dX5_play_78 : decode cX5_play 78 = .ok (.getfield 62, 3) := by decide +kernel
theorem dX5_play_81 : decode cX5_play 81 = .ok (.iconst 1, 1) := by decide +kernel
theorem dX5_play_82 : decode cX5_play 82 = .ok (.iadd, 1) := by decide +kernel
theorem dX5_play_83 : decode cX5_play 83 = .ok (.putfield 62, 3) := by decide +kernel
theorem dX5_play_86 : decode cX5_play 86 = .ok (.aload_n 1, 1) := by decide +kernel
theorem dX5_play_87 : decode cX5_play 87 = .ok (.dup, 1) := by decide +kernel
theorem dX5_play_88 : decode cX5_play 88 = .ok (.getfield 65, 3) := by decide +kernel
theorem dX5_play_91 : decode cX5_play 91 = .ok (.aload_n 0, 1) := by decide +kernel
theorem dX5_play_92 : decode cX5_play 92 = .ok (.getfield 18, 3) := by decide +kernel
theorem dX5_play_95 : decode cX5_play 95 = .ok (.iadd, 1) := by decide +kernel
theorem dX5_play_96 : decode cX5_play 96 = .ok (.putfield 65, 3) := by decide +kernel
theorem dX5_play_99 : decode cX5_play 99 = .ok (.aload_n 1, 1) := by decide +kernel
theorem dX5_play_100 : decode cX5_play 100 = .ok (.dup, 1) := by decide +kernel
theorem dX5_play_101 : decode cX5_play 101 = .ok (.getfield 66, 3) := by decide +kernel
theorem dX5_play_104 : decode cX5_play 104 = .ok (.aload_n 0, 1) := by decide +kernel
theorem dX5_play_105 : decode cX5_play 105 = .ok (.getfield 21, 3) := by decide +kernel
theorem dX5_play_108 : decode cX5_play 108 = .ok (.iadd, 1) := by decide +kernel
theorem dX5_play_109 : decode cX5_play 109 = .ok (.putfield 66, 3) := by decide +kernel
theorem dX5_play_112 : decode cX5_play 112 = .ok (.aload_n 1, 1) := by decide +kernel
theorem dX5_play_113 : decode cX5_play 113 = .ok (.dup, 1) := by decide +kernel
theorem dX5_play_114 : decode cX5_play 114 = .ok (.getfield 67, 3) := by decide +kernel
theorem dX5_play_117 : decode cX5_play 117 = .ok (.aload_n 0, 1) := by decide +kernel
theorem dX5_play_118 : decode cX5_play 118 = .ok (.getfield 9, 3) := by decide +kernel
theorem dX5_play_121 : decode cX5_play 121 = .ok (.iadd, 1) := by decide +kernel
theorem dX5_play_122 : decode cX5_play 122 = .ok (.putfield 67, 3) := by decide +kernel
theorem dX5_play_125 : decode cX5_play 125 = .ok (.aload_n 0, 1) := by decide +kernel
theorem dX5_play_126 : decode cX5_play 126 = .ok (.getfield 9, 3) := by decide +kernel
theorem dX5_play_129 : decode cX5_play 129 = .ok (.ifCond .ne 7, 3) := by decide +kernel
theorem dX5_play_132 : decode cX5_play 132 = .ok (.aload_n 1, 1) := by decide +kernel
theorem dX5_play_133 : decode cX5_play 133 = .ok (.invokevirtual 68, 3) := by decide +kernel
theorem dX5_play_136 : decode cX5_play 136 = .ok (.return_, 1) := by decide +kernel
theorem dX5_rollAll_0 : decode cX5_rollAll 0 = .ok (.aload_n 2, 1) := by decide +kernel
theorem dX5_rollAll_1 : decode cX5_rollAll 1 = .ok (.astore_n 3, 1) := by decide +kernel
theorem dX5_rollAll_2 : decode cX5_rollAll 2 = .ok (.iconst 0, 1) := by decide +kernel
theorem dX5_rollAll_3 : decode cX5_rollAll 3 = .ok (.istore 4, 2) := by decide +kernel
theorem dX5_rollAll_5 : decode cX5_rollAll 5 = .ok (.iload 4, 2) := by decide +kernel
theorem dX5_rollAll_7 : decode cX5_rollAll 7 = .ok (.bipush 60, 2) := by decide +kernel
theorem dX5_rollAll_9 : decode cX5_rollAll 9 = .ok (.if_icmp .ge 61, 3) := by decide +kernel
theorem dX5_rollAll_12 : decode cX5_rollAll 12 = .ok (.aload_n 0, 1) := by decide +kernel
theorem dX5_rollAll_13 : decode cX5_rollAll 13 = .ok (.aload_n 1, 1) := by decide +kernel
theorem dX5_rollAll_14 : decode cX5_rollAll 14 = .ok (.aload_n 3, 1) := by decide +kernel
theorem dX5_rollAll_15 : decode cX5_rollAll 15 = .ok (.invokevirtual 71, 3) := by decide +kernel
theorem dX5_rollAll_18 : decode cX5_rollAll 18 = .ok (.astore 5, 2) := by decide +kernel
theorem dX5_rollAll_20 : decode cX5_rollAll 20 = .ok (.aload 5, 2) := by decide +kernel
theorem dX5_rollAll_22 : decode cX5_rollAll 22 = .ok (.ifnonnull 6, 3) := by decide +kernel
theorem dX5_rollAll_25 : decode cX5_rollAll 25 = .ok (.goto 45, 3) := by decide +kernel
theorem dX5_rollAll_28 : decode cX5_rollAll 28 = .ok (.aload_n 0, 1) := by decide +kernel
theorem dX5_rollAll_29 : decode cX5_rollAll 29 = .ok (.dup, 1) := by decide +kernel
theorem dX5_rollAll_30 : decode cX5_rollAll 30 = .ok (.getfield 18, 3) := by decide +kernel
theorem dX5_rollAll_33 : decode cX5_rollAll 33 = .ok (.iconst 1, 1) := by decide +kernel
theorem dX5_rollAll_34 : decode cX5_rollAll 34 = .ok (.iadd, 1) := by decide +kernel
theorem dX5_rollAll_35 : decode cX5_rollAll 35 = .ok (.putfield 18, 3) := by decide +kernel
theorem dX5_rollAll_38 : decode cX5_rollAll 38 = .ok (.aload 5, 2) := by decide +kernel
theorem dX5_rollAll_40 : decode cX5_rollAll 40 = .ok (.iconst 1, 1) := by decide +kernel
theorem dX5_rollAll_41 : decode cX5_rollAll 41 = .ok (.putfield 75, 3) := by decide +kernel
theorem dX5_rollAll_44 : decode cX5_rollAll 44 = .ok (.aload_n 0, 1) := by decide +kernel
theorem dX5_rollAll_45 : decode cX5_rollAll 45 = .ok (.aload_n 0, 1) := by decide +kernel
theorem dX5_rollAll_46 : decode cX5_rollAll 46 = .ok (.aload_n 3, 1) := by decide +kernel
theorem dX5_rollAll_47 : decode cX5_rollAll 47 = .ok (.getfield 79, 3) := by decide +kernel
theorem dX5_rollAll_50 : decode cX5_rollAll 50 = .ok (.aload 5, 2) := by decide +kernel
theorem dX5_rollAll_52 : decode cX5_rollAll 52 = .ok (.getfield 79, 3) := by decide +kernel
theorem dX5_rollAll_55 : decode cX5_rollAll 55 = .ok (.invokevirtual 82, 3) := by decide +kernel
theorem dX5_rollAll_58 : decode cX5_rollAll 58 = .ok (.putfield 24, 3) := by decide +kernel
theorem dX5_rollAll_61 : decode cX5_rollAll 61 = .ok (.aload 5, 2) := by decide +kernel
theorem dX5_rollAll_63 : decode cX5_rollAll 63 = .ok (.astore_n 3, 1) := by decide +kernel
theorem dX5_rollAll_64 : decode cX5_rollAll 64 = .ok (.iinc 4 1, 3) := by decide +kernel
theorem dX5_rollAll_67 : decode cX5_rollAll 67 = .ok (.goto (-62), 3) := by decide +kernel
theorem dX5_rollAll_70 : decode cX5_rollAll 70 = .ok (.aload_n 0, 1) := by decide +kernel
theorem dX5_rollAll_71 : decode cX5_rollAll 71 = .ok (.aload_n 3, 1) := by decide +kernel
theorem dX5_rollAll_72 : decode cX5_rollAll 72 = .ok (.getfield 86, 3) := by decide +kernel
theorem dX5_rollAll_75 : decode cX5_rollAll 75 = .ok (.putfield 89, 3) := by decide +kernel
theorem dX5_rollAll_78 : decode cX5_rollAll 78 = .ok (.aload_n 0, 1) := by decide +kernel
theorem dX5_rollAll_79 : decode cX5_rollAll 79 = .ok (.aload_n 3, 1) := by decide +kernel
theorem dX5_rollAll_80 : decode cX5_rollAll 80 = .ok (.getfield 92, 3) := by decide +kernel
theorem dX5_rollAll_83 : decode cX5_rollAll 83 = .ok (.putfield 95, 3) := by decide +kernel
theorem dX5_rollAll_86 : decode cX5_rollAll 86 = .ok (.aload_n 0, 1) := by decide +kernel
theorem dX5_rollAll_87 : decode cX5_rollAll 87 = .ok (.aload_n 3, 1) := by decide +kernel
theorem dX5_rollAll_88 : decode cX5_rollAll 88 = .ok (.getfield 98, 3) := by decide +kernel
theorem dX5_rollAll_91 : decode cX5_rollAll 91 = .ok (.putfield 101, 3) := by decide +kernel
theorem dX5_rollAll_94 : decode cX5_rollAll 94 = .ok (.return_, 1) := by decide +kernel
theorem dX5_rollToHit_0 : decode cX5_rollToHit 0 = .ok (.aload_n 1, 1) := by decide +kernel
theorem dX5_rollToHit_1 : decode cX5_rollToHit 1 = .ok (.aload_n 2, 1) := by decide +kernel
theorem dX5_rollToHit_2 : decode cX5_rollToHit 2 = .ok (.getfield 92, 3) := by decide +kernel
theorem dX5_rollToHit_5 : decode cX5_rollToHit 5 = .ok (.aload_n 2, 1) := by decide +kernel
theorem dX5_rollToHit_6 : decode cX5_rollToHit 6 = .ok (.getfield 98, 3) := by decide +kernel
theorem dX5_rollToHit_9 : decode cX5_rollToHit 9 = .ok (.invokevirtual 104, 3) := by decide +kernel
theorem dX5_rollToHit_12 : decode cX5_rollToHit 12 = .ok (.istore_n 3, 1) := by decide +kernel
theorem dX5_rollToHit_13 : decode cX5_rollToHit 13 = .ok (.iconst 0, 1) := by decide +kernel
theorem dX5_rollToHit_14 : decode cX5_rollToHit 14 = .ok (.istore 4, 2) := by decide +kernel
theorem dX5_rollToHit_16 : decode cX5_rollToHit 16 = .ok (.iload 4, 2) := by decide +kernel
theorem dX5_rollToHit_18 : decode cX5_rollToHit 18 = .ok (.bipush 40, 2) := by decide +kernel
theorem dX5_rollToHit_20 : decode cX5_rollToHit 20 = .ok (.if_icmp .ge 109, 3) := by decide +kernel
theorem dX5_rollToHit_23 : decode cX5_rollToHit 23 = .ok (.aload_n 0, 1) := by decide +kernel
theorem dX5_rollToHit_24 : decode cX5_rollToHit 24 = .ok (.getfield 24, 3) := by decide +kernel
theorem dX5_rollToHit_27 : decode cX5_rollToHit 27 = .ok (.iconst 1, 1) := by decide +kernel
theorem dX5_rollToHit_28 : decode cX5_rollToHit 28 = .ok (.if_icmp .lt 101, 3) := by decide +kernel
theorem dX5_rollToHit_31 : decode cX5_rollToHit 31 = .ok (.aload_n 0, 1) := by decide +kernel
theorem dX5_rollToHit_32 : decode cX5_rollToHit 32 = .ok (.aload_n 2, 1) := by decide +kernel
theorem dX5_rollToHit_33 : decode cX5_rollToHit 33 = .ok (.invokevirtual 107, 3) := by decide +kernel
theorem dX5_rollToHit_36 : decode cX5_rollToHit 36 = .ok (.aload_n 2, 1) := by decide +kernel
theorem dX5_rollToHit_37 : decode cX5_rollToHit 37 = .ok (.getfield 92, 3) := by decide +kernel
theorem dX5_rollToHit_40 : decode cX5_rollToHit 40 = .ok (.aload_n 0, 1) := by decide +kernel
theorem dX5_rollToHit_41 : decode cX5_rollToHit 41 = .ok (.getfield 31, 3) := by decide +kernel
theorem dX5_rollToHit_44 : decode cX5_rollToHit 44 = .ok (.iadd, 1) := by decide +kernel
theorem dX5_rollToHit_45 : decode cX5_rollToHit 45 = .ok (.istore 5, 2) := by decide +kernel
theorem dX5_rollToHit_47 : decode cX5_rollToHit 47 = .ok (.aload_n 2, 1) := by decide +kernel
theorem dX5_rollToHit_48 : decode cX5_rollToHit 48 = .ok (.getfield 98, 3) := by decide +kernel
theorem dX5_rollToHit_51 : decode cX5_rollToHit 51 = .ok (.aload_n 0, 1) := by decide +kernel
theorem dX5_rollToHit_52 : decode cX5_rollToHit 52 = .ok (.getfield 37, 3) := by decide +kernel
theorem dX5_rollToHit_55 : decode cX5_rollToHit 55 = .ok (.iadd, 1) := by decide +kernel
theorem dX5_rollToHit_56 : decode cX5_rollToHit 56 = .ok (.istore 6, 2) := by decide +kernel
theorem dX5_rollToHit_58 : decode cX5_rollToHit 58 = .ok (.aload_n 1, 1) := by decide +kernel
theorem dX5_rollToHit_59 : decode cX5_rollToHit 59 = .ok (.iload 5, 2) := by decide +kernel
theorem dX5_rollToHit_61 : decode cX5_rollToHit 61 = .ok (.iload 6, 2) := by decide +kernel
theorem dX5_rollToHit_63 : decode cX5_rollToHit 63 = .ok (.invokevirtual 111, 3) := by decide +kernel
theorem dX5_rollToHit_66 : decode cX5_rollToHit 66 = .ok (.astore 7, 2) := by decide +kernel
theorem dX5_rollToHit_68 : decode cX5_rollToHit 68 = .ok (.aload 7, 2) := by decide +kernel
theorem dX5_rollToHit_70 : decode cX5_rollToHit 70 = .ok (.ifnull 6, 3) := by decide +kernel
theorem dX5_rollToHit_73 : decode cX5_rollToHit 73 = .ok (.aload 7, 2) := by decide +kernel
theorem dX5_rollToHit_75 : decode cX5_rollToHit 75 = .ok (.areturn, 1) := by decide +kernel
theorem dX5_rollToHit_76 : decode cX5_rollToHit 76 = .ok (.aload_n 1, 1) := by decide +kernel
theorem dX5_rollToHit_77 : decode cX5_rollToHit 77 = .ok (.iload 5, 2) := by decide +kernel
theorem dX5_rollToHit_79 : decode cX5_rollToHit 79 = .ok (.iload 6, 2) := by decide +kernel
theorem dX5_rollToHit_81 : decode cX5_rollToHit 81 = .ok (.invokevirtual 104, 3) := by decide +kernel
theorem dX5_rollToHit_84 : decode cX5_rollToHit 84 = .ok (.istore 8, 2) := by decide +kernel
theorem dX5_rollToHit_86 : decode cX5_rollToHit 86 = .ok (.aload_n 0, 1) := by decide +kernel
theorem dX5_rollToHit_87 : decode cX5_rollToHit 87 = .ok (.iconst 0, 1) := by decide +kernel
theorem dX5_rollToHit_88 : decode cX5_rollToHit 88 = .ok (.aload_n 0, 1) := by decide +kernel
theorem dX5_rollToHit_89 : decode cX5_rollToHit 89 = .ok (.getfield 24, 3) := by decide +kernel
theorem dX5_rollToHit_92 : decode cX5_rollToHit 92 = .ok (.iconst 1, 1) := by decide +kernel
theorem dX5_rollToHit_93 : decode cX5_rollToHit 93 = .ok (.isub, 1) := by decide +kernel
theorem dX5_rollToHit_94 : decode cX5_rollToHit 94 = .ok (.iload_n 3, 1) := by decide +kernel
theorem dX5_rollToHit_95 : decode cX5_rollToHit 95 = .ok (.iload 8, 2) := by decide +kernel
theorem dX5_rollToHit_97 : decode cX5_rollToHit 97 = .ok (.ixor, 1) := by decide +kernel
theorem dX5_rollToHit_98 : decode cX5_rollToHit 98 = .ok (.invokestatic 115, 3) := by decide +kernel
theorem dX5_rollToHit_101 : decode cX5_rollToHit 101 = .ok (.isub, 1) := by decide +kernel
theorem dX5_rollToHit_102 : decode cX5_rollToHit 102 = .ok (.invokestatic 120, 3) := by decide +kernel
theorem dX5_rollToHit_105 : decode cX5_rollToHit 105 = .ok (.putfield 24, 3) := by decide +kernel
theorem dX5_rollToHit_108 : decode cX5_rollToHit 108 = .ok (.iload 8, 2) := by decide +kernel
theorem dX5_rollToHit_110 : decode cX5_rollToHit 110 = .ok (.istore_n 3, 1) := by decide +kernel
theorem dX5_rollToHit_111 : decode cX5_rollToHit 111 = .ok (.aload_n 2, 1) := by decide +kernel
theorem dX5_rollToHit_112 : decode cX5_rollToHit 112 = .ok (.iload 5, 2) := by decide +kernel
theorem dX5_rollToHit_114 : decode cX5_rollToHit 114 = .ok (.putfield 92, 3) := by decide +kernel
theorem dX5_rollToHit_117 : decode cX5_rollToHit 117 = .ok (.aload_n 2, 1) := by decide +kernel
theorem dX5_rollToHit_118 : decode cX5_rollToHit 118 = .ok (.iload 6, 2) := by decide +kernel
theorem dX5_rollToHit_120 : decode cX5_rollToHit 120 = .ok (.putfield 98, 3) := by decide +kernel
theorem dX5_rollToHit_123 : decode cX5_rollToHit 123 = .ok (.iinc 4 1, 3) := by decide +kernel
theorem dX5_rollToHit_126 : decode cX5_rollToHit 126 = .ok (.goto (-110), 3) := by decide +kernel
theorem dX5_rollToHit_129 : decode cX5_rollToHit 129 = .ok (.aconst_null, 1) := by decide +kernel
theorem dX5_rollToHit_130 : decode cX5_rollToHit 130 = .ok (.areturn, 1) := by decide +kernel
theorem dX5_turnAtWalls_0 : decode cX5_turnAtWalls 0 = .ok (.aload_n 1, 1) := by decide +kernel
theorem dX5_turnAtWalls_1 : decode cX5_turnAtWalls 1 = .ok (.getfield 92, 3) := by decide +kernel
theorem dX5_turnAtWalls_4 : decode cX5_turnAtWalls 4 = .ok (.aload_n 0, 1) := by decide +kernel
theorem dX5_turnAtWalls_5 : decode cX5_turnAtWalls 5 = .ok (.getfield 31, 3) := by decide +kernel
theorem dX5_turnAtWalls_8 : decode cX5_turnAtWalls 8 = .ok (.iadd, 1) := by decide +kernel
theorem dX5_turnAtWalls_9 : decode cX5_turnAtWalls 9 = .ok (.ifCond .lt 17, 3) := by decide +kernel
theorem dX5_turnAtWalls_12 : decode cX5_turnAtWalls 12 = .ok (.aload_n 1, 1) := by decide +kernel
theorem dX5_turnAtWalls_13 : decode cX5_turnAtWalls 13 = .ok (.getfield 92, 3) := by decide +kernel
theorem dX5_turnAtWalls_16 : decode cX5_turnAtWalls 16 = .ok (.aload_n 0, 1) := by decide +kernel
theorem dX5_turnAtWalls_17 : decode cX5_turnAtWalls 17 = .ok (.getfield 31, 3) := by decide +kernel
theorem dX5_turnAtWalls_20 : decode cX5_turnAtWalls 20 = .ok (.iadd, 1) := by decide +kernel
theorem dX5_turnAtWalls_21 : decode cX5_turnAtWalls 21 = .ok (.bipush 30, 2) := by decide +kernel
theorem dX5_turnAtWalls_23 : decode cX5_turnAtWalls 23 = .ok (.if_icmp .le 22, 3) := by decide +kernel
theorem dX5_turnAtWalls_26 : decode cX5_turnAtWalls 26 = .ok (.aload_n 0, 1) := by decide +kernel
theorem dX5_turnAtWalls_27 : decode cX5_turnAtWalls 27 = .ok (.aload_n 0, 1) := by decide +kernel
theorem dX5_turnAtWalls_28 : decode cX5_turnAtWalls 28 = .ok (.getfield 31, 3) := by decide +kernel
theorem dX5_turnAtWalls_31 : decode cX5_turnAtWalls 31 = .ok (.ineg, 1) := by decide +kernel
theorem dX5_turnAtWalls_32 : decode cX5_turnAtWalls 32 = .ok (.putfield 31, 3) := by decide +kernel
theorem dX5_turnAtWalls_35 : decode cX5_turnAtWalls 35 = .ok (.aload_n 0, 1) := by decide +kernel
theorem dX5_turnAtWalls_36 : decode cX5_turnAtWalls 36 = .ok (.dup, 1) := by decide +kernel
theorem dX5_turnAtWalls_37 : decode cX5_turnAtWalls 37 = .ok (.getfield 21, 3) := by decide +kernel
theorem dX5_turnAtWalls_40 : decode cX5_turnAtWalls 40 = .ok (.iconst 1, 1) := by decide +kernel
theorem dX5_turnAtWalls_41 : decode cX5_turnAtWalls 41 = .ok (.iadd, 1) := by decide +kernel
theorem dX5_turnAtWalls_42 : decode cX5_turnAtWalls 42 = .ok (.putfield 21, 3) := by decide +kernel
theorem dX5_turnAtWalls_45 : decode cX5_turnAtWalls 45 = .ok (.aload_n 1, 1) := by decide +kernel
theorem dX5_turnAtWalls_46 : decode cX5_turnAtWalls 46 = .ok (.getfield 98, 3) := by decide +kernel
theorem dX5_turnAtWalls_49 : decode cX5_turnAtWalls 49 = .ok (.aload_n 0, 1) := by decide +kernel
theorem dX5_turnAtWalls_50 : decode cX5_turnAtWalls 50 = .ok (.getfield 37, 3) := by decide +kernel
theorem dX5_turnAtWalls_53 : decode cX5_turnAtWalls 53 = .ok (.iadd, 1) := by decide +kernel
theorem dX5_turnAtWalls_54 : decode cX5_turnAtWalls 54 = .ok (.ifCond .lt 17, 3) := by decide +kernel
theorem dX5_turnAtWalls_57 : decode cX5_turnAtWalls 57 = .ok (.aload_n 1, 1) := by decide +kernel
theorem dX5_turnAtWalls_58 : decode cX5_turnAtWalls 58 = .ok (.getfield 98, 3) := by decide +kernel
theorem dX5_turnAtWalls_61 : decode cX5_turnAtWalls 61 = .ok (.aload_n 0, 1) := by decide +kernel
theorem dX5_turnAtWalls_62 : decode cX5_turnAtWalls 62 = .ok (.getfield 37, 3) := by decide +kernel
theorem dX5_turnAtWalls_65 : decode cX5_turnAtWalls 65 = .ok (.iadd, 1) := by decide +kernel
theorem dX5_turnAtWalls_66 : decode cX5_turnAtWalls 66 = .ok (.bipush 30, 2) := by decide +kernel
theorem dX5_turnAtWalls_68 : decode cX5_turnAtWalls 68 = .ok (.if_icmp .le 22, 3) := by decide +kernel
theorem dX5_turnAtWalls_71 : decode cX5_turnAtWalls 71 = .ok (.aload_n 0, 1) := by decide +kernel
theorem dX5_turnAtWalls_72 : decode cX5_turnAtWalls 72 = .ok (.aload_n 0, 1) := by decide +kernel
theorem dX5_turnAtWalls_73 : decode cX5_turnAtWalls 73 = .ok (.getfield 37, 3) := by decide +kernel
theorem dX5_turnAtWalls_76 : decode cX5_turnAtWalls 76 = .ok (.ineg, 1) := by decide +kernel
theorem dX5_turnAtWalls_77 : decode cX5_turnAtWalls 77 = .ok (.putfield 37, 3) := by decide +kernel
theorem dX5_turnAtWalls_80 : decode cX5_turnAtWalls 80 = .ok (.aload_n 0, 1) := by decide +kernel
theorem dX5_turnAtWalls_81 : decode cX5_turnAtWalls 81 = .ok (.dup, 1) := by decide +kernel
theorem dX5_turnAtWalls_82 : decode cX5_turnAtWalls 82 = .ok (.getfield 21, 3) := by decide +kernel
theorem dX5_turnAtWalls_85 : decode cX5_turnAtWalls 85 = .ok (.iconst 1, 1) := by decide +kernel
theorem dX5_turnAtWalls_86 : decode cX5_turnAtWalls 86 = .ok (.iadd, 1) := by decide +kernel
theorem dX5_turnAtWalls_87 : decode cX5_turnAtWalls 87 = .ok (.putfield 21, 3) := by decide +kernel
theorem dX5_turnAtWalls_90 : decode cX5_turnAtWalls 90 = .ok (.return_, 1) := by decide +kernel
theorem dX5_passedOn_0 : decode cX5_passedOn 0 = .ok (.iload_n 2, 1) := by decide +kernel
theorem dX5_passedOn_1 : decode cX5_passedOn 1 = .ok (.iconst 1, 1) := by decide +kernel
theorem dX5_passedOn_2 : decode cX5_passedOn 2 = .ok (.if_icmp .ge 7, 3) := by decide +kernel
theorem dX5_passedOn_5 : decode cX5_passedOn 5 = .ok (.iconst 0, 1) := by decide +kernel
theorem dX5_passedOn_6 : decode cX5_passedOn 6 = .ok (.goto 16, 3) := by decide +kernel
theorem dX5_passedOn_9 : decode cX5_passedOn 9 = .ok (.bipush 40, 2) := by decide +kernel
theorem dX5_passedOn_11 : decode cX5_passedOn 11 = .ok (.aload_n 0, 1) := by decide +kernel
theorem dX5_passedOn_12 : decode cX5_passedOn 12 = .ok (.getfield 24, 3) := by decide +kernel
theorem dX5_passedOn_15 : decode cX5_passedOn 15 = .ok (.iload_n 1, 1) := by decide +kernel
theorem dX5_passedOn_16 : decode cX5_passedOn 16 = .ok (.imul, 1) := by decide +kernel
theorem dX5_passedOn_17 : decode cX5_passedOn 17 = .ok (.iload_n 2, 1) := by decide +kernel
theorem dX5_passedOn_18 : decode cX5_passedOn 18 = .ok (.idiv, 1) := by decide +kernel
theorem dX5_passedOn_19 : decode cX5_passedOn 19 = .ok (.invokestatic 125, 3) := by decide +kernel
theorem dX5_passedOn_22 : decode cX5_passedOn 22 = .ok (.ireturn, 1) := by decide +kernel
theorem dX5_takeWinnings_0 : decode cX5_takeWinnings 0 = .ok (.iconst 0, 1) := by decide +kernel
theorem dX5_takeWinnings_1 : decode cX5_takeWinnings 1 = .ok (.istore_n 3, 1) := by decide +kernel
theorem dX5_takeWinnings_2 : decode cX5_takeWinnings 2 = .ok (.iconst 0, 1) := by decide +kernel
theorem dX5_takeWinnings_3 : decode cX5_takeWinnings 3 = .ok (.istore 4, 2) := by decide +kernel
theorem dX5_takeWinnings_5 : decode cX5_takeWinnings 5 = .ok (.iload 4, 2) := by decide +kernel
theorem dX5_takeWinnings_7 : decode cX5_takeWinnings 7 = .ok (.aload_n 1, 1) := by decide +kernel
theorem dX5_takeWinnings_8 : decode cX5_takeWinnings 8 = .ok (.getfield 128, 3) := by decide +kernel
theorem dX5_takeWinnings_11 : decode cX5_takeWinnings 11 = .ok (.if_icmp .ge 76, 3) := by decide +kernel
theorem dX5_takeWinnings_14 : decode cX5_takeWinnings 14 = .ok (.aload_n 1, 1) := by decide +kernel
theorem dX5_takeWinnings_15 : decode cX5_takeWinnings 15 = .ok (.iload 4, 2) := by decide +kernel
theorem dX5_takeWinnings_17 : decode cX5_takeWinnings 17 = .ok (.invokevirtual 40, 3) := by decide +kernel
theorem dX5_takeWinnings_20 : decode cX5_takeWinnings 20 = .ok (.astore 5, 2) := by decide +kernel
theorem dX5_takeWinnings_22 : decode cX5_takeWinnings 22 = .ok (.aload 5, 2) := by decide +kernel
theorem dX5_takeWinnings_24 : decode cX5_takeWinnings 24 = .ok (.ifnull 57, 3) := by decide +kernel
theorem dX5_takeWinnings_27 : decode cX5_takeWinnings 27 = .ok (.aload_n 1, 1) := by decide +kernel
theorem dX5_takeWinnings_28 : decode cX5_takeWinnings 28 = .ok (.aload 5, 2) := by decide +kernel
theorem dX5_takeWinnings_30 : decode cX5_takeWinnings 30 = .ok (.iload_n 2, 1) := by decide +kernel
theorem dX5_takeWinnings_31 : decode cX5_takeWinnings 31 = .ok (.invokevirtual 131, 3) := by decide +kernel
theorem dX5_takeWinnings_34 : decode cX5_takeWinnings 34 = .ok (.ifCond .eq 47, 3) := by decide +kernel
theorem dX5_takeWinnings_37 : decode cX5_takeWinnings 37 = .ok (.aload 5, 2) := by decide +kernel
theorem dX5_takeWinnings_39 : decode cX5_takeWinnings 39 = .ok (.iconst 0, 1) := by decide +kernel
theorem dX5_takeWinnings_40 : decode cX5_takeWinnings 40 = .ok (.putfield 135, 3) := by decide +kernel
theorem dX5_takeWinnings_43 : decode cX5_takeWinnings 43 = .ok (.aload 5, 2) := by decide +kernel
theorem dX5_takeWinnings_45 : decode cX5_takeWinnings 45 = .ok (.iload_n 2, 1) := by decide +kernel
theorem dX5_takeWinnings_46 : decode cX5_takeWinnings 46 = .ok (.putfield 138, 3) := by decide +kernel
theorem dX5_takeWinnings_49 : decode cX5_takeWinnings 49 = .ok (.aload_n 0, 1) := by decide +kernel
theorem dX5_takeWinnings_50 : decode cX5_takeWinnings 50 = .ok (.dup, 1) := by decide +kernel
theorem dX5_takeWinnings_51 : decode cX5_takeWinnings 51 = .ok (.getfield 9, 3) := by decide +kernel
theorem dX5_takeWinnings_54 : decode cX5_takeWinnings 54 = .ok (.iconst 1, 1) := by decide +kernel
theorem dX5_takeWinnings_55 : decode cX5_takeWinnings 55 = .ok (.iadd, 1) := by decide +kernel
theorem dX5_takeWinnings_56 : decode cX5_takeWinnings 56 = .ok (.putfield 9, 3) := by decide +kernel
theorem dX5_takeWinnings_59 : decode cX5_takeWinnings 59 = .ok (.aload_n 0, 1) := by decide +kernel
theorem dX5_takeWinnings_60 : decode cX5_takeWinnings 60 = .ok (.dup, 1) := by decide +kernel
theorem dX5_takeWinnings_61 : decode cX5_takeWinnings 61 = .ok (.getfield 15, 3) := by decide +kernel
theorem dX5_takeWinnings_64 : decode cX5_takeWinnings 64 = .ok (.aload 5, 2) := by decide +kernel
theorem dX5_takeWinnings_66 : decode cX5_takeWinnings 66 = .ok (.getfield 79, 3) := by decide +kernel
theorem dX5_takeWinnings_69 : decode cX5_takeWinnings 69 = .ok (.iadd, 1) := by decide +kernel
theorem dX5_takeWinnings_70 : decode cX5_takeWinnings 70 = .ok (.putfield 15, 3) := by decide +kernel
theorem dX5_takeWinnings_73 : decode cX5_takeWinnings 73 = .ok (.iload_n 3, 1) := by decide +kernel
theorem dX5_takeWinnings_74 : decode cX5_takeWinnings 74 = .ok (.aload 5, 2) := by decide +kernel
theorem dX5_takeWinnings_76 : decode cX5_takeWinnings 76 = .ok (.getfield 141, 3) := by decide +kernel
theorem dX5_takeWinnings_79 : decode cX5_takeWinnings 79 = .ok (.ior, 1) := by decide +kernel
theorem dX5_takeWinnings_80 : decode cX5_takeWinnings 80 = .ok (.istore_n 3, 1) := by decide +kernel
theorem dX5_takeWinnings_81 : decode cX5_takeWinnings 81 = .ok (.iinc 4 1, 3) := by decide +kernel
theorem dX5_takeWinnings_84 : decode cX5_takeWinnings 84 = .ok (.goto (-79), 3) := by decide +kernel
theorem dX5_takeWinnings_87 : decode cX5_takeWinnings 87 = .ok (.aload_n 1, 1) := by decide +kernel
theorem dX5_takeWinnings_88 : decode cX5_takeWinnings 88 = .ok (.iload_n 3, 1) := by decide +kernel
theorem dX5_takeWinnings_89 : decode cX5_takeWinnings 89 = .ok (.invokevirtual 144, 3) := by decide +kernel
theorem dX5_takeWinnings_92 : decode cX5_takeWinnings 92 = .ok (.return_, 1) := by decide +kernel
theorem dX6_init_0 : decode cX6_init 0 = .ok (.aload_n 0, 1) := by decide +kernel
theorem dX6_init_1 : decode cX6_init 1 = .ok (.invokespecial 3, 3) := by decide +kernel
theorem dX6_init_4 : decode cX6_init 4 = .ok (.aload_n 0, 1) := by decide +kernel
theorem dX6_init_5 : decode cX6_init 5 = .ok (.bipush 80, 2) := by decide +kernel
theorem dX6_init_7 : decode cX6_init 7 = .ok (.newarray .char, 2) := by decide +kernel
theorem dX6_init_9 : decode cX6_init 9 = .ok (.putfield 9, 3) := by decide +kernel
theorem dX6_init_12 : decode cX6_init 12 = .ok (.return_, 1) := by decide +kernel
theorem dX7_init_0 : decode cX7_init 0 = .ok (.aload_n 0, 1) := by decide +kernel
theorem dX7_init_1 : decode cX7_init 1 = .ok (.invokespecial 1, 3) := by decide +kernel
theorem dX7_init_4 : decode cX7_init 4 = .ok (.aload_n 0, 1) := by decide +kernel
theorem dX7_init_5 : decode cX7_init 5 = .ok (.new 7, 3) := by decide +kernel
theorem dX7_init_8 : decode cX7_init 8 = .ok (.dup, 1) := by decide +kernel
theorem dX7_init_9 : decode cX7_init 9 = .ok (.invokespecial 9, 3) := by decide +kernel
theorem dX7_init_12 : decode cX7_init 12 = .ok (.putfield 10, 3) := by decide +kernel
theorem dX7_init_15 : decode cX7_init 15 = .ok (.aload_n 0, 1) := by decide +kernel
theorem dX7_init_16 : decode cX7_init 16 = .ok (.new 7, 3) := by decide +kernel
theorem dX7_init_19 : decode cX7_init 19 = .ok (.dup, 1) := by decide +kernel
theorem dX7_init_20 : decode cX7_init 20 = .ok (.invokespecial 9, 3) := by decide +kernel
theorem dX7_init_23 : decode cX7_init 23 = .ok (.putfield 16, 3) := by decide +kernel
theorem dX7_init_26 : decode cX7_init 26 = .ok (.aload_n 0, 1) := by decide +kernel
theorem dX7_init_27 : decode cX7_init 27 = .ok (.new 19, 3) := by decide +kernel
theorem dX7_init_30 : decode cX7_init 30 = .ok (.dup, 1) := by decide +kernel
theorem dX7_init_31 : decode cX7_init 31 = .ok (.invokespecial 21, 3) := by decide +kernel
theorem dX7_init_34 : decode cX7_init 34 = .ok (.putfield 22, 3) := by decide +kernel
theorem dX7_init_37 : decode cX7_init 37 = .ok (.aload_n 0, 1) := by decide +kernel
theorem dX7_init_38 : decode cX7_init 38 = .ok (.new 26, 3) := by decide +kernel
theorem dX7_init_41 : decode cX7_init 41 = .ok (.dup, 1) := by decide +kernel
theorem dX7_init_42 : decode cX7_init 42 = .ok (.invokespecial 28, 3) := by decide +kernel
theorem dX7_init_45 : decode cX7_init 45 = .ok (.putfield 29, 3) := by decide +kernel
theorem dX7_init_48 : decode cX7_init 48 = .ok (.aload_n 0, 1) := by decide +kernel
theorem dX7_init_49 : decode cX7_init 49 = .ok (.new 33, 3) := by decide +kernel
theorem dX7_init_52 : decode cX7_init 52 = .ok (.dup, 1) := by decide +kernel
theorem dX7_init_53 : decode cX7_init 53 = .ok (.invokespecial 35, 3) := by decide +kernel
theorem dX7_init_56 : decode cX7_init 56 = .ok (.putfield 36, 3) := by decide +kernel
theorem dX7_init_59 : decode cX7_init 59 = .ok (.return_, 1) := by decide +kernel
theorem dX7_putMarble_0 : decode cX7_putMarble 0 = .ok (.aload_n 0, 1) := by decide +kernel
theorem dX7_putMarble_1 : decode cX7_putMarble 1 = .ok (.getfield 10, 3) := by decide +kernel
theorem dX7_putMarble_4 : decode cX7_putMarble 4 = .ok (.iload_n 1, 1) := by decide +kernel
theorem dX7_putMarble_5 : decode cX7_putMarble 5 = .ok (.iload_n 2, 1) := by decide +kernel
theorem dX7_putMarble_6 : decode cX7_putMarble 6 = .ok (.iload_n 3, 1) := by decide +kernel
theorem dX7_putMarble_7 : decode cX7_putMarble 7 = .ok (.iload 4, 2) := by decide +kernel
theorem dX7_putMarble_9 : decode cX7_putMarble 9 = .ok (.invokevirtual 40, 3) := by decide +kernel
theorem dX7_putMarble_12 : decode cX7_putMarble 12 = .ok (.istore 5, 2) := by decide +kernel
theorem dX7_putMarble_14 : decode cX7_putMarble 14 = .ok (.iload 5, 2) := by decide +kernel
theorem dX7_putMarble_16 : decode cX7_putMarble 16 = .ok (.ifCond .eq 6, 3) := by decide +kernel
theorem dX7_putMarble_19 : decode cX7_putMarble 19 = .ok (.iload 5, 2) := by decide +kernel
theorem dX7_putMarble_21 : decode cX7_putMarble 21 = .ok (.ireturn, 1) := by decide +kernel
theorem dX7_putMarble_22 : decode cX7_putMarble 22 = .ok (.aload_n 0, 1) := by decide +kernel
theorem dX7_putMarble_23 : decode cX7_putMarble 23 = .ok (.getfield 29, 3) := by decide +kernel
theorem dX7_putMarble_26 : decode cX7_putMarble 26 = .ok (.aload_n 0, 1) := by decide +kernel
theorem dX7_putMarble_27 : decode cX7_putMarble 27 = .ok (.getfield 10, 3) := by decide +kernel
theorem dX7_putMarble_30 : decode cX7_putMarble 30 = .ok (.invokevirtual 44, 3) := by decide +kernel
theorem dX7_putMarble_33 : decode cX7_putMarble 33 = .ok (.aload_n 0, 1) := by decide +kernel
theorem dX7_putMarble_34 : decode cX7_putMarble 34 = .ok (.getfield 10, 3) := by decide +kernel
theorem dX7_putMarble_37 : decode cX7_putMarble 37 = .ok (.iload_n 1, 1) := by decide +kernel
theorem dX7_putMarble_38 : decode cX7_putMarble 38 = .ok (.iload_n 2, 1) := by decide +kernel
theorem dX7_putMarble_39 : decode cX7_putMarble 39 = .ok (.iload_n 3, 1) := by decide +kernel
theorem dX7_putMarble_40 : decode cX7_putMarble 40 = .ok (.iload 4, 2) := by decide +kernel
theorem dX7_putMarble_42 : decode cX7_putMarble 42 = .ok (.invokevirtual 48, 3) := by decide +kernel
theorem dX7_putMarble_45 : decode cX7_putMarble 45 = .ok (.ireturn, 1) := by decide +kernel
theorem dX7_drawRing_0 : decode cX7_drawRing 0 = .ok (.aload_n 0, 1) := by decide +kernel
theorem dX7_drawRing_1 : decode cX7_drawRing 1 = .ok (.getfield 10, 3) := by decide +kernel
theorem dX7_drawRing_4 : decode cX7_drawRing 4 = .ok (.iload_n 1, 1) := by decide +kernel
theorem dX7_drawRing_5 : decode cX7_drawRing 5 = .ok (.iload_n 2, 1) := by decide +kernel
theorem dX7_drawRing_6 : decode cX7_drawRing 6 = .ok (.iload_n 3, 1) := by decide +kernel
theorem dX7_drawRing_7 : decode cX7_drawRing 7 = .ok (.invokevirtual 51, 3) := by decide +kernel
theorem dX7_drawRing_10 : decode cX7_drawRing 10 = .ok (.istore 4, 2) := by decide +kernel
theorem dX7_drawRing_12 : decode cX7_drawRing 12 = .ok (.iload 4, 2) := by decide +kernel
theorem dX7_drawRing_14 : decode cX7_drawRing 14 = .ok (.ifCond .eq 6, 3) := by decide +kernel
theorem dX7_drawRing_17 : decode cX7_drawRing 17 = .ok (.iload 4, 2) := by decide +kernel
theorem dX7_drawRing_19 : decode cX7_drawRing 19 = .ok (.ireturn, 1) := by decide +kernel
theorem dX7_drawRing_20 : decode cX7_drawRing 20 = .ok (.aload_n 0, 1) := by decide +kernel
theorem dX7_drawRing_21 : decode cX7_drawRing 21 = .ok (.getfield 29, 3) := by decide +kernel
theorem dX7_drawRing_24 : decode cX7_drawRing 24 = .ok (.aload_n 0, 1) := by decide +kernel
theorem dX7_drawRing_25 : decode cX7_drawRing 25 = .ok (.getfield 10, 3) := by decide +kernel
theorem dX7_drawRing_28 : decode cX7_drawRing 28 = .ok (.invokevirtual 44, 3) := by decide +kernel
theorem dX7_drawRing_31 : decode cX7_drawRing 31 = .ok (.aload_n 0, 1) := by decide +kernel
theorem dX7_drawRing_32 : decode cX7_drawRing 32 = .ok (.getfield 10, 3) := by decide +kernel
theorem dX7_drawRing_35 : decode cX7_drawRing 35 = .ok (.iload_n 1, 1) := by decide +kernel
theorem dX7_drawRing_36 : decode cX7_drawRing 36 = .ok (.iload_n 2, 1) := by decide +kernel
theorem dX7_drawRing_37 : decode cX7_drawRing 37 = .ok (.iload_n 3, 1) := by decide +kernel
theorem dX7_drawRing_38 : decode cX7_drawRing 38 = .ok (.invokevirtual 55, 3) := by decide +kernel
theorem dX7_drawRing_41 : decode cX7_drawRing 41 = .ok (.ireturn, 1) := by decide +kernel
theorem dX7_move_0 : decode cX7_move 0 = .ok (.aload_n 0, 1) := by decide +kernel
theorem dX7_move_1 : decode cX7_move 1 = .ok (.getfield 10, 3) := by decide +kernel
theorem dX7_move_4 : decode cX7_move 4 = .ok (.iload_n 1, 1) := by decide +kernel
theorem dX7_move_5 : decode cX7_move 5 = .ok (.invokevirtual 58, 3) := by decide +kernel
theorem dX7_move_8 : decode cX7_move 8 = .ok (.astore 4, 2) := by decide +kernel
theorem dX7_move_10 : decode cX7_move 10 = .ok (.aload 4, 2) := by decide +kernel
theorem dX7_move_12 : decode cX7_move 12 = .ok (.ifnull 11, 3) := by decide +kernel
theorem dX7_move_15 : decode cX7_move 15 = .ok (.iload_n 2, 1) := by decide +kernel
theorem dX7_move_16 : decode cX7_move 16 = .ok (.iload_n 3, 1) := by decide +kernel
theorem dX7_move_17 : decode cX7_move 17 = .ok (.invokestatic 62, 3) := by decide +kernel
theorem dX7_move_20 : decode cX7_move 20 = .ok (.ifCond .ne 7, 3) := by decide +kernel
theorem dX7_move_23 : decode cX7_move 23 = .ok (.sipush (-1001), 3) := by decide +kernel
theorem dX7_move_26 : decode cX7_move 26 = .ok (.ireturn, 1) := by decide +kernel
theorem dX7_move_27 : decode cX7_move 27 = .ok (.aload 4, 2) := by decide +kernel
theorem dX7_move_29 : decode cX7_move 29 = .ok (.getfield 66, 3) := by decide +kernel
theorem dX7_move_32 : decode cX7_move 32 = .ok (.ifCond .eq 15, 3) := by decide +kernel
theorem dX7_move_35 : decode cX7_move 35 = .ok (.aload_n 0, 1) := by decide +kernel
theorem dX7_move_36 : decode cX7_move 36 = .ok (.getfield 10, 3) := by decide +kernel
theorem dX7_move_39 : decode cX7_move 39 = .ok (.iload_n 2, 1) := by decide +kernel
theorem dX7_move_40 : decode cX7_move 40 = .ok (.iload_n 3, 1) := by decide +kernel
theorem dX7_move_41 : decode cX7_move 41 = .ok (.invokevirtual 72, 3) := by decide +kernel
theorem dX7_move_44 : decode cX7_move 44 = .ok (.ifnull 7, 3) := by decide +kernel
theorem dX7_move_47 : decode cX7_move 47 = .ok (.sipush (-1003), 3) := by decide +kernel
theorem dX7_move_50 : decode cX7_move 50 = .ok (.ireturn, 1) := by decide +kernel
theorem dX7_move_51 : decode cX7_move 51 = .ok (.aload_n 0, 1) := by decide +kernel
theorem dX7_move_52 : decode cX7_move 52 = .ok (.getfield 29, 3) := by decide +kernel
theorem dX7_move_55 : decode cX7_move 55 = .ok (.aload_n 0, 1) := by decide +kernel
theorem dX7_move_56 : decode cX7_move 56 = .ok (.getfield 10, 3) := by decide +kernel
theorem dX7_move_59 : decode cX7_move 59 = .ok (.invokevirtual 44, 3) := by decide +kernel
theorem dX7_move_62 : decode cX7_move 62 = .ok (.aload 4, 2) := by decide +kernel
theorem dX7_move_64 : decode cX7_move 64 = .ok (.iload_n 2, 1) := by decide +kernel
theorem dX7_move_65 : decode cX7_move 65 = .ok (.putfield 76, 3) := by decide +kernel
theorem dX7_move_68 : decode cX7_move 68 = .ok (.aload 4, 2) := by decide +kernel
theorem dX7_move_70 : decode cX7_move 70 = .ok (.iload_n 3, 1) := by decide +kernel
theorem dX7_move_71 : decode cX7_move 71 = .ok (.putfield 80, 3) := by decide +kernel
theorem dX7_move_74 : decode cX7_move 74 = .ok (.aload_n 0, 1) := by decide +kernel
theorem dX7_move_75 : decode cX7_move 75 = .ok (.getfield 10, 3) := by decide +kernel
theorem dX7_move_78 : decode cX7_move 78 = .ok (.iload_n 2, 1) := by decide +kernel
theorem dX7_move_79 : decode cX7_move 79 = .ok (.iload_n 3, 1) := by decide +kernel
theorem dX7_move_80 : decode cX7_move 80 = .ok (.invokevirtual 83, 3) := by decide +kernel
theorem dX7_move_83 : decode cX7_move 83 = .ok (.invokestatic 87, 3) := by decide +kernel
theorem dX7_move_86 : decode cX7_move 86 = .ok (.ireturn, 1) := by decide +kernel
theorem dX7_clear_0 : decode cX7_clear 0 = .ok (.aload_n 0, 1) := by decide +kernel
theorem dX7_clear_1 : decode cX7_clear 1 = .ok (.getfield 10, 3) := by decide +kernel
theorem dX7_clear_4 : decode cX7_clear 4 = .ok (.getfield 93, 3) := by decide +kernel
theorem dX7_clear_7 : decode cX7_clear 7 = .ok (.istore_n 1, 1) := by decide +kernel
theorem dX7_clear_8 : decode cX7_clear 8 = .ok (.aload_n 0, 1) := by decide +kernel
theorem dX7_clear_9 : decode cX7_clear 9 = .ok (.getfield 29, 3) := by decide +kernel
theorem dX7_clear_12 : decode cX7_clear 12 = .ok (.aload_n 0, 1) := by decide +kernel
theorem dX7_clear_13 : decode cX7_clear 13 = .ok (.getfield 10, 3) := by decide +kernel
theorem dX7_clear_16 : decode cX7_clear 16 = .ok (.invokevirtual 44, 3) := by decide +kernel
theorem dX7_clear_19 : decode cX7_clear 19 = .ok (.aload_n 0, 1) := by decide +kernel
theorem dX7_clear_20 : decode cX7_clear 20 = .ok (.getfield 10, 3) := by decide +kernel
theorem dX7_clear_23 : decode cX7_clear 23 = .ok (.invokevirtual 96, 3) := by decide +kernel
theorem dX7_clear_26 : decode cX7_clear 26 = .ok (.iload_n 1, 1) := by decide +kernel
theorem dX7_clear_27 : decode cX7_clear 27 = .ok (.ireturn, 1) := by decide +kernel
theorem dX7_flick_0 : decode cX7_flick 0 = .ok (.aload_n 0, 1) := by decide +kernel
theorem dX7_flick_1 : decode cX7_flick 1 = .ok (.getfield 10, 3) := by decide +kernel
theorem dX7_flick_4 : decode cX7_flick 4 = .ok (.iload_n 1, 1) := by decide +kernel
theorem dX7_flick_5 : decode cX7_flick 5 = .ok (.invokevirtual 58, 3) := by decide +kernel
theorem dX7_flick_8 : decode cX7_flick 8 = .ok (.astore 4, 2) := by decide +kernel
theorem dX7_flick_10 : decode cX7_flick 10 = .ok (.aload 4, 2) := by decide +kernel
theorem dX7_flick_12 : decode cX7_flick 12 = .ok (.ifnonnull 7, 3) := by decide +kernel
theorem dX7_flick_15 : decode cX7_flick 15 = .ok (.sipush (-1001), 3) := by decide +kernel
theorem dX7_flick_18 : decode cX7_flick 18 = .ok (.ireturn, 1) := by decide +kernel
theorem dX7_flick_19 : decode cX7_flick 19 = .ok (.iload_n 2, 1) := by decide +kernel
theorem dX7_flick_20 : decode cX7_flick 20 = .ok (.invokestatic 99, 3) := by decide +kernel
theorem dX7_flick_23 : decode cX7_flick 23 = .ok (.ifCond .eq 10, 3) := by decide +kernel
theorem dX7_flick_26 : decode cX7_flick 26 = .ok (.iload_n 3, 1) := by decide +kernel
theorem dX7_flick_27 : decode cX7_flick 27 = .ok (.invokestatic 103, 3) := by decide +kernel
theorem dX7_flick_30 : decode cX7_flick 30 = .ok (.ifCond .ne 7, 3) := by decide +kernel
theorem dX7_flick_33 : decode cX7_flick 33 = .ok (.sipush (-1002), 3) := by decide +kernel
theorem dX7_flick_36 : decode cX7_flick 36 = .ok (.ireturn, 1) := by decide +kernel
theorem dX7_flick_37 : decode cX7_flick 37 = .ok (.aload 4, 2) := by decide +kernel
theorem dX7_flick_39 : decode cX7_flick 39 = .ok (.getfield 66, 3) := by decide +kernel
theorem dX7_flick_42 : decode cX7_flick 42 = .ok (.ifCond .eq 18, 3) := by decide +kernel
theorem dX7_flick_45 : decode cX7_flick 45 = .ok (.aload 4, 2) := by decide +kernel
theorem dX7_flick_47 : decode cX7_flick 47 = .ok (.getfield 106, 3) := by decide +kernel
theorem dX7_flick_50 : decode cX7_flick 50 = .ok (.aload_n 0, 1) := by decide +kernel
theorem dX7_flick_51 : decode cX7_flick 51 = .ok (.getfield 10, 3) := by decide +kernel
theorem dX7_flick_54 : decode cX7_flick 54 = .ok (.getfield 109, 3) := by decide +kernel
theorem dX7_flick_57 : decode cX7_flick 57 = .ok (.if_icmp .eq 7, 3) := by decide +kernel
theorem dX7_flick_60 : decode cX7_flick 60 = .ok (.sipush (-1003), 3) := by decide +kernel
theorem dX7_flick_63 : decode cX7_flick 63 = .ok (.ireturn, 1) := by decide +kernel
theorem dX7_flick_64 : decode cX7_flick 64 = .ok (.aload_n 0, 1) := by decide +kernel
theorem dX7_flick_65 : decode cX7_flick 65 = .ok (.getfield 29, 3) := by decide +kernel
theorem dX7_flick_68 : decode cX7_flick 68 = .ok (.aload_n 0, 1) := by decide +kernel
theorem dX7_flick_69 : decode cX7_flick 69 = .ok (.getfield 10, 3) := by decide +kernel
theorem dX7_flick_72 : decode cX7_flick 72 = .ok (.invokevirtual 44, 3) := by decide +kernel
theorem dX7_flick_75 : decode cX7_flick 75 = .ok (.aload_n 0, 1) := by decide +kernel
theorem dX7_flick_76 : decode cX7_flick 76 = .ok (.getfield 22, 3) := by decide +kernel
theorem dX7_flick_79 : decode cX7_flick 79 = .ok (.aload_n 0, 1) := by decide +kernel
theorem dX7_flick_80 : decode cX7_flick 80 = .ok (.getfield 10, 3) := by decide +kernel
theorem dX7_flick_83 : decode cX7_flick 83 = .ok (.iload_n 1, 1) := by decide +kernel
theorem dX7_flick_84 : decode cX7_flick 84 = .ok (.iload_n 2, 1) := by decide +kernel
theorem dX7_flick_85 : decode cX7_flick 85 = .ok (.iload_n 3, 1) := by decide +kernel
theorem dX7_flick_86 : decode cX7_flick 86 = .ok (.invokevirtual 112, 3) := by decide +kernel
theorem dX7_flick_89 : decode cX7_flick 89 = .ok (.aload_n 0, 1) := by decide +kernel
theorem dX7_flick_90 : decode cX7_flick 90 = .ok (.getfield 22, 3) := by decide +kernel
theorem dX7_flick_93 : decode cX7_flick 93 = .ok (.getfield 116, 3) := by decide +kernel
theorem dX7_flick_96 : decode cX7_flick 96 = .ok (.ireturn, 1) := by decide +kernel
theorem dX7_pass_0 : decode cX7_pass 0 = .ok (.aload_n 0, 1) := by decide +kernel
theorem dX7_pass_1 : decode cX7_pass 1 = .ok (.getfield 29, 3) := by decide +kernel
theorem dX7_pass_4 : decode cX7_pass 4 = .ok (.aload_n 0, 1) := by decide +kernel
theorem dX7_pass_5 : decode cX7_pass 5 = .ok (.getfield 10, 3) := by decide +kernel
theorem dX7_pass_8 : decode cX7_pass 8 = .ok (.invokevirtual 44, 3) := by decide +kernel
theorem dX7_pass_11 : decode cX7_pass 11 = .ok (.aload_n 0, 1) := by decide +kernel
theorem dX7_pass_12 : decode cX7_pass 12 = .ok (.getfield 10, 3) := by decide +kernel
theorem dX7_pass_15 : decode cX7_pass 15 = .ok (.invokevirtual 119, 3) := by decide +kernel
theorem dX7_pass_18 : decode cX7_pass 18 = .ok (.aload_n 0, 1) := by decide +kernel
theorem dX7_pass_19 : decode cX7_pass 19 = .ok (.getfield 10, 3) := by decide +kernel
theorem dX7_pass_22 : decode cX7_pass 22 = .ok (.getfield 109, 3) := by decide +kernel
theorem dX7_pass_25 : decode cX7_pass 25 = .ok (.ireturn, 1) := by decide +kernel
theorem dX7_count_0 : decode cX7_count 0 = .ok (.iload_n 1, 1) := by decide +kernel
theorem dX7_count_1 : decode cX7_count 1 = .ok (.tableswitch 111 0 7 #[47, 55, 63, 71, 79, 87, 95, 103], 47) := by decide +kernel
theorem dX7_count_48 : decode cX7_count 48 = .ok (.aload_n 0, 1) := by decide +kernel
theorem dX7_count_49 : decode cX7_count 49 = .ok (.getfield 10, 3) := by decide +kernel
theorem dX7_count_52 : decode cX7_count 52 = .ok (.getfield 93, 3) := by decide +kernel
theorem dX7_count_55 : decode cX7_count 55 = .ok (.ireturn, 1) := by decide +kernel
theorem dX7_count_56 : decode cX7_count 56 = .ok (.aload_n 0, 1) := by decide +kernel
theorem dX7_count_57 : decode cX7_count 57 = .ok (.getfield 10, 3) := by decide +kernel
theorem dX7_count_60 : decode cX7_count 60 = .ok (.getfield 122, 3) := by decide +kernel
theorem dX7_count_63 : decode cX7_count 63 = .ok (.ireturn, 1) := by decide +kernel
theorem dX7_count_64 : decode cX7_count 64 = .ok (.aload_n 0, 1) := by decide +kernel
theorem dX7_count_65 : decode cX7_count 65 = .ok (.getfield 10, 3) := by decide +kernel
theorem dX7_count_68 : decode cX7_count 68 = .ok (.getfield 109, 3) := by decide +kernel
theorem dX7_count_71 : decode cX7_count 71 = .ok (.ireturn, 1) := by decide +kernel
theorem dX7_count_72 : decode cX7_count 72 = .ok (.aload_n 0, 1) := by decide +kernel
theorem dX7_count_73 : decode cX7_count 73 = .ok (.getfield 10, 3) := by decide +kernel
theorem dX7_count_76 : decode cX7_count 76 = .ok (.getfield 125, 3) := by decide +kernel
theorem dX7_count_79 : decode cX7_count 79 = .ok (.ireturn, 1) := by decide +kernel
theorem dX7_count_80 : decode cX7_count 80 = .ok (.aload_n 0, 1) := by decide +kernel
theorem dX7_count_81 : decode cX7_count 81 = .ok (.getfield 10, 3) := by decide +kernel
theorem dX7_count_84 : decode cX7_count 84 = .ok (.getfield 128, 3) := by decide +kernel
theorem dX7_count_87 : decode cX7_count 87 = .ok (.ireturn, 1) := by decide +kernel
theorem dX7_count_88 : decode cX7_count 88 = .ok (.aload_n 0, 1) := by decide +kernel
theorem dX7_count_89 : decode cX7_count 89 = .ok (.getfield 10, 3) := by decide +kernel
theorem dX7_count_92 : decode cX7_count 92 = .ok (.getfield 131, 3) := by decide +kernel
theorem dX7_count_95 : decode cX7_count 95 = .ok (.ireturn, 1) := by decide +kernel
theorem dX7_count_96 : decode cX7_count 96 = .ok (.aload_n 0, 1) := by decide +kernel
theorem dX7_count_97 : decode cX7_count 97 = .ok (.getfield 10, 3) := by decide +kernel
theorem dX7_count_100 : decode cX7_count 100 = .ok (.getfield 132, 3) := by decide +kernel
theorem dX7_count_103 : decode cX7_count 103 = .ok (.ireturn, 1) := by decide +kernel
theorem dX7_count_104 : decode cX7_count 104 = .ok (.aload_n 0, 1) := by decide +kernel
theorem dX7_count_105 : decode cX7_count 105 = .ok (.getfield 10, 3) := by decide +kernel
theorem dX7_count_108 : decode cX7_count 108 = .ok (.getfield 135, 3) := by decide +kernel
theorem dX7_count_111 : decode cX7_count 111 = .ok (.ireturn, 1) := by decide +kernel
theorem dX7_count_112 : decode cX7_count 112 = .ok (.sipush (-1002), 3) := by decide +kernel
theorem dX7_count_115 : decode cX7_count 115 = .ok (.ireturn, 1) := by decide +kernel
theorem dX7_marble_0 : decode cX7_marble 0 = .ok (.aload_n 0, 1) := by decide +kernel
theorem dX7_marble_1 : decode cX7_marble 1 = .ok (.getfield 10, 3) := by decide +kernel
theorem dX7_marble_4 : decode cX7_marble 4 = .ok (.iload_n 1, 1) := by decide +kernel
theorem dX7_marble_5 : decode cX7_marble 5 = .ok (.invokevirtual 58, 3) := by decide +kernel
theorem dX7_marble_8 : decode cX7_marble 8 = .ok (.astore_n 3, 1) := by decide +kernel
theorem dX7_marble_9 : decode cX7_marble 9 = .ok (.aload_n 3, 1) := by decide +kernel
theorem dX7_marble_10 : decode cX7_marble 10 = .ok (.ifnonnull 7, 3) := by decide +kernel
theorem dX7_marble_13 : decode cX7_marble 13 = .ok (.sipush (-1001), 3) := by decide +kernel
theorem dX7_marble_16 : decode cX7_marble 16 = .ok (.ireturn, 1) := by decide +kernel
theorem dX7_marble_17 : decode cX7_marble 17 = .ok (.iload_n 2, 1) := by decide +kernel
theorem dX7_marble_18 : decode cX7_marble 18 = .ok (.tableswitch 131 0 5 #[38, 56, 74, 79, 84, 102], 38) := by decide +kernel
theorem dX7_marble_56 : decode cX7_marble 56 = .ok (.aload_n 3, 1) := by decide +kernel
theorem dX7_marble_57 : decode cX7_marble 57 = .ok (.getfield 66, 3) := by decide +kernel
theorem dX7_marble_60 : decode cX7_marble 60 = .ok (.ifCond .eq 10, 3) := by decide +kernel
theorem dX7_marble_63 : decode cX7_marble 63 = .ok (.aload_n 3, 1) := by decide +kernel
theorem dX7_marble_64 : decode cX7_marble 64 = .ok (.getfield 76, 3) := by decide +kernel
theorem dX7_marble_67 : decode cX7_marble 67 = .ok (.goto 6, 3) := by decide +kernel
theorem dX7_marble_70 : decode cX7_marble 70 = .ok (.sipush (-1006), 3) := by decide +kernel
theorem dX7_marble_73 : decode cX7_marble 73 = .ok (.ireturn, 1) := by decide +kernel
theorem dX7_marble_74 : decode cX7_marble 74 = .ok (.aload_n 3, 1) := by decide +kernel
theorem dX7_marble_75 : decode cX7_marble 75 = .ok (.getfield 66, 3) := by decide +kernel
theorem dX7_marble_78 : decode cX7_marble 78 = .ok (.ifCond .eq 10, 3) := by decide +kernel
theorem dX7_marble_81 : decode cX7_marble 81 = .ok (.aload_n 3, 1) := by decide +kernel
theorem dX7_marble_82 : decode cX7_marble 82 = .ok (.getfield 80, 3) := by decide +kernel
theorem dX7_marble_85 : decode cX7_marble 85 = .ok (.goto 6, 3) := by decide +kernel
theorem dX7_marble_88 : decode cX7_marble 88 = .ok (.sipush (-1006), 3) := by decide +kernel
theorem dX7_marble_91 : decode cX7_marble 91 = .ok (.ireturn, 1) := by decide +kernel
theorem dX7_marble_92 : decode cX7_marble 92 = .ok (.aload_n 3, 1) := by decide +kernel
theorem dX7_marble_93 : decode cX7_marble 93 = .ok (.getfield 138, 3) := by decide +kernel
theorem dX7_marble_96 : decode cX7_marble 96 = .ok (.ireturn, 1) := by decide +kernel
theorem dX7_marble_97 : decode cX7_marble 97 = .ok (.aload_n 3, 1) := by decide +kernel
theorem dX7_marble_98 : decode cX7_marble 98 = .ok (.getfield 106, 3) := by decide +kernel
theorem dX7_marble_101 : decode cX7_marble 101 = .ok (.ireturn, 1) := by decide +kernel
theorem dX7_marble_102 : decode cX7_marble 102 = .ok (.aload_n 3, 1) := by decide +kernel
theorem dX7_marble_103 : decode cX7_marble 103 = .ok (.getfield 66, 3) := by decide +kernel
theorem dX7_marble_106 : decode cX7_marble 106 = .ok (.ifCond .eq 9, 3) := by decide +kernel
theorem dX7_marble_109 : decode cX7_marble 109 = .ok (.sipush (-1006), 3) := by decide +kernel
theorem dX7_marble_112 : decode cX7_marble 112 = .ok (.goto 7, 3) := by decide +kernel
theorem dX7_marble_115 : decode cX7_marble 115 = .ok (.aload_n 3, 1) := by decide +kernel
theorem dX7_marble_116 : decode cX7_marble 116 = .ok (.getfield 141, 3) := by decide +kernel
theorem dX7_marble_119 : decode cX7_marble 119 = .ok (.ireturn, 1) := by decide +kernel
theorem dX7_marble_120 : decode cX7_marble 120 = .ok (.aload_n 3, 1) := by decide +kernel
theorem dX7_marble_121 : decode cX7_marble 121 = .ok (.getfield 66, 3) := by decide +kernel
theorem dX7_marble_124 : decode cX7_marble 124 = .ok (.ifCond .eq 21, 3) := by decide +kernel
theorem dX7_marble_127 : decode cX7_marble 127 = .ok (.aload_n 0, 1) := by decide +kernel
theorem dX7_marble_128 : decode cX7_marble 128 = .ok (.getfield 10, 3) := by decide +kernel
theorem dX7_marble_131 : decode cX7_marble 131 = .ok (.aload_n 3, 1) := by decide +kernel
theorem dX7_marble_132 : decode cX7_marble 132 = .ok (.getfield 76, 3) := by decide +kernel
theorem dX7_marble_135 : decode cX7_marble 135 = .ok (.aload_n 3, 1) := by decide +kernel
theorem dX7_marble_136 : decode cX7_marble 136 = .ok (.getfield 80, 3) := by decide +kernel
theorem dX7_marble_139 : decode cX7_marble 139 = .ok (.invokevirtual 83, 3) := by decide +kernel
theorem dX7_marble_142 : decode cX7_marble 142 = .ok (.goto 6, 3) := by decide +kernel
theorem dX7_marble_145 : decode cX7_marble 145 = .ok (.sipush (-1006), 3) := by decide +kernel
theorem dX7_marble_148 : decode cX7_marble 148 = .ok (.ireturn, 1) := by decide +kernel
theorem dX7_marble_149 : decode cX7_marble 149 = .ok (.sipush (-1002), 3) := by decide +kernel
theorem dX7_marble_152 : decode cX7_marble 152 = .ok (.ireturn, 1) := by decide +kernel
theorem dX7_ring_0 : decode cX7_ring 0 = .ok (.aload_n 0, 1) := by decide +kernel
theorem dX7_ring_1 : decode cX7_ring 1 = .ok (.getfield 10, 3) := by decide +kernel
theorem dX7_ring_4 : decode cX7_ring 4 = .ok (.iload_n 1, 1) := by decide +kernel
theorem dX7_ring_5 : decode cX7_ring 5 = .ok (.invokevirtual 144, 3) := by decide +kernel
theorem dX7_ring_8 : decode cX7_ring 8 = .ok (.astore_n 3, 1) := by decide +kernel
theorem dX7_ring_9 : decode cX7_ring 9 = .ok (.aload_n 3, 1) := by decide +kernel
theorem dX7_ring_10 : decode cX7_ring 10 = .ok (.ifnonnull 7, 3) := by decide +kernel
theorem dX7_ring_13 : decode cX7_ring 13 = .ok (.sipush (-1001), 3) := by decide +kernel
theorem dX7_ring_16 : decode cX7_ring 16 = .ok (.ireturn, 1) := by decide +kernel
theorem dX7_ring_17 : decode cX7_ring 17 = .ok (.iload_n 2, 1) := by decide +kernel
theorem dX7_ring_18 : decode cX7_ring 18 = .ok (.tableswitch 63 0 4 #[34, 39, 44, 49, 58], 34) := by decide +kernel
theorem dX7_ring_52 : decode cX7_ring 52 = .ok (.aload_n 3, 1) := by decide +kernel
theorem dX7_ring_53 : decode cX7_ring 53 = .ok (.getfield 148, 3) := by decide +kernel
theorem dX7_ring_56 : decode cX7_ring 56 = .ok (.ireturn, 1) := by decide +kernel
theorem dX7_ring_57 : decode cX7_ring 57 = .ok (.aload_n 3, 1) := by decide +kernel
theorem dX7_ring_58 : decode cX7_ring 58 = .ok (.getfield 151, 3) := by decide +kernel
theorem dX7_ring_61 : decode cX7_ring 61 = .ok (.ireturn, 1) := by decide +kernel
theorem dX7_ring_62 : decode cX7_ring 62 = .ok (.aload_n 3, 1) := by decide +kernel
theorem dX7_ring_63 : decode cX7_ring 63 = .ok (.getfield 152, 3) := by decide +kernel
theorem dX7_ring_66 : decode cX7_ring 66 = .ok (.ireturn, 1) := by decide +kernel
theorem dX7_ring_67 : decode cX7_ring 67 = .ok (.aload_n 0, 1) := by decide +kernel
theorem dX7_ring_68 : decode cX7_ring 68 = .ok (.getfield 10, 3) := by decide +kernel
theorem dX7_ring_71 : decode cX7_ring 71 = .ok (.aload_n 3, 1) := by decide +kernel
theorem dX7_ring_72 : decode cX7_ring 72 = .ok (.invokevirtual 155, 3) := by decide +kernel
theorem dX7_ring_75 : decode cX7_ring 75 = .ok (.ireturn, 1) := by decide +kernel
theorem dX7_ring_76 : decode cX7_ring 76 = .ok (.aload_n 3, 1) := by decide +kernel
theorem dX7_ring_77 : decode cX7_ring 77 = .ok (.invokevirtual 159, 3) := by decide +kernel
theorem dX7_ring_80 : decode cX7_ring 80 = .ok (.ireturn, 1) := by decide +kernel
theorem dX7_ring_81 : decode cX7_ring 81 = .ok (.sipush (-1002), 3) := by decide +kernel
theorem dX7_ring_84 : decode cX7_ring 84 = .ok (.ireturn, 1) := by decide +kernel
theorem dX7_at_0 : decode cX7_at 0 = .ok (.iload_n 1, 1) := by decide +kernel
theorem dX7_at_1 : decode cX7_at 1 = .ok (.iload_n 2, 1) := by decide +kernel
theorem dX7_at_2 : decode cX7_at 2 = .ok (.invokestatic 62, 3) := by decide +kernel
theorem dX7_at_5 : decode cX7_at 5 = .ok (.ifCond .ne 7, 3) := by decide +kernel
theorem dX7_at_8 : decode cX7_at 8 = .ok (.sipush (-1001), 3) := by decide +kernel
theorem dX7_at_11 : decode cX7_at 11 = .ok (.ireturn, 1) := by decide +kernel
theorem dX7_at_12 : decode cX7_at 12 = .ok (.aload_n 0, 1) := by decide +kernel
theorem dX7_at_13 : decode cX7_at 13 = .ok (.getfield 10, 3) := by decide +kernel
theorem dX7_at_16 : decode cX7_at 16 = .ok (.iload_n 1, 1) := by decide +kernel
theorem dX7_at_17 : decode cX7_at 17 = .ok (.iload_n 2, 1) := by decide +kernel
theorem dX7_at_18 : decode cX7_at 18 = .ok (.invokevirtual 72, 3) := by decide +kernel
theorem dX7_at_21 : decode cX7_at 21 = .ok (.astore_n 3, 1) := by decide +kernel
theorem dX7_at_22 : decode cX7_at 22 = .ok (.aload_n 3, 1) := by decide +kernel
theorem dX7_at_23 : decode cX7_at 23 = .ok (.ifnonnull 9, 3) := by decide +kernel
theorem dX7_at_26 : decode cX7_at 26 = .ok (.sipush (-1006), 3) := by decide +kernel
theorem dX7_at_29 : decode cX7_at 29 = .ok (.goto 7, 3) := by decide +kernel
theorem dX7_at_32 : decode cX7_at 32 = .ok (.aload_n 3, 1) := by decide +kernel
theorem dX7_at_33 : decode cX7_at 33 = .ok (.getfield 163, 3) := by decide +kernel
theorem dX7_at_36 : decode cX7_at 36 = .ok (.ireturn, 1) := by decide +kernel
theorem dX7_score_0 : decode cX7_score 0 = .ok (.iload_n 1, 1) := by decide +kernel
theorem dX7_score_1 : decode cX7_score 1 = .ok (.invokestatic 166, 3) := by decide +kernel
theorem dX7_score_4 : decode cX7_score 4 = .ok (.ifCond .eq 14, 3) := by decide +kernel
theorem dX7_score_7 : decode cX7_score 7 = .ok (.aload_n 0, 1) := by decide +kernel
theorem dX7_score_8 : decode cX7_score 8 = .ok (.getfield 10, 3) := by decide +kernel
theorem dX7_score_11 : decode cX7_score 11 = .ok (.iload_n 1, 1) := by decide +kernel
theorem dX7_score_12 : decode cX7_score 12 = .ok (.invokevirtual 169, 3) := by decide +kernel
theorem dX7_score_15 : decode cX7_score 15 = .ok (.goto 6, 3) := by decide +kernel
theorem dX7_score_18 : decode cX7_score 18 = .ok (.sipush (-1001), 3) := by decide +kernel
theorem dX7_score_21 : decode cX7_score 21 = .ok (.ireturn, 1) := by decide +kernel
theorem dX7_leader_0 : decode cX7_leader 0 = .ok (.iconst 0, 1) := by decide +kernel
theorem dX7_leader_1 : decode cX7_leader 1 = .ok (.istore_n 1, 1) := by decide +kernel
theorem dX7_leader_2 : decode cX7_leader 2 = .ok (.iconst 1, 1) := by decide +kernel
theorem dX7_leader_3 : decode cX7_leader 3 = .ok (.istore_n 2, 1) := by decide +kernel
theorem dX7_leader_4 : decode cX7_leader 4 = .ok (.iload_n 2, 1) := by decide +kernel
theorem dX7_leader_5 : decode cX7_leader 5 = .ok (.iconst 3, 1) := by decide +kernel
theorem dX7_leader_6 : decode cX7_leader 6 = .ok (.if_icmp .ge 30, 3) := by decide +kernel
theorem dX7_leader_9 : decode cX7_leader 9 = .ok (.aload_n 0, 1) := by decide +kernel
theorem dX7_leader_10 : decode cX7_leader 10 = .ok (.getfield 10, 3) := by decide +kernel
theorem dX7_leader_13 : decode cX7_leader 13 = .ok (.iload_n 2, 1) := by decide +kernel
theorem dX7_leader_14 : decode cX7_leader 14 = .ok (.invokevirtual 169, 3) := by decide +kernel
theorem dX7_leader_17 : decode cX7_leader 17 = .ok (.aload_n 0, 1) := by decide +kernel
theorem dX7_leader_18 : decode cX7_leader 18 = .ok (.getfield 10, 3) := by decide +kernel
theorem dX7_leader_21 : decode cX7_leader 21 = .ok (.iload_n 1, 1) := by decide +kernel
theorem dX7_leader_22 : decode cX7_leader 22 = .ok (.invokevirtual 169, 3) := by decide +kernel
theorem dX7_leader_25 : decode cX7_leader 25 = .ok (.if_icmp .le 5, 3) := by decide +kernel
theorem dX7_leader_28 : decode cX7_leader 28 = .ok (.iload_n 2, 1) := by decide +kernel
theorem dX7_leader_29 : decode cX7_leader 29 = .ok (.istore_n 1, 1) := by decide +kernel
theorem dX7_leader_30 : decode cX7_leader 30 = .ok (.iinc 2 1, 3) := by decide +kernel
theorem dX7_leader_33 : decode cX7_leader 33 = .ok (.goto (-29), 3) := by decide +kernel
theorem dX7_leader_36 : decode cX7_leader 36 = .ok (.iload_n 1, 1) := by decide +kernel
theorem dX7_leader_37 : decode cX7_leader 37 = .ok (.ireturn, 1) := by decide +kernel
theorem dX7_ifFlicked_0 : decode cX7_ifFlicked 0 = .ok (.aload_n 0, 1) := by decide +kernel
theorem dX7_ifFlicked_1 : decode cX7_ifFlicked 1 = .ok (.getfield 10, 3) := by decide +kernel
theorem dX7_ifFlicked_4 : decode cX7_ifFlicked 4 = .ok (.iload_n 1, 1) := by decide +kernel
theorem dX7_ifFlicked_5 : decode cX7_ifFlicked 5 = .ok (.invokevirtual 58, 3) := by decide +kernel
theorem dX7_ifFlicked_8 : decode cX7_ifFlicked 8 = .ok (.astore 5, 2) := by decide +kernel
theorem dX7_ifFlicked_10 : decode cX7_ifFlicked 10 = .ok (.aload 5, 2) := by decide +kernel
theorem dX7_ifFlicked_12 : decode cX7_ifFlicked 12 = .ok (.ifnonnull 7, 3) := by decide +kernel
theorem dX7_ifFlicked_15 : decode cX7_ifFlicked 15 = .ok (.sipush (-1001), 3) := by decide +kernel
theorem dX7_ifFlicked_18 : decode cX7_ifFlicked 18 = .ok (.ireturn, 1) := by decide +kernel
theorem dX7_ifFlicked_19 : decode cX7_ifFlicked 19 = .ok (.iload_n 2, 1) := by decide +kernel
theorem dX7_ifFlicked_20 : decode cX7_ifFlicked 20 = .ok (.invokestatic 99, 3) := by decide +kernel
theorem dX7_ifFlicked_23 : decode cX7_ifFlicked 23 = .ok (.ifCond .eq 21, 3) := by decide +kernel
theorem dX7_ifFlicked_26 : decode cX7_ifFlicked 26 = .ok (.iload_n 3, 1) := by decide +kernel
theorem dX7_ifFlicked_27 : decode cX7_ifFlicked 27 = .ok (.invokestatic 103, 3) := by decide +kernel
theorem dX7_ifFlicked_30 : decode cX7_ifFlicked 30 = .ok (.ifCond .eq 14, 3) := by decide +kernel
theorem dX7_ifFlicked_33 : decode cX7_ifFlicked 33 = .ok (.iload 4, 2) := by decide +kernel
theorem dX7_ifFlicked_35 : decode cX7_ifFlicked 35 = .ok (.ifCond .lt 9, 3) := by decide +kernel
theorem dX7_ifFlicked_38 : decode cX7_ifFlicked 38 = .ok (.iload 4, 2) := by decide +kernel
theorem dX7_ifFlicked_40 : decode cX7_ifFlicked 40 = .ok (.iconst 5, 1) := by decide +kernel
theorem dX7_ifFlicked_41 : decode cX7_ifFlicked 41 = .ok (.if_icmp .lt 7, 3) := by decide +kernel
theorem dX7_ifFlicked_44 : decode cX7_ifFlicked 44 = .ok (.sipush (-1002), 3) := by decide +kernel
theorem dX7_ifFlicked_47 : decode cX7_ifFlicked 47 = .ok (.ireturn, 1) := by decide +kernel
theorem dX7_ifFlicked_48 : decode cX7_ifFlicked 48 = .ok (.aload 5, 2) := by decide +kernel
theorem dX7_ifFlicked_50 : decode cX7_ifFlicked 50 = .ok (.getfield 66, 3) := by decide +kernel
theorem dX7_ifFlicked_53 : decode cX7_ifFlicked 53 = .ok (.ifCond .ne 7, 3) := by decide +kernel
theorem dX7_ifFlicked_56 : decode cX7_ifFlicked 56 = .ok (.sipush (-1003), 3) := by decide +kernel
theorem dX7_ifFlicked_59 : decode cX7_ifFlicked 59 = .ok (.ireturn, 1) := by decide +kernel
theorem dX7_ifFlicked_60 : decode cX7_ifFlicked 60 = .ok (.aload_n 0, 1) := by decide +kernel
theorem dX7_ifFlicked_61 : decode cX7_ifFlicked 61 = .ok (.iload_n 1, 1) := by decide +kernel
theorem dX7_ifFlicked_62 : decode cX7_ifFlicked 62 = .ok (.iload_n 2, 1) := by decide +kernel
theorem dX7_ifFlicked_63 : decode cX7_ifFlicked 63 = .ok (.iload_n 3, 1) := by decide +kernel
theorem dX7_ifFlicked_64 : decode cX7_ifFlicked 64 = .ok (.invokevirtual 172, 3) := by decide +kernel
theorem dX7_ifFlicked_67 : decode cX7_ifFlicked 67 = .ok (.iload 4, 2) := by decide +kernel
theorem dX7_ifFlicked_69 : decode cX7_ifFlicked 69 = .ok (.tableswitch 63 0 3 #[31, 39, 47, 55], 31) := by decide +kernel
theorem dX7_ifFlicked_100 : decode cX7_ifFlicked 100 = .ok (.aload_n 0, 1) := by decide +kernel
theorem dX7_ifFlicked_101 : decode cX7_ifFlicked 101 = .ok (.getfield 22, 3) := by decide +kernel
theorem dX7_ifFlicked_104 : decode cX7_ifFlicked 104 = .ok (.getfield 116, 3) := by decide +kernel
theorem dX7_ifFlicked_107 : decode cX7_ifFlicked 107 = .ok (.ireturn, 1) := by decide +kernel
theorem dX7_ifFlicked_108 : decode cX7_ifFlicked 108 = .ok (.aload_n 0, 1) := by decide +kernel
theorem dX7_ifFlicked_109 : decode cX7_ifFlicked 109 = .ok (.getfield 22, 3) := by decide +kernel
theorem dX7_ifFlicked_112 : decode cX7_ifFlicked 112 = .ok (.getfield 176, 3) := by decide +kernel
theorem dX7_ifFlicked_115 : decode cX7_ifFlicked 115 = .ok (.ireturn, 1) := by decide +kernel
theorem dX7_ifFlicked_116 : decode cX7_ifFlicked 116 = .ok (.aload_n 0, 1) := by decide +kernel
theorem dX7_ifFlicked_117 : decode cX7_ifFlicked 117 = .ok (.getfield 22, 3) := by decide +kernel
theorem dX7_ifFlicked_120 : decode cX7_ifFlicked 120 = .ok (.getfield 179, 3) := by decide +kernel
theorem dX7_ifFlicked_123 : decode cX7_ifFlicked 123 = .ok (.ireturn, 1) := by decide +kernel
theorem dX7_ifFlicked_124 : decode cX7_ifFlicked 124 = .ok (.aload_n 0, 1) := by decide +kernel
theorem dX7_ifFlicked_125 : decode cX7_ifFlicked 125 = .ok (.getfield 22, 3) := by decide +kernel
theorem dX7_ifFlicked_128 : decode cX7_ifFlicked 128 = .ok (.getfield 180, 3) := by decide +kernel
theorem dX7_ifFlicked_131 : decode cX7_ifFlicked 131 = .ok (.ireturn, 1) := by decide +kernel
theorem dX7_ifFlicked_132 : decode cX7_ifFlicked 132 = .ok (.bipush 100, 2) := by decide +kernel
theorem dX7_ifFlicked_134 : decode cX7_ifFlicked 134 = .ok (.aload_n 0, 1) := by decide +kernel
theorem dX7_ifFlicked_135 : decode cX7_ifFlicked 135 = .ok (.getfield 22, 3) := by decide +kernel
theorem dX7_ifFlicked_138 : decode cX7_ifFlicked 138 = .ok (.getfield 183, 3) := by decide +kernel
theorem dX7_ifFlicked_141 : decode cX7_ifFlicked 141 = .ok (.imul, 1) := by decide +kernel
theorem dX7_ifFlicked_142 : decode cX7_ifFlicked 142 = .ok (.aload_n 0, 1) := by decide +kernel
theorem dX7_ifFlicked_143 : decode cX7_ifFlicked 143 = .ok (.getfield 22, 3) := by decide +kernel
theorem dX7_ifFlicked_146 : decode cX7_ifFlicked 146 = .ok (.getfield 186, 3) := by decide +kernel
theorem dX7_ifFlicked_149 : decode cX7_ifFlicked 149 = .ok (.iadd, 1) := by decide +kernel
theorem dX7_ifFlicked_150 : decode cX7_ifFlicked 150 = .ok (.ireturn, 1) := by decide +kernel
theorem dX7_bestFlick_0 : decode cX7_bestFlick 0 = .ok (.aload_n 0, 1) := by decide +kernel
theorem dX7_bestFlick_1 : decode cX7_bestFlick 1 = .ok (.getfield 10, 3) := by decide +kernel
theorem dX7_bestFlick_4 : decode cX7_bestFlick 4 = .ok (.iload_n 1, 1) := by decide +kernel
theorem dX7_bestFlick_5 : decode cX7_bestFlick 5 = .ok (.invokevirtual 58, 3) := by decide +kernel
theorem dX7_bestFlick_8 : decode cX7_bestFlick 8 = .ok (.astore_n 2, 1) := by decide +kernel
theorem dX7_bestFlick_9 : decode cX7_bestFlick 9 = .ok (.aload_n 2, 1) := by decide +kernel
theorem dX7_bestFlick_10 : decode cX7_bestFlick 10 = .ok (.ifnonnull 7, 3) := by decide +kernel
theorem dX7_bestFlick_13 : decode cX7_bestFlick 13 = .ok (.sipush (-1001), 3) := by decide +kernel
theorem dX7_bestFlick_16 : decode cX7_bestFlick 16 = .ok (.ireturn, 1) := by decide +kernel
theorem dX7_bestFlick_17 : decode cX7_bestFlick 17 = .ok (.aload_n 2, 1) := by decide +kernel
theorem dX7_bestFlick_18 : decode cX7_bestFlick 18 = .ok (.getfield 66, 3) := by decide +kernel
theorem dX7_bestFlick_21 : decode cX7_bestFlick 21 = .ok (.ifCond .ne 7, 3) := by decide +kernel
theorem dX7_bestFlick_24 : decode cX7_bestFlick 24 = .ok (.sipush (-1003), 3) := by decide +kernel
theorem dX7_bestFlick_27 : decode cX7_bestFlick 27 = .ok (.ireturn, 1) := by decide +kernel
theorem dX7_bestFlick_28 : decode cX7_bestFlick 28 = .ok (.iconst 0, 1) := by decide +kernel
theorem dX7_bestFlick_29 : decode cX7_bestFlick 29 = .ok (.istore_n 3, 1) := by decide +kernel
theorem dX7_bestFlick_30 : decode cX7_bestFlick 30 = .ok (.sipush (-1006), 3) := by decide +kernel
theorem dX7_bestFlick_33 : decode cX7_bestFlick 33 = .ok (.istore 4, 2) := by decide +kernel
theorem dX7_bestFlick_35 : decode cX7_bestFlick 35 = .ok (.iconst 1, 1) := by decide +kernel
theorem dX7_bestFlick_36 : decode cX7_bestFlick 36 = .ok (.istore 5, 2) := by decide +kernel
theorem dX7_bestFlick_38 : decode cX7_bestFlick 38 = .ok (.iload 5, 2) := by decide +kernel
theorem dX7_bestFlick_40 : decode cX7_bestFlick 40 = .ok (.bipush 40, 2) := by decide +kernel
theorem dX7_bestFlick_42 : decode cX7_bestFlick 42 = .ok (.if_icmp .gt 65, 3) := by decide +kernel
theorem dX7_bestFlick_45 : decode cX7_bestFlick 45 = .ok (.iconst 0, 1) := by decide +kernel
theorem dX7_bestFlick_46 : decode cX7_bestFlick 46 = .ok (.istore 6, 2) := by decide +kernel
theorem dX7_bestFlick_48 : decode cX7_bestFlick 48 = .ok (.iload 6, 2) := by decide +kernel
theorem dX7_bestFlick_50 : decode cX7_bestFlick 50 = .ok (.getstatic 189, 3) := by decide +kernel
theorem dX7_bestFlick_53 : decode cX7_bestFlick 53 = .ok (.arraylength, 1) := by decide +kernel
theorem dX7_bestFlick_54 : decode cX7_bestFlick 54 = .ok (.if_icmp .ge 47, 3) := by decide +kernel
theorem dX7_bestFlick_57 : decode cX7_bestFlick 57 = .ok (.aload_n 0, 1) := by decide +kernel
theorem dX7_bestFlick_58 : decode cX7_bestFlick 58 = .ok (.iload_n 1, 1) := by decide +kernel
theorem dX7_bestFlick_59 : decode cX7_bestFlick 59 = .ok (.iload 6, 2) := by decide +kernel
theorem dX7_bestFlick_61 : decode cX7_bestFlick 61 = .ok (.iload 5, 2) := by decide +kernel
theorem dX7_bestFlick_63 : decode cX7_bestFlick 63 = .ok (.invokevirtual 172, 3) := by decide +kernel
theorem dX7_bestFlick_66 : decode cX7_bestFlick 66 = .ok (.aload_n 0, 1) := by decide +kernel
theorem dX7_bestFlick_67 : decode cX7_bestFlick 67 = .ok (.getfield 22, 3) := by decide +kernel
theorem dX7_bestFlick_70 : decode cX7_bestFlick 70 = .ok (.getfield 176, 3) := by decide +kernel
theorem dX7_bestFlick_73 : decode cX7_bestFlick 73 = .ok (.iload_n 3, 1) := by decide +kernel
theorem dX7_bestFlick_74 : decode cX7_bestFlick 74 = .ok (.if_icmp .le 21, 3) := by decide +kernel
theorem dX7_bestFlick_77 : decode cX7_bestFlick 77 = .ok (.aload_n 0, 1) := by decide +kernel
theorem dX7_bestFlick_78 : decode cX7_bestFlick 78 = .ok (.getfield 22, 3) := by decide +kernel
theorem dX7_bestFlick_81 : decode cX7_bestFlick 81 = .ok (.getfield 176, 3) := by decide +kernel
theorem dX7_bestFlick_84 : decode cX7_bestFlick 84 = .ok (.istore_n 3, 1) := by decide +kernel
theorem dX7_bestFlick_85 : decode cX7_bestFlick 85 = .ok (.bipush 100, 2) := by decide +kernel
theorem dX7_bestFlick_87 : decode cX7_bestFlick 87 = .ok (.iload 6, 2) := by decide +kernel
theorem dX7_bestFlick_89 : decode cX7_bestFlick 89 = .ok (.imul, 1) := by decide +kernel
theorem dX7_bestFlick_90 : decode cX7_bestFlick 90 = .ok (.iload 5, 2) := by decide +kernel
theorem dX7_bestFlick_92 : decode cX7_bestFlick 92 = .ok (.iadd, 1) := by decide +kernel
theorem dX7_bestFlick_93 : decode cX7_bestFlick 93 = .ok (.istore 4, 2) := by decide +kernel
theorem dX7_bestFlick_95 : decode cX7_bestFlick 95 = .ok (.iinc 6 1, 3) := by decide +kernel
theorem dX7_bestFlick_98 : decode cX7_bestFlick 98 = .ok (.goto (-50), 3) := by decide +kernel
theorem dX7_bestFlick_101 : decode cX7_bestFlick 101 = .ok (.iinc 5 1, 3) := by decide +kernel
theorem dX7_bestFlick_104 : decode cX7_bestFlick 104 = .ok (.goto (-66), 3) := by decide +kernel
theorem dX7_bestFlick_107 : decode cX7_bestFlick 107 = .ok (.iload 4, 2) := by decide +kernel
theorem dX7_bestFlick_109 : decode cX7_bestFlick 109 = .ok (.ireturn, 1) := by decide +kernel
theorem dX7_wayOut_0 : decode cX7_wayOut 0 = .ok (.aload_n 0, 1) := by decide +kernel
theorem dX7_wayOut_1 : decode cX7_wayOut 1 = .ok (.getfield 10, 3) := by decide +kernel
theorem dX7_wayOut_4 : decode cX7_wayOut 4 = .ok (.iload_n 1, 1) := by decide +kernel
theorem dX7_wayOut_5 : decode cX7_wayOut 5 = .ok (.invokevirtual 58, 3) := by decide +kernel
theorem dX7_wayOut_8 : decode cX7_wayOut 8 = .ok (.astore_n 2, 1) := by decide +kernel
theorem dX7_wayOut_9 : decode cX7_wayOut 9 = .ok (.aload_n 2, 1) := by decide +kernel
theorem dX7_wayOut_10 : decode cX7_wayOut 10 = .ok (.ifnonnull 7, 3) := by decide +kernel
theorem dX7_wayOut_13 : decode cX7_wayOut 13 = .ok (.sipush (-1001), 3) := by decide +kernel
theorem dX7_wayOut_16 : decode cX7_wayOut 16 = .ok (.ireturn, 1) := by decide +kernel
theorem dX7_wayOut_17 : decode cX7_wayOut 17 = .ok (.aload_n 2, 1) := by decide +kernel
theorem dX7_wayOut_18 : decode cX7_wayOut 18 = .ok (.getfield 66, 3) := by decide +kernel
theorem dX7_wayOut_21 : decode cX7_wayOut 21 = .ok (.ifCond .ne 7, 3) := by decide +kernel
theorem dX7_wayOut_24 : decode cX7_wayOut 24 = .ok (.sipush (-1003), 3) := by decide +kernel
theorem dX7_wayOut_27 : decode cX7_wayOut 27 = .ok (.ireturn, 1) := by decide +kernel
theorem dX7_wayOut_28 : decode cX7_wayOut 28 = .ok (.iconst 0, 1) := by decide +kernel
theorem dX7_wayOut_29 : decode cX7_wayOut 29 = .ok (.istore_n 3, 1) := by decide +kernel
theorem dX7_wayOut_30 : decode cX7_wayOut 30 = .ok (.iload_n 3, 1) := by decide +kernel
theorem dX7_wayOut_31 : decode cX7_wayOut 31 = .ok (.bipush 30, 2) := by decide +kernel
theorem dX7_wayOut_33 : decode cX7_wayOut 33 = .ok (.if_icmp .gt 23, 3) := by decide +kernel
theorem dX7_wayOut_36 : decode cX7_wayOut 36 = .ok (.aload_n 0, 1) := by decide +kernel
theorem dX7_wayOut_37 : decode cX7_wayOut 37 = .ok (.getfield 10, 3) := by decide +kernel
theorem dX7_wayOut_40 : decode cX7_wayOut 40 = .ok (.aload_n 2, 1) := by decide +kernel
theorem dX7_wayOut_41 : decode cX7_wayOut 41 = .ok (.iload_n 3, 1) := by decide +kernel
theorem dX7_wayOut_42 : decode cX7_wayOut 42 = .ok (.invokevirtual 193, 3) := by decide +kernel
theorem dX7_wayOut_45 : decode cX7_wayOut 45 = .ok (.ifCond .eq 5, 3) := by decide +kernel
theorem dX7_wayOut_48 : decode cX7_wayOut 48 = .ok (.iload_n 3, 1) := by decide +kernel
theorem dX7_wayOut_49 : decode cX7_wayOut 49 = .ok (.ireturn, 1) := by decide +kernel
theorem dX7_wayOut_50 : decode cX7_wayOut 50 = .ok (.iinc 3 1, 3) := by decide +kernel
theorem dX7_wayOut_53 : decode cX7_wayOut 53 = .ok (.goto (-23), 3) := by decide +kernel
theorem dX7_wayOut_56 : decode cX7_wayOut 56 = .ok (.sipush (-1006), 3) := by decide +kernel
theorem dX7_wayOut_59 : decode cX7_wayOut 59 = .ok (.ireturn, 1) := by decide +kernel
theorem dX7_tryFlick_0 : decode cX7_tryFlick 0 = .ok (.aload_n 0, 1) := by decide +kernel
theorem dX7_tryFlick_1 : decode cX7_tryFlick 1 = .ok (.getfield 16, 3) := by decide +kernel
theorem dX7_tryFlick_4 : decode cX7_tryFlick 4 = .ok (.aload_n 0, 1) := by decide +kernel
theorem dX7_tryFlick_5 : decode cX7_tryFlick 5 = .ok (.getfield 10, 3) := by decide +kernel
theorem dX7_tryFlick_8 : decode cX7_tryFlick 8 = .ok (.invokevirtual 262, 3) := by decide +kernel
theorem dX7_tryFlick_11 : decode cX7_tryFlick 11 = .ok (.aload_n 0, 1) := by decide +kernel
theorem dX7_tryFlick_12 : decode cX7_tryFlick 12 = .ok (.getfield 22, 3) := by decide +kernel
theorem dX7_tryFlick_15 : decode cX7_tryFlick 15 = .ok (.aload_n 0, 1) := by decide +kernel
theorem dX7_tryFlick_16 : decode cX7_tryFlick 16 = .ok (.getfield 16, 3) := by decide +kernel
theorem dX7_tryFlick_19 : decode cX7_tryFlick 19 = .ok (.iload_n 1, 1) := by decide +kernel
theorem dX7_tryFlick_20 : decode cX7_tryFlick 20 = .ok (.iload_n 2, 1) := by decide +kernel
theorem dX7_tryFlick_21 : decode cX7_tryFlick 21 = .ok (.iload_n 3, 1) := by decide +kernel
theorem dX7_tryFlick_22 : decode cX7_tryFlick 22 = .ok (.invokevirtual 112, 3) := by decide +kernel
theorem dX7_tryFlick_25 : decode cX7_tryFlick 25 = .ok (.return_, 1) := by decide +kernel
theorem dX7_isPoint_0 : decode cX7_isPoint 0 = .ok (.iload_n 0, 1) := by decide +kernel
theorem dX7_isPoint_1 : decode cX7_isPoint 1 = .ok (.ifCond .lt 23, 3) := by decide +kernel
theorem dX7_isPoint_4 : decode cX7_isPoint 4 = .ok (.iload_n 0, 1) := by decide +kernel
theorem dX7_isPoint_5 : decode cX7_isPoint 5 = .ok (.bipush 30, 2) := by decide +kernel
theorem dX7_isPoint_7 : decode cX7_isPoint 7 = .ok (.if_icmp .gt 17, 3) := by decide +kernel
theorem dX7_isPoint_10 : decode cX7_isPoint 10 = .ok (.iload_n 1, 1) := by decide +kernel
theorem dX7_isPoint_11 : decode cX7_isPoint 11 = .ok (.ifCond .lt 13, 3) := by decide +kernel
theorem dX7_isPoint_14 : decode cX7_isPoint 14 = .ok (.iload_n 1, 1) := by decide +kernel
theorem dX7_isPoint_15 : decode cX7_isPoint 15 = .ok (.bipush 30, 2) := by decide +kernel
theorem dX7_isPoint_17 : decode cX7_isPoint 17 = .ok (.if_icmp .gt 7, 3) := by decide +kernel
theorem dX7_isPoint_20 : decode cX7_isPoint 20 = .ok (.iconst 1, 1) := by decide +kernel
theorem dX7_isPoint_21 : decode cX7_isPoint 21 = .ok (.goto 4, 3) := by decide +kernel
theorem dX7_isPoint_24 : decode cX7_isPoint 24 = .ok (.iconst 0, 1) := by decide +kernel
theorem dX7_isPoint_25 : decode cX7_isPoint 25 = .ok (.ireturn, 1) := by decide +kernel
theorem dX7_isPlayer_0 : decode cX7_isPlayer 0 = .ok (.iload_n 0, 1) := by decide +kernel
theorem dX7_isPlayer_1 : decode cX7_isPlayer 1 = .ok (.ifCond .lt 12, 3) := by decide +kernel
theorem dX7_isPlayer_4 : decode cX7_isPlayer 4 = .ok (.iload_n 0, 1) := by decide +kernel
theorem dX7_isPlayer_5 : decode cX7_isPlayer 5 = .ok (.iconst 3, 1) := by decide +kernel
theorem dX7_isPlayer_6 : decode cX7_isPlayer 6 = .ok (.if_icmp .ge 7, 3) := by decide +kernel
theorem dX7_isPlayer_9 : decode cX7_isPlayer 9 = .ok (.iconst 1, 1) := by decide +kernel
theorem dX7_isPlayer_10 : decode cX7_isPlayer 10 = .ok (.goto 4, 3) := by decide +kernel
theorem dX7_isPlayer_13 : decode cX7_isPlayer 13 = .ok (.iconst 0, 1) := by decide +kernel
theorem dX7_isPlayer_14 : decode cX7_isPlayer 14 = .ok (.ireturn, 1) := by decide +kernel
theorem dX7_isDirection_0 : decode cX7_isDirection 0 = .ok (.iload_n 0, 1) := by decide +kernel
theorem dX7_isDirection_1 : decode cX7_isDirection 1 = .ok (.ifCond .lt 23, 3) := by decide +kernel
theorem dX7_isDirection_4 : decode cX7_isDirection 4 = .ok (.iload_n 0, 1) := by decide +kernel
theorem dX7_isDirection_5 : decode cX7_isDirection 5 = .ok (.getstatic 189, 3) := by decide +kernel
theorem dX7_isDirection_8 : decode cX7_isDirection 8 = .ok (.arraylength, 1) := by decide +kernel
theorem dX7_isDirection_9 : decode cX7_isDirection 9 = .ok (.if_icmp .ge 15, 3) := by decide +kernel
theorem dX7_isDirection_12 : decode cX7_isDirection 12 = .ok (.iload_n 0, 1) := by decide +kernel
theorem dX7_isDirection_13 : decode cX7_isDirection 13 = .ok (.getstatic 275, 3) := by decide +kernel
theorem dX7_isDirection_16 : decode cX7_isDirection 16 = .ok (.arraylength, 1) := by decide +kernel
theorem dX7_isDirection_17 : decode cX7_isDirection 17 = .ok (.if_icmp .ge 7, 3) := by decide +kernel
theorem dX7_isDirection_20 : decode cX7_isDirection 20 = .ok (.iconst 1, 1) := by decide +kernel
theorem dX7_isDirection_21 : decode cX7_isDirection 21 = .ok (.goto 4, 3) := by decide +kernel
theorem dX7_isDirection_24 : decode cX7_isDirection 24 = .ok (.iconst 0, 1) := by decide +kernel
theorem dX7_isDirection_25 : decode cX7_isDirection 25 = .ok (.ireturn, 1) := by decide +kernel
theorem dX7_isStrength_0 : decode cX7_isStrength 0 = .ok (.iload_n 0, 1) := by decide +kernel
theorem dX7_isStrength_1 : decode cX7_isStrength 1 = .ok (.iconst 1, 1) := by decide +kernel
theorem dX7_isStrength_2 : decode cX7_isStrength 2 = .ok (.if_icmp .lt 13, 3) := by decide +kernel
theorem dX7_isStrength_5 : decode cX7_isStrength 5 = .ok (.iload_n 0, 1) := by decide +kernel
theorem dX7_isStrength_6 : decode cX7_isStrength 6 = .ok (.bipush 40, 2) := by decide +kernel
theorem dX7_isStrength_8 : decode cX7_isStrength 8 = .ok (.if_icmp .gt 7, 3) := by decide +kernel
theorem dX7_isStrength_11 : decode cX7_isStrength 11 = .ok (.iconst 1, 1) := by decide +kernel
theorem dX7_isStrength_12 : decode cX7_isStrength 12 = .ok (.goto 4, 3) := by decide +kernel
theorem dX7_isStrength_15 : decode cX7_isStrength 15 = .ok (.iconst 0, 1) := by decide +kernel
theorem dX7_isStrength_16 : decode cX7_isStrength 16 = .ok (.ireturn, 1) := by decide +kernel
theorem dX7_stepX_0 : decode cX7_stepX 0 = .ok (.iload_n 0, 1) := by decide +kernel
theorem dX7_stepX_1 : decode cX7_stepX 1 = .ok (.invokestatic 99, 3) := by decide +kernel
theorem dX7_stepX_4 : decode cX7_stepX 4 = .ok (.ifCond .eq 11, 3) := by decide +kernel
theorem dX7_stepX_7 : decode cX7_stepX 7 = .ok (.getstatic 189, 3) := by decide +kernel
theorem dX7_stepX_10 : decode cX7_stepX 10 = .ok (.iload_n 0, 1) := by decide +kernel
theorem dX7_stepX_11 : decode cX7_stepX 11 = .ok (.iaload, 1) := by decide +kernel
theorem dX7_stepX_12 : decode cX7_stepX 12 = .ok (.goto 4, 3) := by decide +kernel
theorem dX7_stepX_15 : decode cX7_stepX 15 = .ok (.iconst 0, 1) := by decide +kernel
theorem dX7_stepX_16 : decode cX7_stepX 16 = .ok (.ireturn, 1) := by decide +kernel
theorem dX7_stepY_0 : decode cX7_stepY 0 = .ok (.iload_n 0, 1) := by decide +kernel
theorem dX7_stepY_1 : decode cX7_stepY 1 = .ok (.invokestatic 99, 3) := by decide +kernel
theorem dX7_stepY_4 : decode cX7_stepY 4 = .ok (.ifCond .eq 11, 3) := by decide +kernel
theorem dX7_stepY_7 : decode cX7_stepY 7 = .ok (.getstatic 275, 3) := by decide +kernel
theorem dX7_stepY_10 : decode cX7_stepY 10 = .ok (.iload_n 0, 1) := by decide +kernel
theorem dX7_stepY_11 : decode cX7_stepY 11 = .ok (.iaload, 1) := by decide +kernel
theorem dX7_stepY_12 : decode cX7_stepY 12 = .ok (.goto 4, 3) := by decide +kernel
theorem dX7_stepY_15 : decode cX7_stepY 15 = .ok (.iconst 0, 1) := by decide +kernel
theorem dX7_stepY_16 : decode cX7_stepY 16 = .ok (.ireturn, 1) := by decide +kernel
theorem dJ6_bitCount_0f7a4_0 : decode cJ6_bitCount_0f7a4 0 = .ok (.iload_n 0, 1) := by decide +kernel
theorem dJ6_bitCount_0f7a4_1 : decode cJ6_bitCount_0f7a4 1 = .ok (.iload_n 0, 1) := by decide +kernel
theorem dJ6_bitCount_0f7a4_2 : decode cJ6_bitCount_0f7a4 2 = .ok (.iconst 1, 1) := by decide +kernel
theorem dJ6_bitCount_0f7a4_3 : decode cJ6_bitCount_0f7a4 3 = .ok (.iushr, 1) := by decide +kernel
theorem dJ6_bitCount_0f7a4_4 : decode cJ6_bitCount_0f7a4 4 = .ok (.ldc_w 265, 3) := by decide +kernel
theorem dJ6_bitCount_0f7a4_7 : decode cJ6_bitCount_0f7a4 7 = .ok (.iand, 1) := by decide +kernel
theorem dJ6_bitCount_0f7a4_8 : decode cJ6_bitCount_0f7a4 8 = .ok (.isub, 1) := by decide +kernel
theorem dJ6_bitCount_0f7a4_9 : decode cJ6_bitCount_0f7a4 9 = .ok (.istore_n 0, 1) := by decide +kernel
theorem dJ6_bitCount_0f7a4_10 : decode cJ6_bitCount_0f7a4 10 = .ok (.iload_n 0, 1) := by decide +kernel
theorem dJ6_bitCount_0f7a4_11 : decode cJ6_bitCount_0f7a4 11 = .ok (.ldc_w 266, 3) := by decide +kernel
theorem dJ6_bitCount_0f7a4_14 : decode cJ6_bitCount_0f7a4 14 = .ok (.iand, 1) := by decide +kernel
theorem dJ6_bitCount_0f7a4_15 : decode cJ6_bitCount_0f7a4 15 = .ok (.iload_n 0, 1) := by decide +kernel
theorem dJ6_bitCount_0f7a4_16 : decode cJ6_bitCount_0f7a4 16 = .ok (.iconst 2, 1) := by decide +kernel
theorem dJ6_bitCount_0f7a4_17 : decode cJ6_bitCount_0f7a4 17 = .ok (.iushr, 1) := by decide +kernel
theorem dJ6_bitCount_0f7a4_18 : decode cJ6_bitCount_0f7a4 18 = .ok (.ldc_w 266, 3) := by decide +kernel
theorem dJ6_bitCount_0f7a4_21 : decode cJ6_bitCount_0f7a4 21 = .ok (.iand, 1) := by decide +kernel
theorem dJ6_bitCount_0f7a4_22 : decode cJ6_bitCount_0f7a4 22 = .ok (.iadd, 1) := by decide +kernel
theorem dJ6_bitCount_0f7a4_23 : decode cJ6_bitCount_0f7a4 23 = .ok (.istore_n 0, 1) := by decide +kernel
theorem dJ6_bitCount_0f7a4_24 : decode cJ6_bitCount_0f7a4 24 = .ok (.iload_n 0, 1) := by decide +kernel
theorem dJ6_bitCount_0f7a4_25 : decode cJ6_bitCount_0f7a4 25 = .ok (.iload_n 0, 1) := by decide +kernel
theorem dJ6_bitCount_0f7a4_26 : decode cJ6_bitCount_0f7a4 26 = .ok (.iconst 4, 1) := by decide +kernel
theorem dJ6_bitCount_0f7a4_27 : decode cJ6_bitCount_0f7a4 27 = .ok (.iushr, 1) := by decide +kernel
theorem dJ6_bitCount_0f7a4_28 : decode cJ6_bitCount_0f7a4 28 = .ok (.iadd, 1) := by decide +kernel
theorem dJ6_bitCount_0f7a4_29 : decode cJ6_bitCount_0f7a4 29 = .ok (.ldc_w 267, 3) := by decide +kernel
theorem dJ6_bitCount_0f7a4_32 : decode cJ6_bitCount_0f7a4 32 = .ok (.iand, 1) := by decide +kernel
theorem dJ6_bitCount_0f7a4_33 : decode cJ6_bitCount_0f7a4 33 = .ok (.istore_n 0, 1) := by decide +kernel
theorem dJ6_bitCount_0f7a4_34 : decode cJ6_bitCount_0f7a4 34 = .ok (.iload_n 0, 1) := by decide +kernel
theorem dJ6_bitCount_0f7a4_35 : decode cJ6_bitCount_0f7a4 35 = .ok (.iload_n 0, 1) := by decide +kernel
theorem dJ6_bitCount_0f7a4_36 : decode cJ6_bitCount_0f7a4 36 = .ok (.bipush 8, 2) := by decide +kernel
theorem dJ6_bitCount_0f7a4_38 : decode cJ6_bitCount_0f7a4 38 = .ok (.iushr, 1) := by decide +kernel
theorem dJ6_bitCount_0f7a4_39 : decode cJ6_bitCount_0f7a4 39 = .ok (.iadd, 1) := by decide +kernel
theorem dJ6_bitCount_0f7a4_40 : decode cJ6_bitCount_0f7a4 40 = .ok (.istore_n 0, 1) := by decide +kernel
theorem dJ6_bitCount_0f7a4_41 : decode cJ6_bitCount_0f7a4 41 = .ok (.iload_n 0, 1) := by decide +kernel
theorem dJ6_bitCount_0f7a4_42 : decode cJ6_bitCount_0f7a4 42 = .ok (.iload_n 0, 1) := by decide +kernel
theorem dJ6_bitCount_0f7a4_43 : decode cJ6_bitCount_0f7a4 43 = .ok (.bipush 16, 2) := by decide +kernel
theorem dJ6_bitCount_0f7a4_45 : decode cJ6_bitCount_0f7a4 45 = .ok (.iushr, 1) := by decide +kernel
theorem dJ6_bitCount_0f7a4_46 : decode cJ6_bitCount_0f7a4 46 = .ok (.iadd, 1) := by decide +kernel
theorem dJ6_bitCount_0f7a4_47 : decode cJ6_bitCount_0f7a4 47 = .ok (.istore_n 0, 1) := by decide +kernel
theorem dJ6_bitCount_0f7a4_48 : decode cJ6_bitCount_0f7a4 48 = .ok (.iload_n 0, 1) := by decide +kernel
theorem dJ6_bitCount_0f7a4_49 : decode cJ6_bitCount_0f7a4 49 = .ok (.bipush 63, 2) := by decide +kernel
theorem dJ6_bitCount_0f7a4_51 : decode cJ6_bitCount_0f7a4 51 = .ok (.iand, 1) := by decide +kernel
theorem dJ6_bitCount_0f7a4_52 : decode cJ6_bitCount_0f7a4 52 = .ok (.ireturn, 1) := by decide +kernel
theorem dJ9_max_7cf53_0 : decode cJ9_max_7cf53 0 = .ok (.iload_n 0, 1) := by decide +kernel
theorem dJ9_max_7cf53_1 : decode cJ9_max_7cf53 1 = .ok (.iload_n 1, 1) := by decide +kernel
theorem dJ9_max_7cf53_2 : decode cJ9_max_7cf53 2 = .ok (.if_icmp .lt 7, 3) := by decide +kernel
theorem dJ9_max_7cf53_5 : decode cJ9_max_7cf53 5 = .ok (.iload_n 0, 1) := by decide +kernel
theorem dJ9_max_7cf53_6 : decode cJ9_max_7cf53 6 = .ok (.goto 4, 3) := by decide +kernel
theorem dJ9_max_7cf53_9 : decode cJ9_max_7cf53 9 = .ok (.iload_n 1, 1) := by decide +kernel
theorem dJ9_max_7cf53_10 : decode cJ9_max_7cf53 10 = .ok (.ireturn, 1) := by decide +kernel
theorem dJ9_min_7cf53_0 : decode cJ9_min_7cf53 0 = .ok (.iload_n 0, 1) := by decide +kernel
theorem dJ9_min_7cf53_1 : decode cJ9_min_7cf53 1 = .ok (.iload_n 1, 1) := by decide +kernel
theorem dJ9_min_7cf53_2 : decode cJ9_min_7cf53 2 = .ok (.if_icmp .gt 7, 3) := by decide +kernel
theorem dJ9_min_7cf53_5 : decode cJ9_min_7cf53 5 = .ok (.iload_n 0, 1) := by decide +kernel
theorem dJ9_min_7cf53_6 : decode cJ9_min_7cf53 6 = .ok (.goto 4, 3) := by decide +kernel
theorem dJ9_min_7cf53_9 : decode cJ9_min_7cf53 9 = .ok (.iload_n 1, 1) := by decide +kernel
theorem dJ9_min_7cf53_10 : decode cJ9_min_7cf53 10 = .ok (.ireturn, 1) := by decide +kernel
theorem dL_cell_0 : decode cL_cell 0 = .ok (.iload_n 1, 1) := by decide +kernel
theorem dL_cell_1 : decode cL_cell 1 = .ok (.aload_n 0, 1) := by decide +kernel
theorem dL_cell_2 : decode cL_cell 2 = .ok (.arraylength, 1) := by decide +kernel
theorem dL_cell_3 : decode cL_cell 3 = .ok (.if_icmp .ge 9, 3) := by decide +kernel
theorem dL_cell_6 : decode cL_cell 6 = .ok (.aload_n 0, 1) := by decide +kernel
theorem dL_cell_7 : decode cL_cell 7 = .ok (.iload_n 1, 1) := by decide +kernel
theorem dL_cell_8 : decode cL_cell 8 = .ok (.iaload, 1) := by decide +kernel
theorem dL_cell_9 : decode cL_cell 9 = .ok (.goto 12, 3) := by decide +kernel
theorem dL_cell_12 : decode cL_cell 12 = .ok (.ldc 7, 2) := by decide +kernel
theorem dL_cell_14 : decode cL_cell 14 = .ok (.iload_n 1, 1) := by decide +kernel
theorem dL_cell_15 : decode cL_cell 15 = .ok (.iconst 1, 1) := by decide +kernel
theorem dL_cell_16 : decode cL_cell 16 = .ok (.iadd, 1) := by decide +kernel
theorem dL_cell_17 : decode cL_cell 17 = .ok (.imul, 1) := by decide +kernel
theorem dL_cell_18 : decode cL_cell 18 = .ok (.ldc 8, 2) := by decide +kernel
theorem dL_cell_20 : decode cL_cell 20 = .ok (.iadd, 1) := by decide +kernel
theorem dL_cell_21 : decode cL_cell 21 = .ok (.ireturn, 1) := by decide +kernel
theorem dL_low_0 : decode cL_low 0 = .ok (.iload_n 0, 1) := by decide +kernel
theorem dL_low_1 : decode cL_low 1 = .ok (.ldc 9, 2) := by decide +kernel
theorem dL_low_3 : decode cL_low 3 = .ok (.iand, 1) := by decide +kernel
theorem dL_low_4 : decode cL_low 4 = .ok (.iload_n 1, 1) := by decide +kernel
theorem dL_low_5 : decode cL_low 5 = .ok (.irem, 1) := by decide +kernel
theorem dL_low_6 : decode cL_low 6 = .ok (.ireturn, 1) := by decide +kernel
theorem dL_in_0 : decode cL_in 0 = .ok (.iload_n 1, 1) := by decide +kernel
theorem dL_in_1 : decode cL_in 1 = .ok (.aload_n 3, 1) := by decide +kernel
theorem dL_in_2 : decode cL_in 2 = .ok (.iconst 3, 1) := by decide +kernel
theorem dL_in_3 : decode cL_in 3 = .ok (.iload_n 0, 1) := by decide +kernel
theorem dL_in_4 : decode cL_in 4 = .ok (.imul, 1) := by decide +kernel
theorem dL_in_5 : decode cL_in 5 = .ok (.iaload, 1) := by decide +kernel
theorem dL_in_6 : decode cL_in 6 = .ok (.isub, 1) := by decide +kernel
theorem dL_in_7 : decode cL_in 7 = .ok (.istore 4, 2) := by decide +kernel
theorem dL_in_9 : decode cL_in 9 = .ok (.iload_n 2, 1) := by decide +kernel
theorem dL_in_10 : decode cL_in 10 = .ok (.aload_n 3, 1) := by decide +kernel
theorem dL_in_11 : decode cL_in 11 = .ok (.iconst 3, 1) := by decide +kernel
theorem dL_in_12 : decode cL_in 12 = .ok (.iload_n 0, 1) := by decide +kernel
theorem dL_in_13 : decode cL_in 13 = .ok (.imul, 1) := by decide +kernel
theorem dL_in_14 : decode cL_in 14 = .ok (.iconst 1, 1) := by decide +kernel
theorem dL_in_15 : decode cL_in 15 = .ok (.iadd, 1) := by decide +kernel
theorem dL_in_16 : decode cL_in 16 = .ok (.iaload, 1) := by decide +kernel
theorem dL_in_17 : decode cL_in 17 = .ok (.isub, 1) := by decide +kernel
theorem dL_in_18 : decode cL_in 18 = .ok (.istore 5, 2) := by decide +kernel
theorem dL_in_20 : decode cL_in 20 = .ok (.iload 4, 2) := by decide +kernel
theorem dL_in_22 : decode cL_in 22 = .ok (.iload 4, 2) := by decide +kernel
theorem dL_in_24 : decode cL_in 24 = .ok (.imul, 1) := by decide +kernel
theorem dL_in_25 : decode cL_in 25 = .ok (.iload 5, 2) := by decide +kernel
theorem dL_in_27 : decode cL_in 27 = .ok (.iload 5, 2) := by decide +kernel
theorem dL_in_29 : decode cL_in 29 = .ok (.imul, 1) := by decide +kernel
theorem dL_in_30 : decode cL_in 30 = .ok (.iadd, 1) := by decide +kernel
theorem dL_in_31 : decode cL_in 31 = .ok (.aload_n 3, 1) := by decide +kernel
theorem dL_in_32 : decode cL_in 32 = .ok (.iconst 3, 1) := by decide +kernel
theorem dL_in_33 : decode cL_in 33 = .ok (.iload_n 0, 1) := by decide +kernel
theorem dL_in_34 : decode cL_in 34 = .ok (.imul, 1) := by decide +kernel
theorem dL_in_35 : decode cL_in 35 = .ok (.iconst 2, 1) := by decide +kernel
theorem dL_in_36 : decode cL_in 36 = .ok (.iadd, 1) := by decide +kernel
theorem dL_in_37 : decode cL_in 37 = .ok (.iaload, 1) := by decide +kernel
theorem dL_in_38 : decode cL_in 38 = .ok (.aload_n 3, 1) := by decide +kernel
theorem dL_in_39 : decode cL_in 39 = .ok (.iconst 3, 1) := by decide +kernel
theorem dL_in_40 : decode cL_in 40 = .ok (.iload_n 0, 1) := by decide +kernel
theorem dL_in_41 : decode cL_in 41 = .ok (.imul, 1) := by decide +kernel
theorem dL_in_42 : decode cL_in 42 = .ok (.iconst 2, 1) := by decide +kernel
theorem dL_in_43 : decode cL_in 43 = .ok (.iadd, 1) := by decide +kernel
theorem dL_in_44 : decode cL_in 44 = .ok (.iaload, 1) := by decide +kernel
theorem dL_in_45 : decode cL_in 45 = .ok (.imul, 1) := by decide +kernel
theorem dL_in_46 : decode cL_in 46 = .ok (.if_icmp .gt 7, 3) := by decide +kernel
theorem dL_in_49 : decode cL_in 49 = .ok (.iconst 1, 1) := by decide +kernel
theorem dL_in_50 : decode cL_in 50 = .ok (.goto 4, 3) := by decide +kernel
theorem dL_in_53 : decode cL_in 53 = .ok (.iconst 0, 1) := by decide +kernel
theorem dL_in_54 : decode cL_in 54 = .ok (.ireturn, 1) := by decide +kernel
theorem dL_rings_0 : decode cL_rings 0 = .ok (.iconst 0, 1) := by decide +kernel
theorem dL_rings_1 : decode cL_rings 1 = .ok (.istore 4, 2) := by decide +kernel
theorem dL_rings_3 : decode cL_rings 3 = .ok (.iconst 0, 1) := by decide +kernel
theorem dL_rings_4 : decode cL_rings 4 = .ok (.istore 5, 2) := by decide +kernel
theorem dL_rings_6 : decode cL_rings 6 = .ok (.iload 5, 2) := by decide +kernel
theorem dL_rings_8 : decode cL_rings 8 = .ok (.aload_n 2, 1) := by decide +kernel
theorem dL_rings_9 : decode cL_rings 9 = .ok (.iconst 1, 1) := by decide +kernel
theorem dL_rings_10 : decode cL_rings 10 = .ok (.iaload, 1) := by decide +kernel
theorem dL_rings_11 : decode cL_rings 11 = .ok (.if_icmp .ge 33, 3) := by decide +kernel
theorem dL_rings_14 : decode cL_rings 14 = .ok (.iload 4, 2) := by decide +kernel
theorem dL_rings_16 : decode cL_rings 16 = .ok (.iload 5, 2) := by decide +kernel
theorem dL_rings_18 : decode cL_rings 18 = .ok (.iload_n 0, 1) := by decide +kernel
theorem dL_rings_19 : decode cL_rings 19 = .ok (.iload_n 1, 1) := by decide +kernel
theorem dL_rings_20 : decode cL_rings 20 = .ok (.aload_n 3, 1) := by decide +kernel
theorem dL_rings_21 : decode cL_rings 21 = .ok (.invokestatic 10, 3) := by decide +kernel
theorem dL_rings_24 : decode cL_rings 24 = .ok (.ifCond .eq 10, 3) := by decide +kernel
theorem dL_rings_27 : decode cL_rings 27 = .ok (.iconst 1, 1) := by decide +kernel
theorem dL_rings_28 : decode cL_rings 28 = .ok (.iload 5, 2) := by decide +kernel
theorem dL_rings_30 : decode cL_rings 30 = .ok (.ishl, 1) := by decide +kernel
theorem dL_rings_31 : decode cL_rings 31 = .ok (.goto 4, 3) := by decide +kernel
theorem dL_rings_34 : decode cL_rings 34 = .ok (.iconst 0, 1) := by decide +kernel
theorem dL_rings_35 : decode cL_rings 35 = .ok (.ior, 1) := by decide +kernel
theorem dL_rings_36 : decode cL_rings 36 = .ok (.istore 4, 2) := by decide +kernel
theorem dL_rings_38 : decode cL_rings 38 = .ok (.iinc 5 1, 3) := by decide +kernel
theorem dL_rings_41 : decode cL_rings 41 = .ok (.goto (-35), 3) := by decide +kernel
theorem dL_rings_44 : decode cL_rings 44 = .ok (.iload 4, 2) := by decide +kernel
theorem dL_rings_46 : decode cL_rings 46 = .ok (.ireturn, 1) := by decide +kernel
theorem dL_at_0 : decode cL_at 0 = .ok (.iconst 0, 1) := by decide +kernel
theorem dL_at_1 : decode cL_at 1 = .ok (.istore 4, 2) := by decide +kernel
theorem dL_at_3 : decode cL_at 3 = .ok (.iload 4, 2) := by decide +kernel
theorem dL_at_5 : decode cL_at 5 = .ok (.aload_n 2, 1) := by decide +kernel
theorem dL_at_6 : decode cL_at 6 = .ok (.iconst 0, 1) := by decide +kernel
theorem dL_at_7 : decode cL_at 7 = .ok (.iaload, 1) := by decide +kernel
theorem dL_at_8 : decode cL_at 8 = .ok (.if_icmp .ge 45, 3) := by decide +kernel
theorem dL_at_11 : decode cL_at 11 = .ok (.aload_n 3, 1) := by decide +kernel
theorem dL_at_12 : decode cL_at 12 = .ok (.iconst 5, 1) := by decide +kernel
theorem dL_at_13 : decode cL_at 13 = .ok (.iload 4, 2) := by decide +kernel
theorem dL_at_15 : decode cL_at 15 = .ok (.imul, 1) := by decide +kernel
theorem dL_at_16 : decode cL_at 16 = .ok (.iconst 4, 1) := by decide +kernel
theorem dL_at_17 : decode cL_at 17 = .ok (.iadd, 1) := by decide +kernel
theorem dL_at_18 : decode cL_at 18 = .ok (.iaload, 1) := by decide +kernel
theorem dL_at_19 : decode cL_at 19 = .ok (.ifCond .ge 28, 3) := by decide +kernel
theorem dL_at_22 : decode cL_at 22 = .ok (.aload_n 3, 1) := by decide +kernel
theorem dL_at_23 : decode cL_at 23 = .ok (.iconst 5, 1) := by decide +kernel
theorem dL_at_24 : decode cL_at 24 = .ok (.iload 4, 2) := by decide +kernel
theorem dL_at_26 : decode cL_at 26 = .ok (.imul, 1) := by decide +kernel
theorem dL_at_27 : decode cL_at 27 = .ok (.iaload, 1) := by decide +kernel
theorem dL_at_28 : decode cL_at 28 = .ok (.iload_n 0, 1) := by decide +kernel
theorem dL_at_29 : decode cL_at 29 = .ok (.if_icmp .ne 18, 3) := by decide +kernel
theorem dL_at_32 : decode cL_at 32 = .ok (.aload_n 3, 1) := by decide +kernel
theorem dL_at_33 : decode cL_at 33 = .ok (.iconst 5, 1) := by decide +kernel
theorem dL_at_34 : decode cL_at 34 = .ok (.iload 4, 2) := by decide +kernel
theorem dL_at_36 : decode cL_at 36 = .ok (.imul, 1) := by decide +kernel
theorem dL_at_37 : decode cL_at 37 = .ok (.iconst 1, 1) := by decide +kernel
theorem dL_at_38 : decode cL_at 38 = .ok (.iadd, 1) := by decide +kernel
theorem dL_at_39 : decode cL_at 39 = .ok (.iaload, 1) := by decide +kernel
theorem dL_at_40 : decode cL_at 40 = .ok (.iload_n 1, 1) := by decide +kernel
theorem dL_at_41 : decode cL_at 41 = .ok (.if_icmp .ne 6, 3) := by decide +kernel
theorem dL_at_44 : decode cL_at 44 = .ok (.iload 4, 2) := by decide +kernel
theorem dL_at_46 : decode cL_at 46 = .ok (.ireturn, 1) := by decide +kernel
theorem dL_at_47 : decode cL_at 47 = .ok (.iinc 4 1, 3) := by decide +kernel
theorem dL_at_50 : decode cL_at 50 = .ok (.goto (-47), 3) := by decide +kernel
theorem dL_at_53 : decode cL_at 53 = .ok (.sipush (-1006), 3) := by decide +kernel
theorem dL_at_56 : decode cL_at 56 = .ok (.ireturn, 1) := by decide +kernel
theorem dL_turn_0 : decode cL_turn 0 = .ok (.iload_n 0, 1) := by decide +kernel
theorem dL_turn_1 : decode cL_turn 1 = .ok (.iload_n 1, 1) := by decide +kernel
theorem dL_turn_2 : decode cL_turn 2 = .ok (.iadd, 1) := by decide +kernel
theorem dL_turn_3 : decode cL_turn 3 = .ok (.ifCond .lt 11, 3) := by decide +kernel
theorem dL_turn_6 : decode cL_turn 6 = .ok (.iload_n 0, 1) := by decide +kernel
theorem dL_turn_7 : decode cL_turn 7 = .ok (.iload_n 1, 1) := by decide +kernel
theorem dL_turn_8 : decode cL_turn 8 = .ok (.iadd, 1) := by decide +kernel
theorem dL_turn_9 : decode cL_turn 9 = .ok (.bipush 30, 2) := by decide +kernel
theorem dL_turn_11 : decode cL_turn 11 = .ok (.if_icmp .le 8, 3) := by decide +kernel
theorem dL_turn_14 : decode cL_turn 14 = .ok (.iload_n 1, 1) := by decide +kernel
theorem dL_turn_15 : decode cL_turn 15 = .ok (.ineg, 1) := by decide +kernel
theorem dL_turn_16 : decode cL_turn 16 = .ok (.goto 4, 3) := by decide +kernel
theorem dL_turn_19 : decode cL_turn 19 = .ok (.iload_n 1, 1) := by decide +kernel
theorem dL_turn_20 : decode cL_turn 20 = .ok (.ireturn, 1) := by decide +kernel
theorem dL_flick_0 : decode cL_flick 0 = .ok (.bipush 12, 2) := by decide +kernel
theorem dL_flick_2 : decode cL_flick 2 = .ok (.newarray .int, 2) := by decide +kernel
theorem dL_flick_4 : decode cL_flick 4 = .ok (.astore 8, 2) := by decide +kernel
theorem dL_flick_6 : decode cL_flick 6 = .ok (.bipush 12, 2) := by decide +kernel
theorem dL_flick_8 : decode cL_flick 8 = .ok (.newarray .int, 2) := by decide +kernel
theorem dL_flick_10 : decode cL_flick 10 = .ok (.astore 9, 2) := by decide +kernel
theorem dL_flick_12 : decode cL_flick 12 = .ok (.iconst 0, 1) := by decide +kernel
theorem dL_flick_13 : decode cL_flick 13 = .ok (.istore 10, 2) := by decide +kernel
theorem dL_flick_15 : decode cL_flick 15 = .ok (.iload 10, 2) := by decide +kernel
theorem dL_flick_17 : decode cL_flick 17 = .ok (.aload 4, 2) := by decide +kernel
theorem dL_flick_19 : decode cL_flick 19 = .ok (.iconst 0, 1) := by decide +kernel
theorem dL_flick_20 : decode cL_flick 20 = .ok (.iaload, 1) := by decide +kernel
theorem dL_flick_21 : decode cL_flick 21 = .ok (.if_icmp .ge 53, 3) := by decide +kernel
theorem dL_flick_24 : decode cL_flick 24 = .ok (.aload 8, 2) := by decide +kernel
theorem dL_flick_26 : decode cL_flick 26 = .ok (.iload 10, 2) := by decide +kernel
theorem dL_flick_28 : decode cL_flick 28 = .ok (.aload 5, 2) := by decide +kernel
theorem dL_flick_30 : decode cL_flick 30 = .ok (.iconst 5, 1) := by decide +kernel
theorem dL_flick_31 : decode cL_flick 31 = .ok (.iload 10, 2) := by decide +kernel
theorem dL_flick_33 : decode cL_flick 33 = .ok (.imul, 1) := by decide +kernel
theorem dL_flick_34 : decode cL_flick 34 = .ok (.iconst 4, 1) := by decide +kernel
theorem dL_flick_35 : decode cL_flick 35 = .ok (.iadd, 1) := by decide +kernel
theorem dL_flick_36 : decode cL_flick 36 = .ok (.iaload, 1) := by decide +kernel
theorem dL_flick_37 : decode cL_flick 37 = .ok (.ifCond .ge 29, 3) := by decide +kernel
theorem dL_flick_40 : decode cL_flick 40 = .ok (.aload 5, 2) := by decide +kernel
theorem dL_flick_42 : decode cL_flick 42 = .ok (.iconst 5, 1) := by decide +kernel
theorem dL_flick_43 : decode cL_flick 43 = .ok (.iload 10, 2) := by decide +kernel
theorem dL_flick_45 : decode cL_flick 45 = .ok (.imul, 1) := by decide +kernel
theorem dL_flick_46 : decode cL_flick 46 = .ok (.iaload, 1) := by decide +kernel
theorem dL_flick_47 : decode cL_flick 47 = .ok (.aload 5, 2) := by decide +kernel
theorem dL_flick_49 : decode cL_flick 49 = .ok (.iconst 5, 1) := by decide +kernel
theorem dL_flick_50 : decode cL_flick 50 = .ok (.iload 10, 2) := by decide +kernel
theorem dL_flick_52 : decode cL_flick 52 = .ok (.imul, 1) := by decide +kernel
theorem dL_flick_53 : decode cL_flick 53 = .ok (.iconst 1, 1) := by decide +kernel
theorem dL_flick_54 : decode cL_flick 54 = .ok (.iadd, 1) := by decide +kernel
theorem dL_flick_55 : decode cL_flick 55 = .ok (.iaload, 1) := by decide +kernel
theorem dL_flick_56 : decode cL_flick 56 = .ok (.aload 4, 2) := by decide +kernel
theorem dL_flick_58 : decode cL_flick 58 = .ok (.aload 6, 2) := by decide +kernel
theorem dL_flick_60 : decode cL_flick 60 = .ok (.invokestatic 16, 3) := by decide +kernel
theorem dL_flick_63 : decode cL_flick 63 = .ok (.goto 4, 3) := by decide +kernel
theorem dL_flick_66 : decode cL_flick 66 = .ok (.iconst 0, 1) := by decide +kernel
theorem dL_flick_67 : decode cL_flick 67 = .ok (.iastore, 1) := by decide +kernel
theorem dL_flick_68 : decode cL_flick 68 = .ok (.iinc 10 1, 3) := by decide +kernel
theorem dL_flick_71 : decode cL_flick 71 = .ok (.goto (-56), 3) := by decide +kernel
theorem dL_flick_74 : decode cL_flick 74 = .ok (.iload_n 2, 1) := by decide +kernel
theorem dL_flick_75 : decode cL_flick 75 = .ok (.iconst 4, 1) := by decide +kernel
theorem dL_flick_76 : decode cL_flick 76 = .ok (.irem, 1) := by decide +kernel
theorem dL_flick_77 : decode cL_flick 77 = .ok (.ifCond .ne 7, 3) := by decide +kernel
theorem dL_flick_80 : decode cL_flick 80 = .ok (.iconst 0, 1) := by decide +kernel
theorem dL_flick_81 : decode cL_flick 81 = .ok (.goto 13, 3) := by decide +kernel
theorem dL_flick_84 : decode cL_flick 84 = .ok (.iload_n 2, 1) := by decide +kernel
theorem dL_flick_85 : decode cL_flick 85 = .ok (.iconst 4, 1) := by decide +kernel
theorem dL_flick_86 : decode cL_flick 86 = .ok (.if_icmp .ge 7, 3) := by decide +kernel
theorem dL_flick_89 : decode cL_flick 89 = .ok (.iconst 1, 1) := by decide +kernel
theorem dL_flick_90 : decode cL_flick 90 = .ok (.goto 4, 3) := by decide +kernel
theorem dL_flick_93 : decode cL_flick 93 = .ok (.iconst (-1), 1) := by decide +kernel
theorem dL_flick_94 : decode cL_flick 94 = .ok (.istore 10, 2) := by decide +kernel
theorem dL_flick_96 : decode cL_flick 96 = .ok (.iload_n 2, 1) := by decide +kernel
theorem dL_flick_97 : decode cL_flick 97 = .ok (.iconst 4, 1) := by decide +kernel
theorem dL_flick_98 : decode cL_flick 98 = .ok (.irem, 1) := by decide +kernel
theorem dL_flick_99 : decode cL_flick 99 = .ok (.iconst 2, 1) := by decide +kernel
theorem dL_flick_100 : decode cL_flick 100 = .ok (.if_icmp .ne 7, 3) := by decide +kernel
theorem dL_flick_103 : decode cL_flick 103 = .ok (.iconst 0, 1) := by decide +kernel
theorem dL_flick_104 : decode cL_flick 104 = .ok (.goto 19, 3) := by decide +kernel
theorem dL_flick_107 : decode cL_flick 107 = .ok (.iload_n 2, 1) := by decide +kernel
theorem dL_flick_108 : decode cL_flick 108 = .ok (.iconst 2, 1) := by decide +kernel
theorem dL_flick_109 : decode cL_flick 109 = .ok (.if_icmp .le 13, 3) := by decide +kernel
theorem dL_flick_112 : decode cL_flick 112 = .ok (.iload_n 2, 1) := by decide +kernel
theorem dL_flick_113 : decode cL_flick 113 = .ok (.bipush 6, 2) := by decide +kernel
theorem dL_flick_115 : decode cL_flick 115 = .ok (.if_icmp .ge 7, 3) := by decide +kernel
theorem dL_flick_118 : decode cL_flick 118 = .ok (.iconst 1, 1) := by decide +kernel
theorem dL_flick_119 : decode cL_flick 119 = .ok (.goto 4, 3) := by decide +kernel
theorem dL_flick_122 : decode cL_flick 122 = .ok (.iconst (-1), 1) := by decide +kernel
theorem dL_flick_123 : decode cL_flick 123 = .ok (.istore 11, 2) := by decide +kernel
theorem dL_flick_125 : decode cL_flick 125 = .ok (.iload_n 1, 1) := by decide +kernel
theorem dL_flick_126 : decode cL_flick 126 = .ok (.istore 12, 2) := by decide +kernel
theorem dL_flick_128 : decode cL_flick 128 = .ok (.iload_n 3, 1) := by decide +kernel
theorem dL_flick_129 : decode cL_flick 129 = .ok (.istore 13, 2) := by decide +kernel
theorem dL_flick_131 : decode cL_flick 131 = .ok (.iconst 0, 1) := by decide +kernel
theorem dL_flick_132 : decode cL_flick 132 = .ok (.istore 14, 2) := by decide +kernel
theorem dL_flick_134 : decode cL_flick 134 = .ok (.iload 13, 2) := by decide +kernel
theorem dL_flick_136 : decode cL_flick 136 = .ok (.ifCond .le 275, 3) := by decide +kernel
theorem dL_flick_139 : decode cL_flick 139 = .ok (.iload 14, 2) := by decide +kernel
theorem dL_flick_141 : decode cL_flick 141 = .ok (.bipush 60, 2) := by decide +kernel
theorem dL_flick_143 : decode cL_flick 143 = .ok (.if_icmp .ge 268, 3) := by decide +kernel
theorem dL_flick_146 : decode cL_flick 146 = .ok (.aload 5, 2) := by decide +kernel
theorem dL_flick_148 : decode cL_flick 148 = .ok (.iconst 5, 1) := by decide +kernel
theorem dL_flick_149 : decode cL_flick 149 = .ok (.iload 12, 2) := by decide +kernel
theorem dL_flick_151 : decode cL_flick 151 = .ok (.imul, 1) := by decide +kernel
theorem dL_flick_152 : decode cL_flick 152 = .ok (.iaload, 1) := by decide +kernel
theorem dL_flick_153 : decode cL_flick 153 = .ok (.iload 10, 2) := by decide +kernel
theorem dL_flick_155 : decode cL_flick 155 = .ok (.invokestatic 20, 3) := by decide +kernel
theorem dL_flick_158 : decode cL_flick 158 = .ok (.istore 15, 2) := by decide +kernel
theorem dL_flick_160 : decode cL_flick 160 = .ok (.aload 5, 2) := by decide +kernel
theorem dL_flick_162 : decode cL_flick 162 = .ok (.iconst 5, 1) := by decide +kernel
theorem dL_flick_163 : decode cL_flick 163 = .ok (.iload 12, 2) := by decide +kernel
theorem dL_flick_165 : decode cL_flick 165 = .ok (.imul, 1) := by decide +kernel
theorem dL_flick_166 : decode cL_flick 166 = .ok (.iconst 1, 1) := by decide +kernel
theorem dL_flick_167 : decode cL_flick 167 = .ok (.iadd, 1) := by decide +kernel
theorem dL_flick_168 : decode cL_flick 168 = .ok (.iaload, 1) := by decide +kernel
theorem dL_flick_169 : decode cL_flick 169 = .ok (.iload 11, 2) := by decide +kernel
theorem dL_flick_171 : decode cL_flick 171 = .ok (.invokestatic 20, 3) := by decide +kernel
theorem dL_flick_174 : decode cL_flick 174 = .ok (.istore 16, 2) := by decide +kernel
theorem dL_flick_176 : decode cL_flick 176 = .ok (.aload 4, 2) := by decide +kernel
theorem dL_flick_178 : decode cL_flick 178 = .ok (.bipush 7, 2) := by decide +kernel
theorem dL_flick_180 : decode cL_flick 180 = .ok (.dup2, 1) := by decide +kernel
theorem dL_flick_181 : decode cL_flick 181 = .ok (.iaload, 1) := by decide +kernel
theorem dL_flick_182 : decode cL_flick 182 = .ok (.iload 15, 2) := by decide +kernel
theorem dL_flick_184 : decode cL_flick 184 = .ok (.iload 10, 2) := by decide +kernel
theorem dL_flick_186 : decode cL_flick 186 = .ok (.if_icmp .ne 7, 3) := by decide +kernel
theorem dL_flick_189 : decode cL_flick 189 = .ok (.iconst 0, 1) := by decide +kernel
theorem dL_flick_190 : decode cL_flick 190 = .ok (.goto 4, 3) := by decide +kernel
theorem dL_flick_193 : decode cL_flick 193 = .ok (.iconst 1, 1) := by decide +kernel
theorem dL_flick_194 : decode cL_flick 194 = .ok (.iload 16, 2) := by decide +kernel
theorem dL_flick_196 : decode cL_flick 196 = .ok (.iload 11, 2) := by decide +kernel
theorem dL_flick_198 : decode cL_flick 198 = .ok (.if_icmp .ne 7, 3) := by decide +kernel
theorem dL_flick_201 : decode cL_flick 201 = .ok (.iconst 0, 1) := by decide +kernel
theorem dL_flick_202 : decode cL_flick 202 = .ok (.goto 4, 3) := by decide +kernel
theorem dL_flick_205 : decode cL_flick 205 = .ok (.iconst 1, 1) := by decide +kernel
theorem dL_flick_206 : decode cL_flick 206 = .ok (.iadd, 1) := by decide +kernel
theorem dL_flick_207 : decode cL_flick 207 = .ok (.iadd, 1) := by decide +kernel
theorem dL_flick_208 : decode cL_flick 208 = .ok (.iastore, 1) := by decide +kernel
theorem dL_flick_209 : decode cL_flick 209 = .ok (.iload 15, 2) := by decide +kernel
theorem dL_flick_211 : decode cL_flick 211 = .ok (.istore 10, 2) := by decide +kernel
theorem dL_flick_213 : decode cL_flick 213 = .ok (.iload 16, 2) := by decide +kernel
theorem dL_flick_215 : decode cL_flick 215 = .ok (.istore 11, 2) := by decide +kernel
theorem dL_flick_217 : decode cL_flick 217 = .ok (.aload 5, 2) := by decide +kernel
theorem dL_flick_219 : decode cL_flick 219 = .ok (.iconst 5, 1) := by decide +kernel
theorem dL_flick_220 : decode cL_flick 220 = .ok (.iload 12, 2) := by decide +kernel
theorem dL_flick_222 : decode cL_flick 222 = .ok (.imul, 1) := by decide +kernel
theorem dL_flick_223 : decode cL_flick 223 = .ok (.iaload, 1) := by decide +kernel
theorem dL_flick_224 : decode cL_flick 224 = .ok (.iload 10, 2) := by decide +kernel
theorem dL_flick_226 : decode cL_flick 226 = .ok (.iadd, 1) := by decide +kernel
theorem dL_flick_227 : decode cL_flick 227 = .ok (.istore 17, 2) := by decide +kernel
theorem dL_flick_229 : decode cL_flick 229 = .ok (.aload 5, 2) := by decide +kernel
theorem dL_flick_231 : decode cL_flick 231 = .ok (.iconst 5, 1) := by decide +kernel
theorem dL_flick_232 : decode cL_flick 232 = .ok (.iload 12, 2) := by decide +kernel
theorem dL_flick_234 : decode cL_flick 234 = .ok (.imul, 1) := by decide +kernel
theorem dL_flick_235 : decode cL_flick 235 = .ok (.iconst 1, 1) := by decide +kernel
theorem dL_flick_236 : decode cL_flick 236 = .ok (.iadd, 1) := by decide +kernel
theorem dL_flick_237 : decode cL_flick 237 = .ok (.iaload, 1) := by decide +kernel
theorem dL_flick_238 : decode cL_flick 238 = .ok (.iload 11, 2) := by decide +kernel
theorem dL_flick_240 : decode cL_flick 240 = .ok (.iadd, 1) := by decide +kernel
theorem dL_flick_241 : decode cL_flick 241 = .ok (.istore 18, 2) := by decide +kernel
theorem dL_flick_243 : decode cL_flick 243 = .ok (.iload 17, 2) := by decide +kernel
theorem dL_flick_245 : decode cL_flick 245 = .ok (.iload 18, 2) := by decide +kernel
theorem dL_flick_247 : decode cL_flick 247 = .ok (.aload 4, 2) := by decide +kernel
theorem dL_flick_249 : decode cL_flick 249 = .ok (.aload 5, 2) := by decide +kernel
theorem dL_flick_251 : decode cL_flick 251 = .ok (.invokestatic 24, 3) := by decide +kernel
theorem dL_flick_254 : decode cL_flick 254 = .ok (.istore 19, 2) := by decide +kernel
theorem dL_flick_256 : decode cL_flick 256 = .ok (.iload 19, 2) := by decide +kernel
theorem dL_flick_258 : decode cL_flick 258 = .ok (.ifCond .lt 62, 3) := by decide +kernel
theorem dL_flick_261 : decode cL_flick 261 = .ok (.iload 13, 2) := by decide +kernel
theorem dL_flick_263 : decode cL_flick 263 = .ok (.aload 5, 2) := by decide +kernel
theorem dL_flick_265 : decode cL_flick 265 = .ok (.iconst 5, 1) := by decide +kernel
theorem dL_flick_266 : decode cL_flick 266 = .ok (.iload 12, 2) := by decide +kernel
theorem dL_flick_268 : decode cL_flick 268 = .ok (.imul, 1) := by decide +kernel
theorem dL_flick_269 : decode cL_flick 269 = .ok (.iconst 2, 1) := by decide +kernel
theorem dL_flick_270 : decode cL_flick 270 = .ok (.iadd, 1) := by decide +kernel
theorem dL_flick_271 : decode cL_flick 271 = .ok (.iaload, 1) := by decide +kernel
theorem dL_flick_272 : decode cL_flick 272 = .ok (.imul, 1) := by decide +kernel
theorem dL_flick_273 : decode cL_flick 273 = .ok (.aload 5, 2) := by decide +kernel
theorem dL_flick_275 : decode cL_flick 275 = .ok (.iconst 5, 1) := by decide +kernel
theorem dL_flick_276 : decode cL_flick 276 = .ok (.iload 19, 2) := by decide +kernel
theorem dL_flick_278 : decode cL_flick 278 = .ok (.imul, 1) := by decide +kernel
theorem dL_flick_279 : decode cL_flick 279 = .ok (.iconst 2, 1) := by decide +kernel
theorem dL_flick_280 : decode cL_flick 280 = .ok (.iadd, 1) := by decide +kernel
theorem dL_flick_281 : decode cL_flick 281 = .ok (.iaload, 1) := by decide +kernel
theorem dL_flick_282 : decode cL_flick 282 = .ok (.idiv, 1) := by decide +kernel
theorem dL_flick_283 : decode cL_flick 283 = .ok (.istore 13, 2) := by decide +kernel
theorem dL_flick_285 : decode cL_flick 285 = .ok (.iload 13, 2) := by decide +kernel
theorem dL_flick_287 : decode cL_flick 287 = .ok (.bipush 40, 2) := by decide +kernel
theorem dL_flick_289 : decode cL_flick 289 = .ok (.if_icmp .le 8, 3) := by decide +kernel
theorem dL_flick_292 : decode cL_flick 292 = .ok (.bipush 40, 2) := by decide +kernel
theorem dL_flick_294 : decode cL_flick 294 = .ok (.goto 5, 3) := by decide +kernel
theorem dL_flick_297 : decode cL_flick 297 = .ok (.iload 13, 2) := by decide +kernel
theorem dL_flick_299 : decode cL_flick 299 = .ok (.istore 13, 2) := by decide +kernel
theorem dL_flick_301 : decode cL_flick 301 = .ok (.aload 9, 2) := by decide +kernel
theorem dL_flick_303 : decode cL_flick 303 = .ok (.iload 19, 2) := by decide +kernel
theorem dL_flick_305 : decode cL_flick 305 = .ok (.dup2, 1) := by decide +kernel
theorem dL_flick_306 : decode cL_flick 306 = .ok (.iaload, 1) := by decide +kernel
theorem dL_flick_307 : decode cL_flick 307 = .ok (.iconst 1, 1) := by decide +kernel
theorem dL_flick_308 : decode cL_flick 308 = .ok (.iadd, 1) := by decide +kernel
theorem dL_flick_309 : decode cL_flick 309 = .ok (.iastore, 1) := by decide +kernel
theorem dL_flick_310 : decode cL_flick 310 = .ok (.iinc 14 1, 3) := by decide +kernel
theorem dL_flick_313 : decode cL_flick 313 = .ok (.iload 19, 2) := by decide +kernel
theorem dL_flick_315 : decode cL_flick 315 = .ok (.istore 12, 2) := by decide +kernel
theorem dL_flick_317 : decode cL_flick 317 = .ok (.goto (-183), 3) := by decide +kernel
theorem dL_flick_320 : decode cL_flick 320 = .ok (.iinc 13 (-1), 3) := by decide +kernel
theorem dL_flick_323 : decode cL_flick 323 = .ok (.iconst 0, 1) := by decide +kernel
theorem dL_flick_324 : decode cL_flick 324 = .ok (.istore 20, 2) := by decide +kernel
theorem dL_flick_326 : decode cL_flick 326 = .ok (.iload 20, 2) := by decide +kernel
theorem dL_flick_328 : decode cL_flick 328 = .ok (.aload 4, 2) := by decide +kernel
theorem dL_flick_330 : decode cL_flick 330 = .ok (.iconst 1, 1) := by decide +kernel
theorem dL_flick_331 : decode cL_flick 331 = .ok (.iaload, 1) := by decide +kernel
theorem dL_flick_332 : decode cL_flick 332 = .ok (.if_icmp .ge 56, 3) := by decide +kernel
theorem dL_flick_335 : decode cL_flick 335 = .ok (.iload 13, 2) := by decide +kernel
theorem dL_flick_337 : decode cL_flick 337 = .ok (.iload 20, 2) := by decide +kernel
theorem dL_flick_339 : decode cL_flick 339 = .ok (.iload 17, 2) := by decide +kernel
theorem dL_flick_341 : decode cL_flick 341 = .ok (.iload 18, 2) := by decide +kernel
theorem dL_flick_343 : decode cL_flick 343 = .ok (.aload 6, 2) := by decide +kernel
theorem dL_flick_345 : decode cL_flick 345 = .ok (.invokestatic 10, 3) := by decide +kernel
theorem dL_flick_348 : decode cL_flick 348 = .ok (.iload 20, 2) := by decide +kernel
theorem dL_flick_350 : decode cL_flick 350 = .ok (.aload 5, 2) := by decide +kernel
theorem dL_flick_352 : decode cL_flick 352 = .ok (.iconst 5, 1) := by decide +kernel
theorem dL_flick_353 : decode cL_flick 353 = .ok (.iload 12, 2) := by decide +kernel
theorem dL_flick_355 : decode cL_flick 355 = .ok (.imul, 1) := by decide +kernel
theorem dL_flick_356 : decode cL_flick 356 = .ok (.iaload, 1) := by decide +kernel
theorem dL_flick_357 : decode cL_flick 357 = .ok (.aload 5, 2) := by decide +kernel
theorem dL_flick_359 : decode cL_flick 359 = .ok (.iconst 5, 1) := by decide +kernel
theorem dL_flick_360 : decode cL_flick 360 = .ok (.iload 12, 2) := by decide +kernel
theorem dL_flick_362 : decode cL_flick 362 = .ok (.imul, 1) := by decide +kernel
theorem dL_flick_363 : decode cL_flick 363 = .ok (.iconst 1, 1) := by decide +kernel
theorem dL_flick_364 : decode cL_flick 364 = .ok (.iadd, 1) := by decide +kernel
theorem dL_flick_365 : decode cL_flick 365 = .ok (.iaload, 1) := by decide +kernel
theorem dL_flick_366 : decode cL_flick 366 = .ok (.aload 6, 2) := by decide +kernel
theorem dL_flick_368 : decode cL_flick 368 = .ok (.invokestatic 10, 3) := by decide +kernel
theorem dL_flick_371 : decode cL_flick 371 = .ok (.if_icmp .ne 7, 3) := by decide +kernel
theorem dL_flick_374 : decode cL_flick 374 = .ok (.iconst 0, 1) := by decide +kernel
theorem dL_flick_375 : decode cL_flick 375 = .ok (.goto 4, 3) := by decide +kernel
theorem dL_flick_378 : decode cL_flick 378 = .ok (.iconst 1, 1) := by decide +kernel
theorem dL_flick_379 : decode cL_flick 379 = .ok (.isub, 1) := by decide +kernel
theorem dL_flick_380 : decode cL_flick 380 = .ok (.istore 13, 2) := by decide +kernel
theorem dL_flick_382 : decode cL_flick 382 = .ok (.iinc 20 1, 3) := by decide +kernel
theorem dL_flick_385 : decode cL_flick 385 = .ok (.goto (-59), 3) := by decide +kernel
theorem dL_flick_388 : decode cL_flick 388 = .ok (.aload 5, 2) := by decide +kernel
theorem dL_flick_390 : decode cL_flick 390 = .ok (.iconst 5, 1) := by decide +kernel
theorem dL_flick_391 : decode cL_flick 391 = .ok (.iload 12, 2) := by decide +kernel
theorem dL_flick_393 : decode cL_flick 393 = .ok (.imul, 1) := by decide +kernel
theorem dL_flick_394 : decode cL_flick 394 = .ok (.iload 17, 2) := by decide +kernel
theorem dL_flick_396 : decode cL_flick 396 = .ok (.iastore, 1) := by decide +kernel
theorem dL_flick_397 : decode cL_flick 397 = .ok (.aload 5, 2) := by decide +kernel
theorem dL_flick_399 : decode cL_flick 399 = .ok (.iconst 5, 1) := by decide +kernel
theorem dL_flick_400 : decode cL_flick 400 = .ok (.iload 12, 2) := by decide +kernel
theorem dL_flick_402 : decode cL_flick 402 = .ok (.imul, 1) := by decide +kernel
theorem dL_flick_403 : decode cL_flick 403 = .ok (.iconst 1, 1) := by decide +kernel
theorem dL_flick_404 : decode cL_flick 404 = .ok (.iadd, 1) := by decide +kernel
theorem dL_flick_405 : decode cL_flick 405 = .ok (.iload 18, 2) := by decide +kernel
theorem dL_flick_407 : decode cL_flick 407 = .ok (.iastore, 1) := by decide +kernel
theorem dL_flick_408 : decode cL_flick 408 = .ok (.goto (-274), 3) := by decide +kernel
theorem dL_flick_411 : decode cL_flick 411 = .ok (.aload 7, 2) := by decide +kernel
theorem dL_flick_413 : decode cL_flick 413 = .ok (.iconst 0, 1) := by decide +kernel
theorem dL_flick_414 : decode cL_flick 414 = .ok (.iconst 0, 1) := by decide +kernel
theorem dL_flick_415 : decode cL_flick 415 = .ok (.iastore, 1) := by decide +kernel
theorem dL_flick_416 : decode cL_flick 416 = .ok (.aload 7, 2) := by decide +kernel
theorem dL_flick_418 : decode cL_flick 418 = .ok (.iconst 1, 1) := by decide +kernel
theorem dL_flick_419 : decode cL_flick 419 = .ok (.iconst 0, 1) := by decide +kernel
theorem dL_flick_420 : decode cL_flick 420 = .ok (.iastore, 1) := by decide +kernel
theorem dL_flick_421 : decode cL_flick 421 = .ok (.aload 7, 2) := by decide +kernel
theorem dL_flick_423 : decode cL_flick 423 = .ok (.iconst 2, 1) := by decide +kernel
theorem dL_flick_424 : decode cL_flick 424 = .ok (.iload 14, 2) := by decide +kernel
theorem dL_flick_426 : decode cL_flick 426 = .ok (.iastore, 1) := by decide +kernel
theorem dL_flick_427 : decode cL_flick 427 = .ok (.aload 7, 2) := by decide +kernel
theorem dL_flick_429 : decode cL_flick 429 = .ok (.iconst 3, 1) := by decide +kernel
theorem dL_flick_430 : decode cL_flick 430 = .ok (.iload 12, 2) := by decide +kernel
theorem dL_flick_432 : decode cL_flick 432 = .ok (.iastore, 1) := by decide +kernel
theorem dL_flick_433 : decode cL_flick 433 = .ok (.aload 7, 2) := by decide +kernel
theorem dL_flick_435 : decode cL_flick 435 = .ok (.iconst 4, 1) := by decide +kernel
theorem dL_flick_436 : decode cL_flick 436 = .ok (.bipush 100, 2) := by decide +kernel
theorem dL_flick_438 : decode cL_flick 438 = .ok (.aload 5, 2) := by decide +kernel
theorem dL_flick_440 : decode cL_flick 440 = .ok (.iconst 5, 1) := by decide +kernel
theorem dL_flick_441 : decode cL_flick 441 = .ok (.iload 12, 2) := by decide +kernel
theorem dL_flick_443 : decode cL_flick 443 = .ok (.imul, 1) := by decide +kernel
theorem dL_flick_444 : decode cL_flick 444 = .ok (.iaload, 1) := by decide +kernel
theorem dL_flick_445 : decode cL_flick 445 = .ok (.imul, 1) := by decide +kernel
theorem dL_flick_446 : decode cL_flick 446 = .ok (.aload 5, 2) := by decide +kernel
theorem dL_flick_448 : decode cL_flick 448 = .ok (.iconst 5, 1) := by decide +kernel
theorem dL_flick_449 : decode cL_flick 449 = .ok (.iload 12, 2) := by decide +kernel
theorem dL_flick_451 : decode cL_flick 451 = .ok (.imul, 1) := by decide +kernel
theorem dL_flick_452 : decode cL_flick 452 = .ok (.iconst 1, 1) := by decide +kernel
theorem dL_flick_453 : decode cL_flick 453 = .ok (.iadd, 1) := by decide +kernel
theorem dL_flick_454 : decode cL_flick 454 = .ok (.iaload, 1) := by decide +kernel
theorem dL_flick_455 : decode cL_flick 455 = .ok (.iadd, 1) := by decide +kernel
theorem dL_flick_456 : decode cL_flick 456 = .ok (.iastore, 1) := by decide +kernel
theorem dL_flick_457 : decode cL_flick 457 = .ok (.iconst 0, 1) := by decide +kernel
theorem dL_flick_458 : decode cL_flick 458 = .ok (.istore 15, 2) := by decide +kernel
theorem dL_flick_460 : decode cL_flick 460 = .ok (.iconst 0, 1) := by decide +kernel
theorem dL_flick_461 : decode cL_flick 461 = .ok (.istore 16, 2) := by decide +kernel
theorem dL_flick_463 : decode cL_flick 463 = .ok (.iload 16, 2) := by decide +kernel
theorem dL_flick_465 : decode cL_flick 465 = .ok (.aload 4, 2) := by decide +kernel
theorem dL_flick_467 : decode cL_flick 467 = .ok (.iconst 0, 1) := by decide +kernel
theorem dL_flick_468 : decode cL_flick 468 = .ok (.iaload, 1) := by decide +kernel
theorem dL_flick_469 : decode cL_flick 469 = .ok (.if_icmp .ge 111, 3) := by decide +kernel
theorem dL_flick_472 : decode cL_flick 472 = .ok (.aload 9, 2) := by decide +kernel
theorem dL_flick_474 : decode cL_flick 474 = .ok (.iload 16, 2) := by decide +kernel
theorem dL_flick_476 : decode cL_flick 476 = .ok (.iaload, 1) := by decide +kernel
theorem dL_flick_477 : decode cL_flick 477 = .ok (.ifCond .eq 97, 3) := by decide +kernel
theorem dL_flick_480 : decode cL_flick 480 = .ok (.aload 5, 2) := by decide +kernel
theorem dL_flick_482 : decode cL_flick 482 = .ok (.iconst 5, 1) := by decide +kernel
theorem dL_flick_483 : decode cL_flick 483 = .ok (.iload 16, 2) := by decide +kernel
theorem dL_flick_485 : decode cL_flick 485 = .ok (.imul, 1) := by decide +kernel
theorem dL_flick_486 : decode cL_flick 486 = .ok (.iconst 3, 1) := by decide +kernel
theorem dL_flick_487 : decode cL_flick 487 = .ok (.iadd, 1) := by decide +kernel
theorem dL_flick_488 : decode cL_flick 488 = .ok (.iaload, 1) := by decide +kernel
theorem dL_flick_489 : decode cL_flick 489 = .ok (.iload_n 0, 1) := by decide +kernel
theorem dL_flick_490 : decode cL_flick 490 = .ok (.if_icmp .eq 84, 3) := by decide +kernel
theorem dL_flick_493 : decode cL_flick 493 = .ok (.aload 8, 2) := by decide +kernel
theorem dL_flick_495 : decode cL_flick 495 = .ok (.iload 16, 2) := by decide +kernel
theorem dL_flick_497 : decode cL_flick 497 = .ok (.iaload, 1) := by decide +kernel
theorem dL_flick_498 : decode cL_flick 498 = .ok (.ifCond .eq 76, 3) := by decide +kernel
theorem dL_flick_501 : decode cL_flick 501 = .ok (.aload 5, 2) := by decide +kernel
theorem dL_flick_503 : decode cL_flick 503 = .ok (.iconst 5, 1) := by decide +kernel
theorem dL_flick_504 : decode cL_flick 504 = .ok (.iload 16, 2) := by decide +kernel
theorem dL_flick_506 : decode cL_flick 506 = .ok (.imul, 1) := by decide +kernel
theorem dL_flick_507 : decode cL_flick 507 = .ok (.iaload, 1) := by decide +kernel
theorem dL_flick_508 : decode cL_flick 508 = .ok (.aload 5, 2) := by decide +kernel
theorem dL_flick_510 : decode cL_flick 510 = .ok (.iconst 5, 1) := by decide +kernel
theorem dL_flick_511 : decode cL_flick 511 = .ok (.iload 16, 2) := by decide +kernel
theorem dL_flick_513 : decode cL_flick 513 = .ok (.imul, 1) := by decide +kernel
theorem dL_flick_514 : decode cL_flick 514 = .ok (.iconst 1, 1) := by decide +kernel
theorem dL_flick_515 : decode cL_flick 515 = .ok (.iadd, 1) := by decide +kernel
theorem dL_flick_516 : decode cL_flick 516 = .ok (.iaload, 1) := by decide +kernel
theorem dL_flick_517 : decode cL_flick 517 = .ok (.aload 4, 2) := by decide +kernel
theorem dL_flick_519 : decode cL_flick 519 = .ok (.aload 6, 2) := by decide +kernel
theorem dL_flick_521 : decode cL_flick 521 = .ok (.invokestatic 16, 3) := by decide +kernel
theorem dL_flick_524 : decode cL_flick 524 = .ok (.ifCond .eq 6, 3) := by decide +kernel
theorem dL_flick_527 : decode cL_flick 527 = .ok (.goto 47, 3) := by decide +kernel
theorem dL_flick_530 : decode cL_flick 530 = .ok (.aload 7, 2) := by decide +kernel
theorem dL_flick_532 : decode cL_flick 532 = .ok (.iconst 0, 1) := by decide +kernel
theorem dL_flick_533 : decode cL_flick 533 = .ok (.dup2, 1) := by decide +kernel
theorem dL_flick_534 : decode cL_flick 534 = .ok (.iaload, 1) := by decide +kernel
theorem dL_flick_535 : decode cL_flick 535 = .ok (.iconst 1, 1) := by decide +kernel
theorem dL_flick_536 : decode cL_flick 536 = .ok (.iadd, 1) := by decide +kernel
theorem dL_flick_537 : decode cL_flick 537 = .ok (.iastore, 1) := by decide +kernel
theorem dL_flick_538 : decode cL_flick 538 = .ok (.aload 7, 2) := by decide +kernel
theorem dL_flick_540 : decode cL_flick 540 = .ok (.iconst 1, 1) := by decide +kernel
theorem dL_flick_541 : decode cL_flick 541 = .ok (.dup2, 1) := by decide +kernel
theorem dL_flick_542 : decode cL_flick 542 = .ok (.iaload, 1) := by decide +kernel
theorem dL_flick_543 : decode cL_flick 543 = .ok (.aload 5, 2) := by decide +kernel
theorem dL_flick_545 : decode cL_flick 545 = .ok (.iconst 5, 1) := by decide +kernel
theorem dL_flick_546 : decode cL_flick 546 = .ok (.iload 16, 2) := by decide +kernel
theorem dL_flick_548 : decode cL_flick 548 = .ok (.imul, 1) := by decide +kernel
theorem dL_flick_549 : decode cL_flick 549 = .ok (.iconst 2, 1) := by decide +kernel
theorem dL_flick_550 : decode cL_flick 550 = .ok (.iadd, 1) := by decide +kernel
theorem dL_flick_551 : decode cL_flick 551 = .ok (.iaload, 1) := by decide +kernel
theorem dL_flick_552 : decode cL_flick 552 = .ok (.iadd, 1) := by decide +kernel
theorem dL_flick_553 : decode cL_flick 553 = .ok (.iastore, 1) := by decide +kernel
theorem dL_flick_554 : decode cL_flick 554 = .ok (.iload 15, 2) := by decide +kernel
theorem dL_flick_556 : decode cL_flick 556 = .ok (.aload 8, 2) := by decide +kernel
theorem dL_flick_558 : decode cL_flick 558 = .ok (.iload 16, 2) := by decide +kernel
theorem dL_flick_560 : decode cL_flick 560 = .ok (.iaload, 1) := by decide +kernel
theorem dL_flick_561 : decode cL_flick 561 = .ok (.ior, 1) := by decide +kernel
theorem dL_flick_562 : decode cL_flick 562 = .ok (.istore 15, 2) := by decide +kernel
theorem dL_flick_564 : decode cL_flick 564 = .ok (.aload 5, 2) := by decide +kernel
theorem dL_flick_566 : decode cL_flick 566 = .ok (.iconst 5, 1) := by decide +kernel
theorem dL_flick_567 : decode cL_flick 567 = .ok (.iload 16, 2) := by decide +kernel
theorem dL_flick_569 : decode cL_flick 569 = .ok (.imul, 1) := by decide +kernel
theorem dL_flick_570 : decode cL_flick 570 = .ok (.iconst 4, 1) := by decide +kernel
theorem dL_flick_571 : decode cL_flick 571 = .ok (.iadd, 1) := by decide +kernel
theorem dL_flick_572 : decode cL_flick 572 = .ok (.iload_n 0, 1) := by decide +kernel
theorem dL_flick_573 : decode cL_flick 573 = .ok (.iastore, 1) := by decide +kernel
theorem dL_flick_574 : decode cL_flick 574 = .ok (.iinc 16 1, 3) := by decide +kernel
theorem dL_flick_577 : decode cL_flick 577 = .ok (.goto (-114), 3) := by decide +kernel
theorem dL_flick_580 : decode cL_flick 580 = .ok (.aload 4, 2) := by decide +kernel
theorem dL_flick_582 : decode cL_flick 582 = .ok (.iconst 3, 1) := by decide +kernel
theorem dL_flick_583 : decode cL_flick 583 = .ok (.dup2, 1) := by decide +kernel
theorem dL_flick_584 : decode cL_flick 584 = .ok (.iaload, 1) := by decide +kernel
theorem dL_flick_585 : decode cL_flick 585 = .ok (.iconst 1, 1) := by decide +kernel
theorem dL_flick_586 : decode cL_flick 586 = .ok (.iadd, 1) := by decide +kernel
theorem dL_flick_587 : decode cL_flick 587 = .ok (.iastore, 1) := by decide +kernel
theorem dL_flick_588 : decode cL_flick 588 = .ok (.aload 4, 2) := by decide +kernel
theorem dL_flick_590 : decode cL_flick 590 = .ok (.iconst 4, 1) := by decide +kernel
theorem dL_flick_591 : decode cL_flick 591 = .ok (.dup2, 1) := by decide +kernel
theorem dL_flick_592 : decode cL_flick 592 = .ok (.iaload, 1) := by decide +kernel
theorem dL_flick_593 : decode cL_flick 593 = .ok (.iload 14, 2) := by decide +kernel
theorem dL_flick_595 : decode cL_flick 595 = .ok (.iadd, 1) := by decide +kernel
theorem dL_flick_596 : decode cL_flick 596 = .ok (.iastore, 1) := by decide +kernel
theorem dL_flick_597 : decode cL_flick 597 = .ok (.aload 4, 2) := by decide +kernel
theorem dL_flick_599 : decode cL_flick 599 = .ok (.iconst 5, 1) := by decide +kernel
theorem dL_flick_600 : decode cL_flick 600 = .ok (.dup2, 1) := by decide +kernel
theorem dL_flick_601 : decode cL_flick 601 = .ok (.iaload, 1) := by decide +kernel
theorem dL_flick_602 : decode cL_flick 602 = .ok (.aload 7, 2) := by decide +kernel
theorem dL_flick_604 : decode cL_flick 604 = .ok (.iconst 0, 1) := by decide +kernel
theorem dL_flick_605 : decode cL_flick 605 = .ok (.iaload, 1) := by decide +kernel
theorem dL_flick_606 : decode cL_flick 606 = .ok (.iadd, 1) := by decide +kernel
theorem dL_flick_607 : decode cL_flick 607 = .ok (.iastore, 1) := by decide +kernel
theorem dL_flick_608 : decode cL_flick 608 = .ok (.iconst 0, 1) := by decide +kernel
theorem dL_flick_609 : decode cL_flick 609 = .ok (.istore 16, 2) := by decide +kernel
theorem dL_flick_611 : decode cL_flick 611 = .ok (.iload 16, 2) := by decide +kernel
theorem dL_flick_613 : decode cL_flick 613 = .ok (.aload 4, 2) := by decide +kernel
theorem dL_flick_615 : decode cL_flick 615 = .ok (.iconst 1, 1) := by decide +kernel
theorem dL_flick_616 : decode cL_flick 616 = .ok (.iaload, 1) := by decide +kernel
theorem dL_flick_617 : decode cL_flick 617 = .ok (.if_icmp .ge 58, 3) := by decide +kernel
theorem dL_flick_620 : decode cL_flick 620 = .ok (.iload 15, 2) := by decide +kernel
theorem dL_flick_622 : decode cL_flick 622 = .ok (.iload 16, 2) := by decide +kernel
theorem dL_flick_624 : decode cL_flick 624 = .ok (.ishr, 1) := by decide +kernel
theorem dL_flick_625 : decode cL_flick 625 = .ok (.iconst 1, 1) := by decide +kernel
theorem dL_flick_626 : decode cL_flick 626 = .ok (.iand, 1) := by decide +kernel
theorem dL_flick_627 : decode cL_flick 627 = .ok (.ifCond .eq 42, 3) := by decide +kernel
theorem dL_flick_630 : decode cL_flick 630 = .ok (.aload 6, 2) := by decide +kernel
theorem dL_flick_632 : decode cL_flick 632 = .ok (.iconst 3, 1) := by decide +kernel
theorem dL_flick_633 : decode cL_flick 633 = .ok (.iload 16, 2) := by decide +kernel
theorem dL_flick_635 : decode cL_flick 635 = .ok (.imul, 1) := by decide +kernel
theorem dL_flick_636 : decode cL_flick 636 = .ok (.iconst 2, 1) := by decide +kernel
theorem dL_flick_637 : decode cL_flick 637 = .ok (.iadd, 1) := by decide +kernel
theorem dL_flick_638 : decode cL_flick 638 = .ok (.iaload, 1) := by decide +kernel
theorem dL_flick_639 : decode cL_flick 639 = .ok (.bipush 15, 2) := by decide +kernel
theorem dL_flick_641 : decode cL_flick 641 = .ok (.if_icmp .ne 6, 3) := by decide +kernel
theorem dL_flick_644 : decode cL_flick 644 = .ok (.goto 25, 3) := by decide +kernel
theorem dL_flick_647 : decode cL_flick 647 = .ok (.aload 6, 2) := by decide +kernel
theorem dL_flick_649 : decode cL_flick 649 = .ok (.iconst 3, 1) := by decide +kernel
theorem dL_flick_650 : decode cL_flick 650 = .ok (.iload 16, 2) := by decide +kernel
theorem dL_flick_652 : decode cL_flick 652 = .ok (.imul, 1) := by decide +kernel
theorem dL_flick_653 : decode cL_flick 653 = .ok (.iconst 2, 1) := by decide +kernel
theorem dL_flick_654 : decode cL_flick 654 = .ok (.iadd, 1) := by decide +kernel
theorem dL_flick_655 : decode cL_flick 655 = .ok (.dup2, 1) := by decide +kernel
theorem dL_flick_656 : decode cL_flick 656 = .ok (.iaload, 1) := by decide +kernel
theorem dL_flick_657 : decode cL_flick 657 = .ok (.iconst 1, 1) := by decide +kernel
theorem dL_flick_658 : decode cL_flick 658 = .ok (.iadd, 1) := by decide +kernel
theorem dL_flick_659 : decode cL_flick 659 = .ok (.iastore, 1) := by decide +kernel
theorem dL_flick_660 : decode cL_flick 660 = .ok (.aload 4, 2) := by decide +kernel
theorem dL_flick_662 : decode cL_flick 662 = .ok (.bipush 6, 2) := by decide +kernel
theorem dL_flick_664 : decode cL_flick 664 = .ok (.dup2, 1) := by decide +kernel
theorem dL_flick_665 : decode cL_flick 665 = .ok (.iaload, 1) := by decide +kernel
theorem dL_flick_666 : decode cL_flick 666 = .ok (.iconst 1, 1) := by decide +kernel
theorem dL_flick_667 : decode cL_flick 667 = .ok (.iadd, 1) := by decide +kernel
theorem dL_flick_668 : decode cL_flick 668 = .ok (.iastore, 1) := by decide +kernel
theorem dL_flick_669 : decode cL_flick 669 = .ok (.iinc 16 1, 3) := by decide +kernel
theorem dL_flick_672 : decode cL_flick 672 = .ok (.goto (-61), 3) := by decide +kernel
theorem dL_flick_675 : decode cL_flick 675 = .ok (.return_, 1) := by decide +kernel
theorem dL_then_0 : decode cL_then 0 = .ok (.bipush 8, 2) := by decide +kernel
theorem dL_then_2 : decode cL_then 2 = .ok (.newarray .int, 2) := by decide +kernel
theorem dL_then_4 : decode cL_then 4 = .ok (.astore 7, 2) := by decide +kernel
theorem dL_then_6 : decode cL_then 6 = .ok (.bipush 60, 2) := by decide +kernel
theorem dL_then_8 : decode cL_then 8 = .ok (.newarray .int, 2) := by decide +kernel
theorem dL_then_10 : decode cL_then 10 = .ok (.astore 8, 2) := by decide +kernel
theorem dL_then_12 : decode cL_then 12 = .ok (.bipush 12, 2) := by decide +kernel
theorem dL_then_14 : decode cL_then 14 = .ok (.newarray .int, 2) := by decide +kernel
theorem dL_then_16 : decode cL_then 16 = .ok (.astore 9, 2) := by decide +kernel
theorem dL_then_18 : decode cL_then 18 = .ok (.iconst 5, 1) := by decide +kernel
theorem dL_then_19 : decode cL_then 19 = .ok (.newarray .int, 2) := by decide +kernel
theorem dL_then_21 : decode cL_then 21 = .ok (.astore 10, 2) := by decide +kernel
theorem dL_then_23 : decode cL_then 23 = .ok (.iconst 0, 1) := by decide +kernel
theorem dL_then_24 : decode cL_then 24 = .ok (.istore 11, 2) := by decide +kernel
theorem dL_then_26 : decode cL_then 26 = .ok (.iload 11, 2) := by decide +kernel
theorem dL_then_28 : decode cL_then 28 = .ok (.bipush 60, 2) := by decide +kernel
theorem dL_then_30 : decode cL_then 30 = .ok (.if_icmp .ge 53, 3) := by decide +kernel
theorem dL_then_33 : decode cL_then 33 = .ok (.aload 8, 2) := by decide +kernel
theorem dL_then_35 : decode cL_then 35 = .ok (.iload 11, 2) := by decide +kernel
theorem dL_then_37 : decode cL_then 37 = .ok (.aload 5, 2) := by decide +kernel
theorem dL_then_39 : decode cL_then 39 = .ok (.iload 11, 2) := by decide +kernel
theorem dL_then_41 : decode cL_then 41 = .ok (.iaload, 1) := by decide +kernel
theorem dL_then_42 : decode cL_then 42 = .ok (.iastore, 1) := by decide +kernel
theorem dL_then_43 : decode cL_then 43 = .ok (.iload 11, 2) := by decide +kernel
theorem dL_then_45 : decode cL_then 45 = .ok (.bipush 12, 2) := by decide +kernel
theorem dL_then_47 : decode cL_then 47 = .ok (.if_icmp .ge 13, 3) := by decide +kernel
theorem dL_then_50 : decode cL_then 50 = .ok (.aload 9, 2) := by decide +kernel
theorem dL_then_52 : decode cL_then 52 = .ok (.iload 11, 2) := by decide +kernel
theorem dL_then_54 : decode cL_then 54 = .ok (.aload 6, 2) := by decide +kernel
theorem dL_then_56 : decode cL_then 56 = .ok (.iload 11, 2) := by decide +kernel
theorem dL_then_58 : decode cL_then 58 = .ok (.iaload, 1) := by decide +kernel
theorem dL_then_59 : decode cL_then 59 = .ok (.iastore, 1) := by decide +kernel
theorem dL_then_60 : decode cL_then 60 = .ok (.iload 11, 2) := by decide +kernel
theorem dL_then_62 : decode cL_then 62 = .ok (.bipush 8, 2) := by decide +kernel
theorem dL_then_64 : decode cL_then 64 = .ok (.if_icmp .ge 13, 3) := by decide +kernel
theorem dL_then_67 : decode cL_then 67 = .ok (.aload 7, 2) := by decide +kernel
theorem dL_then_69 : decode cL_then 69 = .ok (.iload 11, 2) := by decide +kernel
theorem dL_then_71 : decode cL_then 71 = .ok (.aload 4, 2) := by decide +kernel
theorem dL_then_73 : decode cL_then 73 = .ok (.iload 11, 2) := by decide +kernel
theorem dL_then_75 : decode cL_then 75 = .ok (.iaload, 1) := by decide +kernel
theorem dL_then_76 : decode cL_then 76 = .ok (.iastore, 1) := by decide +kernel
theorem dL_then_77 : decode cL_then 77 = .ok (.iinc 11 1, 3) := by decide +kernel
theorem dL_then_80 : decode cL_then 80 = .ok (.goto (-54), 3) := by decide +kernel
theorem dL_then_83 : decode cL_then 83 = .ok (.aload 5, 2) := by decide +kernel
theorem dL_then_85 : decode cL_then 85 = .ok (.iconst 5, 1) := by decide +kernel
theorem dL_then_86 : decode cL_then 86 = .ok (.iload_n 0, 1) := by decide +kernel
theorem dL_then_87 : decode cL_then 87 = .ok (.imul, 1) := by decide +kernel
theorem dL_then_88 : decode cL_then 88 = .ok (.iconst 3, 1) := by decide +kernel
theorem dL_then_89 : decode cL_then 89 = .ok (.iadd, 1) := by decide +kernel
theorem dL_then_90 : decode cL_then 90 = .ok (.iaload, 1) := by decide +kernel
theorem dL_then_91 : decode cL_then 91 = .ok (.iload_n 0, 1) := by decide +kernel
theorem dL_then_92 : decode cL_then 92 = .ok (.iload_n 1, 1) := by decide +kernel
theorem dL_then_93 : decode cL_then 93 = .ok (.iload_n 2, 1) := by decide +kernel
theorem dL_then_94 : decode cL_then 94 = .ok (.aload 7, 2) := by decide +kernel
theorem dL_then_96 : decode cL_then 96 = .ok (.aload 8, 2) := by decide +kernel
theorem dL_then_98 : decode cL_then 98 = .ok (.aload 9, 2) := by decide +kernel
theorem dL_then_100 : decode cL_then 100 = .ok (.aload 10, 2) := by decide +kernel
theorem dL_then_102 : decode cL_then 102 = .ok (.invokestatic 27, 3) := by decide +kernel
theorem dL_then_105 : decode cL_then 105 = .ok (.aload 10, 2) := by decide +kernel
theorem dL_then_107 : decode cL_then 107 = .ok (.iload_n 3, 1) := by decide +kernel
theorem dL_then_108 : decode cL_then 108 = .ok (.iaload, 1) := by decide +kernel
theorem dL_then_109 : decode cL_then 109 = .ok (.ireturn, 1) := by decide +kernel
theorem dL_score_0 : decode cL_score 0 = .ok (.iconst 0, 1) := by decide +kernel
theorem dL_score_1 : decode cL_score 1 = .ok (.istore_n 3, 1) := by decide +kernel
theorem dL_score_2 : decode cL_score 2 = .ok (.iconst 0, 1) := by decide +kernel
theorem dL_score_3 : decode cL_score 3 = .ok (.istore 4, 2) := by decide +kernel
theorem dL_score_5 : decode cL_score 5 = .ok (.iload 4, 2) := by decide +kernel
theorem dL_score_7 : decode cL_score 7 = .ok (.aload_n 1, 1) := by decide +kernel
theorem dL_score_8 : decode cL_score 8 = .ok (.iconst 0, 1) := by decide +kernel
theorem dL_score_9 : decode cL_score 9 = .ok (.iaload, 1) := by decide +kernel
theorem dL_score_10 : decode cL_score 10 = .ok (.if_icmp .ge 69, 3) := by decide +kernel
theorem dL_score_13 : decode cL_score 13 = .ok (.aload_n 2, 1) := by decide +kernel
theorem dL_score_14 : decode cL_score 14 = .ok (.iconst 5, 1) := by decide +kernel
theorem dL_score_15 : decode cL_score 15 = .ok (.iload 4, 2) := by decide +kernel
theorem dL_score_17 : decode cL_score 17 = .ok (.imul, 1) := by decide +kernel
theorem dL_score_18 : decode cL_score 18 = .ok (.iconst 4, 1) := by decide +kernel
theorem dL_score_19 : decode cL_score 19 = .ok (.iadd, 1) := by decide +kernel
theorem dL_score_20 : decode cL_score 20 = .ok (.iaload, 1) := by decide +kernel
theorem dL_score_21 : decode cL_score 21 = .ok (.iload_n 0, 1) := by decide +kernel
theorem dL_score_22 : decode cL_score 22 = .ok (.if_icmp .ne 17, 3) := by decide +kernel
theorem dL_score_25 : decode cL_score 25 = .ok (.iload_n 3, 1) := by decide +kernel
theorem dL_score_26 : decode cL_score 26 = .ok (.aload_n 2, 1) := by decide +kernel
theorem dL_score_27 : decode cL_score 27 = .ok (.iconst 5, 1) := by decide +kernel
theorem dL_score_28 : decode cL_score 28 = .ok (.iload 4, 2) := by decide +kernel
theorem dL_score_30 : decode cL_score 30 = .ok (.imul, 1) := by decide +kernel
theorem dL_score_31 : decode cL_score 31 = .ok (.iconst 2, 1) := by decide +kernel
theorem dL_score_32 : decode cL_score 32 = .ok (.iadd, 1) := by decide +kernel
theorem dL_score_33 : decode cL_score 33 = .ok (.iaload, 1) := by decide +kernel
theorem dL_score_34 : decode cL_score 34 = .ok (.iadd, 1) := by decide +kernel
theorem dL_score_35 : decode cL_score 35 = .ok (.istore_n 3, 1) := by decide +kernel
theorem dL_score_36 : decode cL_score 36 = .ok (.goto 37, 3) := by decide +kernel
theorem dL_score_39 : decode cL_score 39 = .ok (.aload_n 2, 1) := by decide +kernel
theorem dL_score_40 : decode cL_score 40 = .ok (.iconst 5, 1) := by decide +kernel
theorem dL_score_41 : decode cL_score 41 = .ok (.iload 4, 2) := by decide +kernel
theorem dL_score_43 : decode cL_score 43 = .ok (.imul, 1) := by decide +kernel
theorem dL_score_44 : decode cL_score 44 = .ok (.iconst 4, 1) := by decide +kernel
theorem dL_score_45 : decode cL_score 45 = .ok (.iadd, 1) := by decide +kernel
theorem dL_score_46 : decode cL_score 46 = .ok (.iaload, 1) := by decide +kernel
theorem dL_score_47 : decode cL_score 47 = .ok (.ifCond .lt 26, 3) := by decide +kernel
theorem dL_score_50 : decode cL_score 50 = .ok (.aload_n 2, 1) := by decide +kernel
theorem dL_score_51 : decode cL_score 51 = .ok (.iconst 5, 1) := by decide +kernel
theorem dL_score_52 : decode cL_score 52 = .ok (.iload 4, 2) := by decide +kernel
theorem dL_score_54 : decode cL_score 54 = .ok (.imul, 1) := by decide +kernel
theorem dL_score_55 : decode cL_score 55 = .ok (.iconst 3, 1) := by decide +kernel
theorem dL_score_56 : decode cL_score 56 = .ok (.iadd, 1) := by decide +kernel
theorem dL_score_57 : decode cL_score 57 = .ok (.iaload, 1) := by decide +kernel
theorem dL_score_58 : decode cL_score 58 = .ok (.iload_n 0, 1) := by decide +kernel
theorem dL_score_59 : decode cL_score 59 = .ok (.if_icmp .ne 14, 3) := by decide +kernel
theorem dL_score_62 : decode cL_score 62 = .ok (.iload_n 3, 1) := by decide +kernel
theorem dL_score_63 : decode cL_score 63 = .ok (.aload_n 2, 1) := by decide +kernel
theorem dL_score_64 : decode cL_score 64 = .ok (.iconst 5, 1) := by decide +kernel
theorem dL_score_65 : decode cL_score 65 = .ok (.iload 4, 2) := by decide +kernel
theorem dL_score_67 : decode cL_score 67 = .ok (.imul, 1) := by decide +kernel
theorem dL_score_68 : decode cL_score 68 = .ok (.iconst 2, 1) := by decide +kernel
theorem dL_score_69 : decode cL_score 69 = .ok (.iadd, 1) := by decide +kernel
theorem dL_score_70 : decode cL_score 70 = .ok (.iaload, 1) := by decide +kernel
theorem dL_score_71 : decode cL_score 71 = .ok (.isub, 1) := by decide +kernel
theorem dL_score_72 : decode cL_score 72 = .ok (.istore_n 3, 1) := by decide +kernel
theorem dL_score_73 : decode cL_score 73 = .ok (.iinc 4 1, 3) := by decide +kernel
theorem dL_score_76 : decode cL_score 76 = .ok (.goto (-71), 3) := by decide +kernel
theorem dL_score_79 : decode cL_score 79 = .ok (.iload_n 3, 1) := by decide +kernel
theorem dL_score_80 : decode cL_score 80 = .ok (.ireturn, 1) := by decide +kernel
theorem dL_same_0 : decode cL_same 0 = .ok (.iconst 0, 1) := by decide +kernel
theorem dL_same_1 : decode cL_same 1 = .ok (.istore 5, 2) := by decide +kernel
theorem dL_same_3 : decode cL_same 3 = .ok (.iload 5, 2) := by decide +kernel
theorem dL_same_5 : decode cL_same 5 = .ok (.bipush 8, 2) := by decide +kernel
theorem dL_same_7 : decode cL_same 7 = .ok (.if_icmp .ge 24, 3) := by decide +kernel
theorem dL_same_10 : decode cL_same 10 = .ok (.aload_n 0, 1) := by decide +kernel
theorem dL_same_11 : decode cL_same 11 = .ok (.iload 5, 2) := by decide +kernel
theorem dL_same_13 : decode cL_same 13 = .ok (.invokevirtual 31, 3) := by decide +kernel
theorem dL_same_16 : decode cL_same 16 = .ok (.aload_n 2, 1) := by decide +kernel
theorem dL_same_17 : decode cL_same 17 = .ok (.iload 5, 2) := by decide +kernel
theorem dL_same_19 : decode cL_same 19 = .ok (.iaload, 1) := by decide +kernel
theorem dL_same_20 : decode cL_same 20 = .ok (.if_icmp .eq 5, 3) := by decide +kernel
theorem dL_same_23 : decode cL_same 23 = .ok (.iconst 0, 1) := by decide +kernel
theorem dL_same_24 : decode cL_same 24 = .ok (.ireturn, 1) := by decide +kernel
theorem dL_same_25 : decode cL_same 25 = .ok (.iinc 5 1, 3) := by decide +kernel
theorem dL_same_28 : decode cL_same 28 = .ok (.goto (-25), 3) := by decide +kernel
theorem dL_same_31 : decode cL_same 31 = .ok (.iconst 0, 1) := by decide +kernel
theorem dL_same_32 : decode cL_same 32 = .ok (.istore 5, 2) := by decide +kernel
theorem dL_same_34 : decode cL_same 34 = .ok (.iload 5, 2) := by decide +kernel
theorem dL_same_36 : decode cL_same 36 = .ok (.aload_n 2, 1) := by decide +kernel
theorem dL_same_37 : decode cL_same 37 = .ok (.iconst 0, 1) := by decide +kernel
theorem dL_same_38 : decode cL_same 38 = .ok (.iaload, 1) := by decide +kernel
theorem dL_same_39 : decode cL_same 39 = .ok (.if_icmp .ge 349, 3) := by decide +kernel
theorem dL_same_42 : decode cL_same 42 = .ok (.aload_n 3, 1) := by decide +kernel
theorem dL_same_43 : decode cL_same 43 = .ok (.iconst 5, 1) := by decide +kernel
theorem dL_same_44 : decode cL_same 44 = .ok (.iload 5, 2) := by decide +kernel
theorem dL_same_46 : decode cL_same 46 = .ok (.imul, 1) := by decide +kernel
theorem dL_same_47 : decode cL_same 47 = .ok (.iconst 4, 1) := by decide +kernel
theorem dL_same_48 : decode cL_same 48 = .ok (.iadd, 1) := by decide +kernel
theorem dL_same_49 : decode cL_same 49 = .ok (.iaload, 1) := by decide +kernel
theorem dL_same_50 : decode cL_same 50 = .ok (.ifCond .ge 7, 3) := by decide +kernel
theorem dL_same_53 : decode cL_same 53 = .ok (.iconst 1, 1) := by decide +kernel
theorem dL_same_54 : decode cL_same 54 = .ok (.goto 4, 3) := by decide +kernel
theorem dL_same_57 : decode cL_same 57 = .ok (.iconst 0, 1) := by decide +kernel
theorem dL_same_58 : decode cL_same 58 = .ok (.istore 6, 2) := by decide +kernel
theorem dL_same_60 : decode cL_same 60 = .ok (.aload_n 3, 1) := by decide +kernel
theorem dL_same_61 : decode cL_same 61 = .ok (.iconst 5, 1) := by decide +kernel
theorem dL_same_62 : decode cL_same 62 = .ok (.iload 5, 2) := by decide +kernel
theorem dL_same_64 : decode cL_same 64 = .ok (.imul, 1) := by decide +kernel
theorem dL_same_65 : decode cL_same 65 = .ok (.iaload, 1) := by decide +kernel
theorem dL_same_66 : decode cL_same 66 = .ok (.istore 7, 2) := by decide +kernel
theorem dL_same_68 : decode cL_same 68 = .ok (.aload_n 3, 1) := by decide +kernel
theorem dL_same_69 : decode cL_same 69 = .ok (.iconst 5, 1) := by decide +kernel
theorem dL_same_70 : decode cL_same 70 = .ok (.iload 5, 2) := by decide +kernel
theorem dL_same_72 : decode cL_same 72 = .ok (.imul, 1) := by decide +kernel
theorem dL_same_73 : decode cL_same 73 = .ok (.iconst 1, 1) := by decide +kernel
theorem dL_same_74 : decode cL_same 74 = .ok (.iadd, 1) := by decide +kernel
theorem dL_same_75 : decode cL_same 75 = .ok (.iaload, 1) := by decide +kernel
theorem dL_same_76 : decode cL_same 76 = .ok (.istore 8, 2) := by decide +kernel
theorem dL_same_78 : decode cL_same 78 = .ok (.iload 7, 2) := by decide +kernel
theorem dL_same_80 : decode cL_same 80 = .ok (.iload 8, 2) := by decide +kernel
theorem dL_same_82 : decode cL_same 82 = .ok (.aload_n 2, 1) := by decide +kernel
theorem dL_same_83 : decode cL_same 83 = .ok (.aload 4, 2) := by decide +kernel
theorem dL_same_85 : decode cL_same 85 = .ok (.invokestatic 16, 3) := by decide +kernel
theorem dL_same_88 : decode cL_same 88 = .ok (.istore 9, 2) := by decide +kernel
theorem dL_same_90 : decode cL_same 90 = .ok (.aload_n 0, 1) := by decide +kernel
theorem dL_same_91 : decode cL_same 91 = .ok (.iload 5, 2) := by decide +kernel
theorem dL_same_93 : decode cL_same 93 = .ok (.iconst 0, 1) := by decide +kernel
theorem dL_same_94 : decode cL_same 94 = .ok (.invokevirtual 37, 3) := by decide +kernel
theorem dL_same_97 : decode cL_same 97 = .ok (.iload 6, 2) := by decide +kernel
theorem dL_same_99 : decode cL_same 99 = .ok (.ifCond .eq 8, 3) := by decide +kernel
theorem dL_same_102 : decode cL_same 102 = .ok (.iload 7, 2) := by decide +kernel
theorem dL_same_104 : decode cL_same 104 = .ok (.goto 6, 3) := by decide +kernel
theorem dL_same_107 : decode cL_same 107 = .ok (.sipush (-1006), 3) := by decide +kernel
theorem dL_same_110 : decode cL_same 110 = .ok (.if_icmp .ne 121, 3) := by decide +kernel
theorem dL_same_113 : decode cL_same 113 = .ok (.aload_n 0, 1) := by decide +kernel
theorem dL_same_114 : decode cL_same 114 = .ok (.iload 5, 2) := by decide +kernel
theorem dL_same_116 : decode cL_same 116 = .ok (.iconst 1, 1) := by decide +kernel
theorem dL_same_117 : decode cL_same 117 = .ok (.invokevirtual 37, 3) := by decide +kernel
theorem dL_same_120 : decode cL_same 120 = .ok (.iload 6, 2) := by decide +kernel
theorem dL_same_122 : decode cL_same 122 = .ok (.ifCond .eq 8, 3) := by decide +kernel
theorem dL_same_125 : decode cL_same 125 = .ok (.iload 8, 2) := by decide +kernel
theorem dL_same_127 : decode cL_same 127 = .ok (.goto 6, 3) := by decide +kernel
theorem dL_same_130 : decode cL_same 130 = .ok (.sipush (-1006), 3) := by decide +kernel
theorem dL_same_133 : decode cL_same 133 = .ok (.if_icmp .ne 98, 3) := by decide +kernel
theorem dL_same_136 : decode cL_same 136 = .ok (.aload_n 0, 1) := by decide +kernel
theorem dL_same_137 : decode cL_same 137 = .ok (.iload 5, 2) := by decide +kernel
theorem dL_same_139 : decode cL_same 139 = .ok (.iconst 2, 1) := by decide +kernel
theorem dL_same_140 : decode cL_same 140 = .ok (.invokevirtual 37, 3) := by decide +kernel
theorem dL_same_143 : decode cL_same 143 = .ok (.aload_n 3, 1) := by decide +kernel
theorem dL_same_144 : decode cL_same 144 = .ok (.iconst 5, 1) := by decide +kernel
theorem dL_same_145 : decode cL_same 145 = .ok (.iload 5, 2) := by decide +kernel
theorem dL_same_147 : decode cL_same 147 = .ok (.imul, 1) := by decide +kernel
theorem dL_same_148 : decode cL_same 148 = .ok (.iconst 2, 1) := by decide +kernel
theorem dL_same_149 : decode cL_same 149 = .ok (.iadd, 1) := by decide +kernel
theorem dL_same_150 : decode cL_same 150 = .ok (.iaload, 1) := by decide +kernel
theorem dL_same_151 : decode cL_same 151 = .ok (.if_icmp .ne 80, 3) := by decide +kernel
theorem dL_same_154 : decode cL_same 154 = .ok (.aload_n 0, 1) := by decide +kernel
theorem dL_same_155 : decode cL_same 155 = .ok (.iload 5, 2) := by decide +kernel
theorem dL_same_157 : decode cL_same 157 = .ok (.iconst 3, 1) := by decide +kernel
theorem dL_same_158 : decode cL_same 158 = .ok (.invokevirtual 37, 3) := by decide +kernel
theorem dL_same_161 : decode cL_same 161 = .ok (.aload_n 3, 1) := by decide +kernel
theorem dL_same_162 : decode cL_same 162 = .ok (.iconst 5, 1) := by decide +kernel
theorem dL_same_163 : decode cL_same 163 = .ok (.iload 5, 2) := by decide +kernel
theorem dL_same_165 : decode cL_same 165 = .ok (.imul, 1) := by decide +kernel
theorem dL_same_166 : decode cL_same 166 = .ok (.iconst 3, 1) := by decide +kernel
theorem dL_same_167 : decode cL_same 167 = .ok (.iadd, 1) := by decide +kernel
theorem dL_same_168 : decode cL_same 168 = .ok (.iaload, 1) := by decide +kernel
theorem dL_same_169 : decode cL_same 169 = .ok (.if_icmp .ne 62, 3) := by decide +kernel
theorem dL_same_172 : decode cL_same 172 = .ok (.aload_n 0, 1) := by decide +kernel
theorem dL_same_173 : decode cL_same 173 = .ok (.iload 5, 2) := by decide +kernel
theorem dL_same_175 : decode cL_same 175 = .ok (.iconst 4, 1) := by decide +kernel
theorem dL_same_176 : decode cL_same 176 = .ok (.invokevirtual 37, 3) := by decide +kernel
theorem dL_same_179 : decode cL_same 179 = .ok (.aload_n 3, 1) := by decide +kernel
theorem dL_same_180 : decode cL_same 180 = .ok (.iconst 5, 1) := by decide +kernel
theorem dL_same_181 : decode cL_same 181 = .ok (.iload 5, 2) := by decide +kernel
theorem dL_same_183 : decode cL_same 183 = .ok (.imul, 1) := by decide +kernel
theorem dL_same_184 : decode cL_same 184 = .ok (.iconst 4, 1) := by decide +kernel
theorem dL_same_185 : decode cL_same 185 = .ok (.iadd, 1) := by decide +kernel
theorem dL_same_186 : decode cL_same 186 = .ok (.iaload, 1) := by decide +kernel
theorem dL_same_187 : decode cL_same 187 = .ok (.if_icmp .ne 44, 3) := by decide +kernel
theorem dL_same_190 : decode cL_same 190 = .ok (.aload_n 0, 1) := by decide +kernel
theorem dL_same_191 : decode cL_same 191 = .ok (.iload 5, 2) := by decide +kernel
theorem dL_same_193 : decode cL_same 193 = .ok (.iconst 5, 1) := by decide +kernel
theorem dL_same_194 : decode cL_same 194 = .ok (.invokevirtual 37, 3) := by decide +kernel
theorem dL_same_197 : decode cL_same 197 = .ok (.iload 6, 2) := by decide +kernel
theorem dL_same_199 : decode cL_same 199 = .ok (.ifCond .eq 8, 3) := by decide +kernel
theorem dL_same_202 : decode cL_same 202 = .ok (.iload 9, 2) := by decide +kernel
theorem dL_same_204 : decode cL_same 204 = .ok (.goto 6, 3) := by decide +kernel
theorem dL_same_207 : decode cL_same 207 = .ok (.sipush (-1006), 3) := by decide +kernel
theorem dL_same_210 : decode cL_same 210 = .ok (.if_icmp .ne 21, 3) := by decide +kernel
theorem dL_same_213 : decode cL_same 213 = .ok (.iload 6, 2) := by decide +kernel
theorem dL_same_215 : decode cL_same 215 = .ok (.ifCond .eq 18, 3) := by decide +kernel
theorem dL_same_218 : decode cL_same 218 = .ok (.aload_n 0, 1) := by decide +kernel
theorem dL_same_219 : decode cL_same 219 = .ok (.iload 7, 2) := by decide +kernel
theorem dL_same_221 : decode cL_same 221 = .ok (.iload 8, 2) := by decide +kernel
theorem dL_same_223 : decode cL_same 223 = .ok (.invokevirtual 40, 3) := by decide +kernel
theorem dL_same_226 : decode cL_same 226 = .ok (.iload 5, 2) := by decide +kernel
theorem dL_same_228 : decode cL_same 228 = .ok (.if_icmp .eq 5, 3) := by decide +kernel
theorem dL_same_231 : decode cL_same 231 = .ok (.iconst 0, 1) := by decide +kernel
theorem dL_same_232 : decode cL_same 232 = .ok (.ireturn, 1) := by decide +kernel
theorem dL_same_233 : decode cL_same 233 = .ok (.iload 9, 2) := by decide +kernel
theorem dL_same_235 : decode cL_same 235 = .ok (.ifCond .ne 7, 3) := by decide +kernel
theorem dL_same_238 : decode cL_same 238 = .ok (.iconst 0, 1) := by decide +kernel
theorem dL_same_239 : decode cL_same 239 = .ok (.goto 6, 3) := by decide +kernel
theorem dL_same_242 : decode cL_same 242 = .ok (.sipush (-1006), 3) := by decide +kernel
theorem dL_same_245 : decode cL_same 245 = .ok (.istore 10, 2) := by decide +kernel
theorem dL_same_247 : decode cL_same 247 = .ok (.bipush 30, 2) := by decide +kernel
theorem dL_same_249 : decode cL_same 249 = .ok (.istore 11, 2) := by decide +kernel
theorem dL_same_251 : decode cL_same 251 = .ok (.iload 11, 2) := by decide +kernel
theorem dL_same_253 : decode cL_same 253 = .ok (.ifCond .le 105, 3) := by decide +kernel
theorem dL_same_256 : decode cL_same 256 = .ok (.iload 9, 2) := by decide +kernel
theorem dL_same_258 : decode cL_same 258 = .ok (.ifCond .eq 100, 3) := by decide +kernel
theorem dL_same_261 : decode cL_same 261 = .ok (.iconst 0, 1) := by decide +kernel
theorem dL_same_262 : decode cL_same 262 = .ok (.istore 12, 2) := by decide +kernel
theorem dL_same_264 : decode cL_same 264 = .ok (.iload 12, 2) := by decide +kernel
theorem dL_same_266 : decode cL_same 266 = .ok (.bipush 9, 2) := by decide +kernel
theorem dL_same_268 : decode cL_same 268 = .ok (.if_icmp .ge 84, 3) := by decide +kernel
theorem dL_same_271 : decode cL_same 271 = .ok (.iload 7, 2) := by decide +kernel
theorem dL_same_273 : decode cL_same 273 = .ok (.iload 11, 2) := by decide +kernel
theorem dL_same_275 : decode cL_same 275 = .ok (.iload 12, 2) := by decide +kernel
theorem dL_same_277 : decode cL_same 277 = .ok (.iconst 3, 1) := by decide +kernel
theorem dL_same_278 : decode cL_same 278 = .ok (.idiv, 1) := by decide +kernel
theorem dL_same_279 : decode cL_same 279 = .ok (.iconst 1, 1) := by decide +kernel
theorem dL_same_280 : decode cL_same 280 = .ok (.isub, 1) := by decide +kernel
theorem dL_same_281 : decode cL_same 281 = .ok (.imul, 1) := by decide +kernel
theorem dL_same_282 : decode cL_same 282 = .ok (.iadd, 1) := by decide +kernel
theorem dL_same_283 : decode cL_same 283 = .ok (.istore 13, 2) := by decide +kernel
theorem dL_same_285 : decode cL_same 285 = .ok (.iload 8, 2) := by decide +kernel
theorem dL_same_287 : decode cL_same 287 = .ok (.iload 11, 2) := by decide +kernel
theorem dL_same_289 : decode cL_same 289 = .ok (.iload 12, 2) := by decide +kernel
theorem dL_same_291 : decode cL_same 291 = .ok (.iconst 3, 1) := by decide +kernel
theorem dL_same_292 : decode cL_same 292 = .ok (.irem, 1) := by decide +kernel
theorem dL_same_293 : decode cL_same 293 = .ok (.iconst 1, 1) := by decide +kernel
theorem dL_same_294 : decode cL_same 294 = .ok (.isub, 1) := by decide +kernel
theorem dL_same_295 : decode cL_same 295 = .ok (.imul, 1) := by decide +kernel
theorem dL_same_296 : decode cL_same 296 = .ok (.iadd, 1) := by decide +kernel
theorem dL_same_297 : decode cL_same 297 = .ok (.istore 14, 2) := by decide +kernel
theorem dL_same_299 : decode cL_same 299 = .ok (.iload 12, 2) := by decide +kernel
theorem dL_same_301 : decode cL_same 301 = .ok (.iconst 4, 1) := by decide +kernel
theorem dL_same_302 : decode cL_same 302 = .ok (.if_icmp .eq 44, 3) := by decide +kernel
theorem dL_same_305 : decode cL_same 305 = .ok (.iload 13, 2) := by decide +kernel
theorem dL_same_307 : decode cL_same 307 = .ok (.ifCond .lt 39, 3) := by decide +kernel
theorem dL_same_310 : decode cL_same 310 = .ok (.iload 13, 2) := by decide +kernel
theorem dL_same_312 : decode cL_same 312 = .ok (.bipush 31, 2) := by decide +kernel
theorem dL_same_314 : decode cL_same 314 = .ok (.if_icmp .ge 32, 3) := by decide +kernel
theorem dL_same_317 : decode cL_same 317 = .ok (.iload 14, 2) := by decide +kernel
theorem dL_same_319 : decode cL_same 319 = .ok (.ifCond .lt 27, 3) := by decide +kernel
theorem dL_same_322 : decode cL_same 322 = .ok (.iload 14, 2) := by decide +kernel
theorem dL_same_324 : decode cL_same 324 = .ok (.bipush 31, 2) := by decide +kernel
theorem dL_same_326 : decode cL_same 326 = .ok (.if_icmp .ge 20, 3) := by decide +kernel
theorem dL_same_329 : decode cL_same 329 = .ok (.iload 13, 2) := by decide +kernel
theorem dL_same_331 : decode cL_same 331 = .ok (.iload 14, 2) := by decide +kernel
theorem dL_same_333 : decode cL_same 333 = .ok (.aload_n 2, 1) := by decide +kernel
theorem dL_same_334 : decode cL_same 334 = .ok (.aload 4, 2) := by decide +kernel
theorem dL_same_336 : decode cL_same 336 = .ok (.invokestatic 16, 3) := by decide +kernel
theorem dL_same_339 : decode cL_same 339 = .ok (.ifCond .ne 7, 3) := by decide +kernel
theorem dL_same_342 : decode cL_same 342 = .ok (.iload 11, 2) := by decide +kernel
theorem dL_same_344 : decode cL_same 344 = .ok (.istore 10, 2) := by decide +kernel
theorem dL_same_346 : decode cL_same 346 = .ok (.iinc 12 1, 3) := by decide +kernel
theorem dL_same_349 : decode cL_same 349 = .ok (.goto (-85), 3) := by decide +kernel
theorem dL_same_352 : decode cL_same 352 = .ok (.iinc 11 (-1), 3) := by decide +kernel
theorem dL_same_355 : decode cL_same 355 = .ok (.goto (-104), 3) := by decide +kernel
theorem dL_same_358 : decode cL_same 358 = .ok (.aload_n 0, 1) := by decide +kernel
theorem dL_same_359 : decode cL_same 359 = .ok (.iload 5, 2) := by decide +kernel
theorem dL_same_361 : decode cL_same 361 = .ok (.invokevirtual 42, 3) := by decide +kernel
theorem dL_same_364 : decode cL_same 364 = .ok (.iload 6, 2) := by decide +kernel
theorem dL_same_366 : decode cL_same 366 = .ok (.ifCond .eq 8, 3) := by decide +kernel
theorem dL_same_369 : decode cL_same 369 = .ok (.iload 10, 2) := by decide +kernel
theorem dL_same_371 : decode cL_same 371 = .ok (.goto 6, 3) := by decide +kernel
theorem dL_same_374 : decode cL_same 374 = .ok (.sipush (-1003), 3) := by decide +kernel
theorem dL_same_377 : decode cL_same 377 = .ok (.if_icmp .eq 5, 3) := by decide +kernel
theorem dL_same_380 : decode cL_same 380 = .ok (.iconst 0, 1) := by decide +kernel
theorem dL_same_381 : decode cL_same 381 = .ok (.ireturn, 1) := by decide +kernel
theorem dL_same_382 : decode cL_same 382 = .ok (.iinc 5 1, 3) := by decide +kernel
theorem dL_same_385 : decode cL_same 385 = .ok (.goto (-351), 3) := by decide +kernel
theorem dL_same_388 : decode cL_same 388 = .ok (.iconst 0, 1) := by decide +kernel
theorem dL_same_389 : decode cL_same 389 = .ok (.istore 5, 2) := by decide +kernel
theorem dL_same_391 : decode cL_same 391 = .ok (.iload 5, 2) := by decide +kernel
theorem dL_same_393 : decode cL_same 393 = .ok (.aload_n 2, 1) := by decide +kernel
theorem dL_same_394 : decode cL_same 394 = .ok (.iconst 1, 1) := by decide +kernel
theorem dL_same_395 : decode cL_same 395 = .ok (.iaload, 1) := by decide +kernel
theorem dL_same_396 : decode cL_same 396 = .ok (.if_icmp .ge 208, 3) := by decide +kernel
theorem dL_same_399 : decode cL_same 399 = .ok (.iconst 0, 1) := by decide +kernel
theorem dL_same_400 : decode cL_same 400 = .ok (.istore 6, 2) := by decide +kernel
theorem dL_same_402 : decode cL_same 402 = .ok (.iconst 0, 1) := by decide +kernel
theorem dL_same_403 : decode cL_same 403 = .ok (.istore 7, 2) := by decide +kernel
theorem dL_same_405 : decode cL_same 405 = .ok (.iconst 0, 1) := by decide +kernel
theorem dL_same_406 : decode cL_same 406 = .ok (.istore 8, 2) := by decide +kernel
theorem dL_same_408 : decode cL_same 408 = .ok (.iload 8, 2) := by decide +kernel
theorem dL_same_410 : decode cL_same 410 = .ok (.aload_n 2, 1) := by decide +kernel
theorem dL_same_411 : decode cL_same 411 = .ok (.iconst 0, 1) := by decide +kernel
theorem dL_same_412 : decode cL_same 412 = .ok (.iaload, 1) := by decide +kernel
theorem dL_same_413 : decode cL_same 413 = .ok (.if_icmp .ge 57, 3) := by decide +kernel
theorem dL_same_416 : decode cL_same 416 = .ok (.iload 6, 2) := by decide +kernel
theorem dL_same_418 : decode cL_same 418 = .ok (.aload_n 3, 1) := by decide +kernel
theorem dL_same_419 : decode cL_same 419 = .ok (.iconst 5, 1) := by decide +kernel
theorem dL_same_420 : decode cL_same 420 = .ok (.iload 8, 2) := by decide +kernel
theorem dL_same_422 : decode cL_same 422 = .ok (.imul, 1) := by decide +kernel
theorem dL_same_423 : decode cL_same 423 = .ok (.iconst 4, 1) := by decide +kernel
theorem dL_same_424 : decode cL_same 424 = .ok (.iadd, 1) := by decide +kernel
theorem dL_same_425 : decode cL_same 425 = .ok (.iaload, 1) := by decide +kernel
theorem dL_same_426 : decode cL_same 426 = .ok (.ifCond .ge 34, 3) := by decide +kernel
theorem dL_same_429 : decode cL_same 429 = .ok (.iload 5, 2) := by decide +kernel
theorem dL_same_431 : decode cL_same 431 = .ok (.aload_n 3, 1) := by decide +kernel
theorem dL_same_432 : decode cL_same 432 = .ok (.iconst 5, 1) := by decide +kernel
theorem dL_same_433 : decode cL_same 433 = .ok (.iload 8, 2) := by decide +kernel
theorem dL_same_435 : decode cL_same 435 = .ok (.imul, 1) := by decide +kernel
theorem dL_same_436 : decode cL_same 436 = .ok (.iaload, 1) := by decide +kernel
theorem dL_same_437 : decode cL_same 437 = .ok (.aload_n 3, 1) := by decide +kernel
theorem dL_same_438 : decode cL_same 438 = .ok (.iconst 5, 1) := by decide +kernel
theorem dL_same_439 : decode cL_same 439 = .ok (.iload 8, 2) := by decide +kernel
theorem dL_same_441 : decode cL_same 441 = .ok (.imul, 1) := by decide +kernel
theorem dL_same_442 : decode cL_same 442 = .ok (.iconst 1, 1) := by decide +kernel
theorem dL_same_443 : decode cL_same 443 = .ok (.iadd, 1) := by decide +kernel
theorem dL_same_444 : decode cL_same 444 = .ok (.iaload, 1) := by decide +kernel
theorem dL_same_445 : decode cL_same 445 = .ok (.aload 4, 2) := by decide +kernel
theorem dL_same_447 : decode cL_same 447 = .ok (.invokestatic 10, 3) := by decide +kernel
theorem dL_same_450 : decode cL_same 450 = .ok (.ifCond .eq 10, 3) := by decide +kernel
theorem dL_same_453 : decode cL_same 453 = .ok (.iconst 1, 1) := by decide +kernel
theorem dL_same_454 : decode cL_same 454 = .ok (.iload 8, 2) := by decide +kernel
theorem dL_same_456 : decode cL_same 456 = .ok (.ishl, 1) := by decide +kernel
theorem dL_same_457 : decode cL_same 457 = .ok (.goto 4, 3) := by decide +kernel
theorem dL_same_460 : decode cL_same 460 = .ok (.iconst 0, 1) := by decide +kernel
theorem dL_same_461 : decode cL_same 461 = .ok (.ior, 1) := by decide +kernel
theorem dL_same_462 : decode cL_same 462 = .ok (.istore 6, 2) := by decide +kernel
theorem dL_same_464 : decode cL_same 464 = .ok (.iinc 8 1, 3) := by decide +kernel
theorem dL_same_467 : decode cL_same 467 = .ok (.goto (-59), 3) := by decide +kernel
theorem dL_same_470 : decode cL_same 470 = .ok (.iconst 0, 1) := by decide +kernel
theorem dL_same_471 : decode cL_same 471 = .ok (.istore 8, 2) := by decide +kernel
theorem dL_same_473 : decode cL_same 473 = .ok (.iload 8, 2) := by decide +kernel
theorem dL_same_475 : decode cL_same 475 = .ok (.sipush 961, 3) := by decide +kernel
theorem dL_same_478 : decode cL_same 478 = .ok (.if_icmp .ge 39, 3) := by decide +kernel
theorem dL_same_481 : decode cL_same 481 = .ok (.iload 7, 2) := by decide +kernel
theorem dL_same_483 : decode cL_same 483 = .ok (.iload 5, 2) := by decide +kernel
theorem dL_same_485 : decode cL_same 485 = .ok (.iload 8, 2) := by decide +kernel
theorem dL_same_487 : decode cL_same 487 = .ok (.bipush 31, 2) := by decide +kernel
theorem dL_same_489 : decode cL_same 489 = .ok (.idiv, 1) := by decide +kernel
theorem dL_same_490 : decode cL_same 490 = .ok (.iload 8, 2) := by decide +kernel
theorem dL_same_492 : decode cL_same 492 = .ok (.bipush 31, 2) := by decide +kernel
theorem dL_same_494 : decode cL_same 494 = .ok (.irem, 1) := by decide +kernel
theorem dL_same_495 : decode cL_same 495 = .ok (.aload 4, 2) := by decide +kernel
theorem dL_same_497 : decode cL_same 497 = .ok (.invokestatic 10, 3) := by decide +kernel
theorem dL_same_500 : decode cL_same 500 = .ok (.ifCond .eq 7, 3) := by decide +kernel
theorem dL_same_503 : decode cL_same 503 = .ok (.iconst 1, 1) := by decide +kernel
theorem dL_same_504 : decode cL_same 504 = .ok (.goto 4, 3) := by decide +kernel
theorem dL_same_507 : decode cL_same 507 = .ok (.iconst 0, 1) := by decide +kernel
theorem dL_same_508 : decode cL_same 508 = .ok (.iadd, 1) := by decide +kernel
theorem dL_same_509 : decode cL_same 509 = .ok (.istore 7, 2) := by decide +kernel
theorem dL_same_511 : decode cL_same 511 = .ok (.iinc 8 1, 3) := by decide +kernel
theorem dL_same_514 : decode cL_same 514 = .ok (.goto (-41), 3) := by decide +kernel
theorem dL_same_517 : decode cL_same 517 = .ok (.aload_n 0, 1) := by decide +kernel
theorem dL_same_518 : decode cL_same 518 = .ok (.iload 5, 2) := by decide +kernel
theorem dL_same_520 : decode cL_same 520 = .ok (.iconst 0, 1) := by decide +kernel
theorem dL_same_521 : decode cL_same 521 = .ok (.invokevirtual 45, 3) := by decide +kernel
theorem dL_same_524 : decode cL_same 524 = .ok (.aload 4, 2) := by decide +kernel
theorem dL_same_526 : decode cL_same 526 = .ok (.iconst 3, 1) := by decide +kernel
theorem dL_same_527 : decode cL_same 527 = .ok (.iload 5, 2) := by decide +kernel
theorem dL_same_529 : decode cL_same 529 = .ok (.imul, 1) := by decide +kernel
theorem dL_same_530 : decode cL_same 530 = .ok (.iaload, 1) := by decide +kernel
theorem dL_same_531 : decode cL_same 531 = .ok (.if_icmp .ne 65, 3) := by decide +kernel
theorem dL_same_534 : decode cL_same 534 = .ok (.aload_n 0, 1) := by decide +kernel
theorem dL_same_535 : decode cL_same 535 = .ok (.iload 5, 2) := by decide +kernel
theorem dL_same_537 : decode cL_same 537 = .ok (.iconst 1, 1) := by decide +kernel
theorem dL_same_538 : decode cL_same 538 = .ok (.invokevirtual 45, 3) := by decide +kernel
theorem dL_same_541 : decode cL_same 541 = .ok (.aload 4, 2) := by decide +kernel
theorem dL_same_543 : decode cL_same 543 = .ok (.iconst 3, 1) := by decide +kernel
theorem dL_same_544 : decode cL_same 544 = .ok (.iload 5, 2) := by decide +kernel
theorem dL_same_546 : decode cL_same 546 = .ok (.imul, 1) := by decide +kernel
theorem dL_same_547 : decode cL_same 547 = .ok (.iconst 1, 1) := by decide +kernel
theorem dL_same_548 : decode cL_same 548 = .ok (.iadd, 1) := by decide +kernel
theorem dL_same_549 : decode cL_same 549 = .ok (.iaload, 1) := by decide +kernel
theorem dL_same_550 : decode cL_same 550 = .ok (.if_icmp .ne 46, 3) := by decide +kernel
theorem dL_same_553 : decode cL_same 553 = .ok (.aload_n 0, 1) := by decide +kernel
theorem dL_same_554 : decode cL_same 554 = .ok (.iload 5, 2) := by decide +kernel
theorem dL_same_556 : decode cL_same 556 = .ok (.iconst 2, 1) := by decide +kernel
theorem dL_same_557 : decode cL_same 557 = .ok (.invokevirtual 45, 3) := by decide +kernel
theorem dL_same_560 : decode cL_same 560 = .ok (.aload 4, 2) := by decide +kernel
theorem dL_same_562 : decode cL_same 562 = .ok (.iconst 3, 1) := by decide +kernel
theorem dL_same_563 : decode cL_same 563 = .ok (.iload 5, 2) := by decide +kernel
theorem dL_same_565 : decode cL_same 565 = .ok (.imul, 1) := by decide +kernel
theorem dL_same_566 : decode cL_same 566 = .ok (.iconst 2, 1) := by decide +kernel
theorem dL_same_567 : decode cL_same 567 = .ok (.iadd, 1) := by decide +kernel
theorem dL_same_568 : decode cL_same 568 = .ok (.iaload, 1) := by decide +kernel
theorem dL_same_569 : decode cL_same 569 = .ok (.if_icmp .ne 27, 3) := by decide +kernel
theorem dL_same_572 : decode cL_same 572 = .ok (.aload_n 0, 1) := by decide +kernel
theorem dL_same_573 : decode cL_same 573 = .ok (.iload 5, 2) := by decide +kernel
theorem dL_same_575 : decode cL_same 575 = .ok (.iconst 3, 1) := by decide +kernel
theorem dL_same_576 : decode cL_same 576 = .ok (.invokevirtual 45, 3) := by decide +kernel
theorem dL_same_579 : decode cL_same 579 = .ok (.iload 6, 2) := by decide +kernel
theorem dL_same_581 : decode cL_same 581 = .ok (.if_icmp .ne 15, 3) := by decide +kernel
theorem dL_same_584 : decode cL_same 584 = .ok (.aload_n 0, 1) := by decide +kernel
theorem dL_same_585 : decode cL_same 585 = .ok (.iload 5, 2) := by decide +kernel
theorem dL_same_587 : decode cL_same 587 = .ok (.iconst 4, 1) := by decide +kernel
theorem dL_same_588 : decode cL_same 588 = .ok (.invokevirtual 45, 3) := by decide +kernel
theorem dL_same_591 : decode cL_same 591 = .ok (.iload 7, 2) := by decide +kernel
theorem dL_same_593 : decode cL_same 593 = .ok (.if_icmp .eq 5, 3) := by decide +kernel
theorem dL_same_596 : decode cL_same 596 = .ok (.iconst 0, 1) := by decide +kernel
theorem dL_same_597 : decode cL_same 597 = .ok (.ireturn, 1) := by decide +kernel
theorem dL_same_598 : decode cL_same 598 = .ok (.iinc 5 1, 3) := by decide +kernel
theorem dL_same_601 : decode cL_same 601 = .ok (.goto (-210), 3) := by decide +kernel
theorem dL_same_604 : decode cL_same 604 = .ok (.iconst 0, 1) := by decide +kernel
theorem dL_same_605 : decode cL_same 605 = .ok (.istore 5, 2) := by decide +kernel
theorem dL_same_607 : decode cL_same 607 = .ok (.iconst 0, 1) := by decide +kernel
theorem dL_same_608 : decode cL_same 608 = .ok (.istore 6, 2) := by decide +kernel
theorem dL_same_610 : decode cL_same 610 = .ok (.iload 6, 2) := by decide +kernel
theorem dL_same_612 : decode cL_same 612 = .ok (.iconst 3, 1) := by decide +kernel
theorem dL_same_613 : decode cL_same 613 = .ok (.if_icmp .ge 53, 3) := by decide +kernel
theorem dL_same_616 : decode cL_same 616 = .ok (.aload_n 0, 1) := by decide +kernel
theorem dL_same_617 : decode cL_same 617 = .ok (.iload 6, 2) := by decide +kernel
theorem dL_same_619 : decode cL_same 619 = .ok (.invokevirtual 48, 3) := by decide +kernel
theorem dL_same_622 : decode cL_same 622 = .ok (.iload 6, 2) := by decide +kernel
theorem dL_same_624 : decode cL_same 624 = .ok (.aload_n 2, 1) := by decide +kernel
theorem dL_same_625 : decode cL_same 625 = .ok (.aload_n 3, 1) := by decide +kernel
theorem dL_same_626 : decode cL_same 626 = .ok (.invokestatic 51, 3) := by decide +kernel
theorem dL_same_629 : decode cL_same 629 = .ok (.if_icmp .eq 5, 3) := by decide +kernel
theorem dL_same_632 : decode cL_same 632 = .ok (.iconst 0, 1) := by decide +kernel
theorem dL_same_633 : decode cL_same 633 = .ok (.ireturn, 1) := by decide +kernel
theorem dL_same_634 : decode cL_same 634 = .ok (.iload 6, 2) := by decide +kernel
theorem dL_same_636 : decode cL_same 636 = .ok (.aload_n 2, 1) := by decide +kernel
theorem dL_same_637 : decode cL_same 637 = .ok (.aload_n 3, 1) := by decide +kernel
theorem dL_same_638 : decode cL_same 638 = .ok (.invokestatic 51, 3) := by decide +kernel
theorem dL_same_641 : decode cL_same 641 = .ok (.iload 5, 2) := by decide +kernel
theorem dL_same_643 : decode cL_same 643 = .ok (.aload_n 2, 1) := by decide +kernel
theorem dL_same_644 : decode cL_same 644 = .ok (.aload_n 3, 1) := by decide +kernel
theorem dL_same_645 : decode cL_same 645 = .ok (.invokestatic 51, 3) := by decide +kernel
theorem dL_same_648 : decode cL_same 648 = .ok (.if_icmp .le 8, 3) := by decide +kernel
theorem dL_same_651 : decode cL_same 651 = .ok (.iload 6, 2) := by decide +kernel
theorem dL_same_653 : decode cL_same 653 = .ok (.goto 5, 3) := by decide +kernel
theorem dL_same_656 : decode cL_same 656 = .ok (.iload 5, 2) := by decide +kernel
theorem dL_same_658 : decode cL_same 658 = .ok (.istore 5, 2) := by decide +kernel
theorem dL_same_660 : decode cL_same 660 = .ok (.iinc 6 1, 3) := by decide +kernel
theorem dL_same_663 : decode cL_same 663 = .ok (.goto (-53), 3) := by decide +kernel
theorem dL_same_666 : decode cL_same 666 = .ok (.aload_n 0, 1) := by decide +kernel
theorem dL_same_667 : decode cL_same 667 = .ok (.invokevirtual 54, 3) := by decide +kernel
theorem dL_same_670 : decode cL_same 670 = .ok (.iload 5, 2) := by decide +kernel
theorem dL_same_672 : decode cL_same 672 = .ok (.if_icmp .ne 75, 3) := by decide +kernel
theorem dL_same_675 : decode cL_same 675 = .ok (.aload_n 0, 1) := by decide +kernel
theorem dL_same_676 : decode cL_same 676 = .ok (.iload_n 1, 1) := by decide +kernel
theorem dL_same_677 : decode cL_same 677 = .ok (.bipush 31, 2) := by decide +kernel
theorem dL_same_679 : decode cL_same 679 = .ok (.invokestatic 58, 3) := by decide +kernel
theorem dL_same_682 : decode cL_same 682 = .ok (.iload_n 1, 1) := by decide +kernel
theorem dL_same_683 : decode cL_same 683 = .ok (.iconst 5, 1) := by decide +kernel
theorem dL_same_684 : decode cL_same 684 = .ok (.ishr, 1) := by decide +kernel
theorem dL_same_685 : decode cL_same 685 = .ok (.bipush 31, 2) := by decide +kernel
theorem dL_same_687 : decode cL_same 687 = .ok (.invokestatic 58, 3) := by decide +kernel
theorem dL_same_690 : decode cL_same 690 = .ok (.invokevirtual 40, 3) := by decide +kernel
theorem dL_same_693 : decode cL_same 693 = .ok (.iload_n 1, 1) := by decide +kernel
theorem dL_same_694 : decode cL_same 694 = .ok (.bipush 31, 2) := by decide +kernel
theorem dL_same_696 : decode cL_same 696 = .ok (.invokestatic 58, 3) := by decide +kernel
theorem dL_same_699 : decode cL_same 699 = .ok (.iload_n 1, 1) := by decide +kernel
theorem dL_same_700 : decode cL_same 700 = .ok (.iconst 5, 1) := by decide +kernel
theorem dL_same_701 : decode cL_same 701 = .ok (.ishr, 1) := by decide +kernel
theorem dL_same_702 : decode cL_same 702 = .ok (.bipush 31, 2) := by decide +kernel
theorem dL_same_704 : decode cL_same 704 = .ok (.invokestatic 58, 3) := by decide +kernel
theorem dL_same_707 : decode cL_same 707 = .ok (.aload_n 2, 1) := by decide +kernel
theorem dL_same_708 : decode cL_same 708 = .ok (.aload_n 3, 1) := by decide +kernel
theorem dL_same_709 : decode cL_same 709 = .ok (.invokestatic 24, 3) := by decide +kernel
theorem dL_same_712 : decode cL_same 712 = .ok (.if_icmp .ne 35, 3) := by decide +kernel
theorem dL_same_715 : decode cL_same 715 = .ok (.aload_n 0, 1) := by decide +kernel
theorem dL_same_716 : decode cL_same 716 = .ok (.aload_n 2, 1) := by decide +kernel
theorem dL_same_717 : decode cL_same 717 = .ok (.iconst 0, 1) := by decide +kernel
theorem dL_same_718 : decode cL_same 718 = .ok (.iaload, 1) := by decide +kernel
theorem dL_same_719 : decode cL_same 719 = .ok (.iconst 0, 1) := by decide +kernel
theorem dL_same_720 : decode cL_same 720 = .ok (.invokevirtual 37, 3) := by decide +kernel
theorem dL_same_723 : decode cL_same 723 = .ok (.sipush (-1001), 3) := by decide +kernel
theorem dL_same_726 : decode cL_same 726 = .ok (.if_icmp .ne 21, 3) := by decide +kernel
theorem dL_same_729 : decode cL_same 729 = .ok (.aload_n 0, 1) := by decide +kernel
theorem dL_same_730 : decode cL_same 730 = .ok (.aload_n 2, 1) := by decide +kernel
theorem dL_same_731 : decode cL_same 731 = .ok (.iconst 1, 1) := by decide +kernel
theorem dL_same_732 : decode cL_same 732 = .ok (.iaload, 1) := by decide +kernel
theorem dL_same_733 : decode cL_same 733 = .ok (.iconst 0, 1) := by decide +kernel
theorem dL_same_734 : decode cL_same 734 = .ok (.invokevirtual 45, 3) := by decide +kernel
theorem dL_same_737 : decode cL_same 737 = .ok (.sipush (-1001), 3) := by decide +kernel
theorem dL_same_740 : decode cL_same 740 = .ok (.if_icmp .ne 7, 3) := by decide +kernel
theorem dL_same_743 : decode cL_same 743 = .ok (.iconst 1, 1) := by decide +kernel
theorem dL_same_744 : decode cL_same 744 = .ok (.goto 4, 3) := by decide +kernel
theorem dL_same_747 : decode cL_same 747 = .ok (.iconst 0, 1) := by decide +kernel
theorem dL_same_748 : decode cL_same 748 = .ok (.ireturn, 1) := by decide +kernel
theorem dL_law_0 : decode cL_law 0 = .ok (.new 32, 3) := by decide +kernel
theorem dL_law_3 : decode cL_law 3 = .ok (.dup, 1) := by decide +kernel
theorem dL_law_4 : decode cL_law 4 = .ok (.invokespecial 61, 3) := by decide +kernel
theorem dL_law_7 : decode cL_law 7 = .ok (.astore_n 1, 1) := by decide +kernel
theorem dL_law_8 : decode cL_law 8 = .ok (.bipush 8, 2) := by decide +kernel
theorem dL_law_10 : decode cL_law 10 = .ok (.newarray .int, 2) := by decide +kernel
theorem dL_law_12 : decode cL_law 12 = .ok (.astore_n 2, 1) := by decide +kernel
theorem dL_law_13 : decode cL_law 13 = .ok (.bipush 60, 2) := by decide +kernel
theorem dL_law_15 : decode cL_law 15 = .ok (.newarray .int, 2) := by decide +kernel
theorem dL_law_17 : decode cL_law 17 = .ok (.astore_n 3, 1) := by decide +kernel
theorem dL_law_18 : decode cL_law 18 = .ok (.bipush 12, 2) := by decide +kernel
theorem dL_law_20 : decode cL_law 20 = .ok (.newarray .int, 2) := by decide +kernel
theorem dL_law_22 : decode cL_law 22 = .ok (.astore 4, 2) := by decide +kernel
theorem dL_law_24 : decode cL_law 24 = .ok (.iconst 5, 1) := by decide +kernel
theorem dL_law_25 : decode cL_law 25 = .ok (.newarray .int, 2) := by decide +kernel
theorem dL_law_27 : decode cL_law 27 = .ok (.astore 5, 2) := by decide +kernel
theorem dL_law_29 : decode cL_law 29 = .ok (.iconst 0, 1) := by decide +kernel
theorem dL_law_30 : decode cL_law 30 = .ok (.istore 6, 2) := by decide +kernel
theorem dL_law_32 : decode cL_law 32 = .ok (.iload 6, 2) := by decide +kernel
theorem dL_law_34 : decode cL_law 34 = .ok (.bipush 40, 2) := by decide +kernel
theorem dL_law_36 : decode cL_law 36 = .ok (.if_icmp .ge 1139, 3) := by decide +kernel
theorem dL_law_39 : decode cL_law 39 = .ok (.aload_n 0, 1) := by decide +kernel
theorem dL_law_40 : decode cL_law 40 = .ok (.iconst 2, 1) := by decide +kernel
theorem dL_law_41 : decode cL_law 41 = .ok (.iload 6, 2) := by decide +kernel
theorem dL_law_43 : decode cL_law 43 = .ok (.imul, 1) := by decide +kernel
theorem dL_law_44 : decode cL_law 44 = .ok (.invokestatic 62, 3) := by decide +kernel
theorem dL_law_47 : decode cL_law 47 = .ok (.istore 7, 2) := by decide +kernel
theorem dL_law_49 : decode cL_law 49 = .ok (.aload_n 0, 1) := by decide +kernel
theorem dL_law_50 : decode cL_law 50 = .ok (.iconst 2, 1) := by decide +kernel
theorem dL_law_51 : decode cL_law 51 = .ok (.iload 6, 2) := by decide +kernel
theorem dL_law_53 : decode cL_law 53 = .ok (.imul, 1) := by decide +kernel
theorem dL_law_54 : decode cL_law 54 = .ok (.iconst 1, 1) := by decide +kernel
theorem dL_law_55 : decode cL_law 55 = .ok (.iadd, 1) := by decide +kernel
theorem dL_law_56 : decode cL_law 56 = .ok (.invokestatic 62, 3) := by decide +kernel
theorem dL_law_59 : decode cL_law 59 = .ok (.istore 8, 2) := by decide +kernel
theorem dL_law_61 : decode cL_law 61 = .ok (.iload 6, 2) := by decide +kernel
theorem dL_law_63 : decode cL_law 63 = .ok (.bipush 6, 2) := by decide +kernel
theorem dL_law_65 : decode cL_law 65 = .ok (.if_icmp .ge 7, 3) := by decide +kernel
theorem dL_law_68 : decode cL_law 68 = .ok (.iconst 0, 1) := by decide +kernel
theorem dL_law_69 : decode cL_law 69 = .ok (.goto 21, 3) := by decide +kernel
theorem dL_law_72 : decode cL_law 72 = .ok (.iload 6, 2) := by decide +kernel
theorem dL_law_74 : decode cL_law 74 = .ok (.bipush 8, 2) := by decide +kernel
theorem dL_law_76 : decode cL_law 76 = .ok (.if_icmp .ge 7, 3) := by decide +kernel
theorem dL_law_79 : decode cL_law 79 = .ok (.iconst 1, 1) := by decide +kernel
theorem dL_law_80 : decode cL_law 80 = .ok (.goto 10, 3) := by decide +kernel
theorem dL_law_83 : decode cL_law 83 = .ok (.iload 7, 2) := by decide +kernel
theorem dL_law_85 : decode cL_law 85 = .ok (.bipush 14, 2) := by decide +kernel
theorem dL_law_87 : decode cL_law 87 = .ok (.invokestatic 58, 3) := by decide +kernel
theorem dL_law_90 : decode cL_law 90 = .ok (.istore 9, 2) := by decide +kernel
theorem dL_law_92 : decode cL_law 92 = .ok (.iload 7, 2) := by decide +kernel
theorem dL_law_94 : decode cL_law 94 = .ok (.bipush 7, 2) := by decide +kernel
theorem dL_law_96 : decode cL_law 96 = .ok (.ishr, 1) := by decide +kernel
theorem dL_law_97 : decode cL_law 97 = .ok (.iconst 4, 1) := by decide +kernel
theorem dL_law_98 : decode cL_law 98 = .ok (.invokestatic 58, 3) := by decide +kernel
theorem dL_law_101 : decode cL_law 101 = .ok (.ifCond .ne 13, 3) := by decide +kernel
theorem dL_law_104 : decode cL_law 104 = .ok (.iload 8, 2) := by decide +kernel
theorem dL_law_106 : decode cL_law 106 = .ok (.bipush 31, 2) := by decide +kernel
theorem dL_law_108 : decode cL_law 108 = .ok (.invokestatic 58, 3) := by decide +kernel
theorem dL_law_111 : decode cL_law 111 = .ok (.goto 13, 3) := by decide +kernel
theorem dL_law_114 : decode cL_law 114 = .ok (.bipush 8, 2) := by decide +kernel
theorem dL_law_116 : decode cL_law 116 = .ok (.iload 8, 2) := by decide +kernel
theorem dL_law_118 : decode cL_law 118 = .ok (.bipush 9, 2) := by decide +kernel
theorem dL_law_120 : decode cL_law 120 = .ok (.invokestatic 58, 3) := by decide +kernel
theorem dL_law_123 : decode cL_law 123 = .ok (.iadd, 1) := by decide +kernel
theorem dL_law_124 : decode cL_law 124 = .ok (.istore 10, 2) := by decide +kernel
theorem dL_law_126 : decode cL_law 126 = .ok (.iload 7, 2) := by decide +kernel
theorem dL_law_128 : decode cL_law 128 = .ok (.bipush 7, 2) := by decide +kernel
theorem dL_law_130 : decode cL_law 130 = .ok (.ishr, 1) := by decide +kernel
theorem dL_law_131 : decode cL_law 131 = .ok (.iconst 4, 1) := by decide +kernel
theorem dL_law_132 : decode cL_law 132 = .ok (.invokestatic 58, 3) := by decide +kernel
theorem dL_law_135 : decode cL_law 135 = .ok (.ifCond .ne 15, 3) := by decide +kernel
theorem dL_law_138 : decode cL_law 138 = .ok (.iload 8, 2) := by decide +kernel
theorem dL_law_140 : decode cL_law 140 = .ok (.iconst 4, 1) := by decide +kernel
theorem dL_law_141 : decode cL_law 141 = .ok (.ishr, 1) := by decide +kernel
theorem dL_law_142 : decode cL_law 142 = .ok (.bipush 31, 2) := by decide +kernel
theorem dL_law_144 : decode cL_law 144 = .ok (.invokestatic 58, 3) := by decide +kernel
theorem dL_law_147 : decode cL_law 147 = .ok (.goto 15, 3) := by decide +kernel
theorem dL_law_150 : decode cL_law 150 = .ok (.bipush 8, 2) := by decide +kernel
theorem dL_law_152 : decode cL_law 152 = .ok (.iload 8, 2) := by decide +kernel
theorem dL_law_154 : decode cL_law 154 = .ok (.iconst 4, 1) := by decide +kernel
theorem dL_law_155 : decode cL_law 155 = .ok (.ishr, 1) := by decide +kernel
theorem dL_law_156 : decode cL_law 156 = .ok (.bipush 9, 2) := by decide +kernel
theorem dL_law_158 : decode cL_law 158 = .ok (.invokestatic 58, 3) := by decide +kernel
theorem dL_law_161 : decode cL_law 161 = .ok (.iadd, 1) := by decide +kernel
theorem dL_law_162 : decode cL_law 162 = .ok (.istore 11, 2) := by decide +kernel
theorem dL_law_164 : decode cL_law 164 = .ok (.aload_n 2, 1) := by decide +kernel
theorem dL_law_165 : decode cL_law 165 = .ok (.iconst 0, 1) := by decide +kernel
theorem dL_law_166 : decode cL_law 166 = .ok (.iaload, 1) := by decide +kernel
theorem dL_law_167 : decode cL_law 167 = .ok (.ifCond .ne 7, 3) := by decide +kernel
theorem dL_law_170 : decode cL_law 170 = .ok (.iconst 0, 1) := by decide +kernel
theorem dL_law_171 : decode cL_law 171 = .ok (.goto 13, 3) := by decide +kernel
theorem dL_law_174 : decode cL_law 174 = .ok (.iload 8, 2) := by decide +kernel
theorem dL_law_176 : decode cL_law 176 = .ok (.iconst 2, 1) := by decide +kernel
theorem dL_law_177 : decode cL_law 177 = .ok (.ishr, 1) := by decide +kernel
theorem dL_law_178 : decode cL_law 178 = .ok (.aload_n 2, 1) := by decide +kernel
theorem dL_law_179 : decode cL_law 179 = .ok (.iconst 0, 1) := by decide +kernel
theorem dL_law_180 : decode cL_law 180 = .ok (.iaload, 1) := by decide +kernel
theorem dL_law_181 : decode cL_law 181 = .ok (.invokestatic 58, 3) := by decide +kernel
theorem dL_law_184 : decode cL_law 184 = .ok (.istore 12, 2) := by decide +kernel
theorem dL_law_186 : decode cL_law 186 = .ok (.aload_n 2, 1) := by decide +kernel
theorem dL_law_187 : decode cL_law 187 = .ok (.iconst 0, 1) := by decide +kernel
theorem dL_law_188 : decode cL_law 188 = .ok (.iaload, 1) := by decide +kernel
theorem dL_law_189 : decode cL_law 189 = .ok (.ifCond .le 18, 3) := by decide +kernel
theorem dL_law_192 : decode cL_law 192 = .ok (.aload_n 3, 1) := by decide +kernel
theorem dL_law_193 : decode cL_law 193 = .ok (.iconst 5, 1) := by decide +kernel
theorem dL_law_194 : decode cL_law 194 = .ok (.iload 12, 2) := by decide +kernel
theorem dL_law_196 : decode cL_law 196 = .ok (.imul, 1) := by decide +kernel
theorem dL_law_197 : decode cL_law 197 = .ok (.iconst 4, 1) := by decide +kernel
theorem dL_law_198 : decode cL_law 198 = .ok (.iadd, 1) := by decide +kernel
theorem dL_law_199 : decode cL_law 199 = .ok (.iaload, 1) := by decide +kernel
theorem dL_law_200 : decode cL_law 200 = .ok (.ifCond .ge 7, 3) := by decide +kernel
theorem dL_law_203 : decode cL_law 203 = .ok (.iconst 1, 1) := by decide +kernel
theorem dL_law_204 : decode cL_law 204 = .ok (.goto 4, 3) := by decide +kernel
theorem dL_law_207 : decode cL_law 207 = .ok (.iconst 0, 1) := by decide +kernel
theorem dL_law_208 : decode cL_law 208 = .ok (.istore 13, 2) := by decide +kernel
theorem dL_law_210 : decode cL_law 210 = .ok (.iload 9, 2) := by decide +kernel
theorem dL_law_212 : decode cL_law 212 = .ok (.ifCond .ne 171, 3) := by decide +kernel
theorem dL_law_215 : decode cL_law 215 = .ok (.iconst 1, 1) := by decide +kernel
theorem dL_law_216 : decode cL_law 216 = .ok (.iload 8, 2) := by decide +kernel
theorem dL_law_218 : decode cL_law 218 = .ok (.bipush 8, 2) := by decide +kernel
theorem dL_law_220 : decode cL_law 220 = .ok (.ishr, 1) := by decide +kernel
theorem dL_law_221 : decode cL_law 221 = .ok (.iconst 3, 1) := by decide +kernel
theorem dL_law_222 : decode cL_law 222 = .ok (.invokestatic 58, 3) := by decide +kernel
theorem dL_law_225 : decode cL_law 225 = .ok (.iadd, 1) := by decide +kernel
theorem dL_law_226 : decode cL_law 226 = .ok (.istore 14, 2) := by decide +kernel
theorem dL_law_228 : decode cL_law 228 = .ok (.iload 8, 2) := by decide +kernel
theorem dL_law_230 : decode cL_law 230 = .ok (.bipush 10, 2) := by decide +kernel
theorem dL_law_232 : decode cL_law 232 = .ok (.ishr, 1) := by decide +kernel
theorem dL_law_233 : decode cL_law 233 = .ok (.iconst 3, 1) := by decide +kernel
theorem dL_law_234 : decode cL_law 234 = .ok (.invokestatic 58, 3) := by decide +kernel
theorem dL_law_237 : decode cL_law 237 = .ok (.istore 15, 2) := by decide +kernel
theorem dL_law_239 : decode cL_law 239 = .ok (.iload 10, 2) := by decide +kernel
theorem dL_law_241 : decode cL_law 241 = .ok (.iload 11, 2) := by decide +kernel
theorem dL_law_243 : decode cL_law 243 = .ok (.aload_n 2, 1) := by decide +kernel
theorem dL_law_244 : decode cL_law 244 = .ok (.aload_n 3, 1) := by decide +kernel
theorem dL_law_245 : decode cL_law 245 = .ok (.invokestatic 24, 3) := by decide +kernel
theorem dL_law_248 : decode cL_law 248 = .ok (.ifCond .ge 7, 3) := by decide +kernel
theorem dL_law_251 : decode cL_law 251 = .ok (.iconst 1, 1) := by decide +kernel
theorem dL_law_252 : decode cL_law 252 = .ok (.goto 4, 3) := by decide +kernel
theorem dL_law_255 : decode cL_law 255 = .ok (.iconst 0, 1) := by decide +kernel
theorem dL_law_256 : decode cL_law 256 = .ok (.istore 16, 2) := by decide +kernel
theorem dL_law_258 : decode cL_law 258 = .ok (.aload_n 1, 1) := by decide +kernel
theorem dL_law_259 : decode cL_law 259 = .ok (.iload 10, 2) := by decide +kernel
theorem dL_law_261 : decode cL_law 261 = .ok (.iload 11, 2) := by decide +kernel
theorem dL_law_263 : decode cL_law 263 = .ok (.iload 14, 2) := by decide +kernel
theorem dL_law_265 : decode cL_law 265 = .ok (.iload 15, 2) := by decide +kernel
theorem dL_law_267 : decode cL_law 267 = .ok (.invokevirtual 66, 3) := by decide +kernel
theorem dL_law_270 : decode cL_law 270 = .ok (.iload 16, 2) := by decide +kernel
theorem dL_law_272 : decode cL_law 272 = .ok (.ifCond .ne 9, 3) := by decide +kernel
theorem dL_law_275 : decode cL_law 275 = .ok (.sipush (-1003), 3) := by decide +kernel
theorem dL_law_278 : decode cL_law 278 = .ok (.goto 20, 3) := by decide +kernel
theorem dL_law_281 : decode cL_law 281 = .ok (.aload_n 2, 1) := by decide +kernel
theorem dL_law_282 : decode cL_law 282 = .ok (.iconst 0, 1) := by decide +kernel
theorem dL_law_283 : decode cL_law 283 = .ok (.iaload, 1) := by decide +kernel
theorem dL_law_284 : decode cL_law 284 = .ok (.bipush 12, 2) := by decide +kernel
theorem dL_law_286 : decode cL_law 286 = .ok (.if_icmp .ne 9, 3) := by decide +kernel
theorem dL_law_289 : decode cL_law 289 = .ok (.sipush (-1004), 3) := by decide +kernel
theorem dL_law_292 : decode cL_law 292 = .ok (.goto 6, 3) := by decide +kernel
theorem dL_law_295 : decode cL_law 295 = .ok (.aload_n 2, 1) := by decide +kernel
theorem dL_law_296 : decode cL_law 296 = .ok (.iconst 0, 1) := by decide +kernel
theorem dL_law_297 : decode cL_law 297 = .ok (.iaload, 1) := by decide +kernel
theorem dL_law_298 : decode cL_law 298 = .ok (.if_icmp .eq 5, 3) := by decide +kernel
theorem dL_law_301 : decode cL_law 301 = .ok (.iconst 0, 1) := by decide +kernel
theorem dL_law_302 : decode cL_law 302 = .ok (.ireturn, 1) := by decide +kernel
theorem dL_law_303 : decode cL_law 303 = .ok (.iload 16, 2) := by decide +kernel
theorem dL_law_305 : decode cL_law 305 = .ok (.ifCond .eq 864, 3) := by decide +kernel
theorem dL_law_308 : decode cL_law 308 = .ok (.aload_n 2, 1) := by decide +kernel
theorem dL_law_309 : decode cL_law 309 = .ok (.iconst 0, 1) := by decide +kernel
theorem dL_law_310 : decode cL_law 310 = .ok (.iaload, 1) := by decide +kernel
theorem dL_law_311 : decode cL_law 311 = .ok (.bipush 12, 2) := by decide +kernel
theorem dL_law_313 : decode cL_law 313 = .ok (.if_icmp .ne 6, 3) := by decide +kernel
theorem dL_law_316 : decode cL_law 316 = .ok (.goto 853, 3) := by decide +kernel
theorem dL_law_319 : decode cL_law 319 = .ok (.aload_n 3, 1) := by decide +kernel
theorem dL_law_320 : decode cL_law 320 = .ok (.iconst 5, 1) := by decide +kernel
theorem dL_law_321 : decode cL_law 321 = .ok (.aload_n 2, 1) := by decide +kernel
theorem dL_law_322 : decode cL_law 322 = .ok (.iconst 0, 1) := by decide +kernel
theorem dL_law_323 : decode cL_law 323 = .ok (.iaload, 1) := by decide +kernel
theorem dL_law_324 : decode cL_law 324 = .ok (.imul, 1) := by decide +kernel
theorem dL_law_325 : decode cL_law 325 = .ok (.iload 10, 2) := by decide +kernel
theorem dL_law_327 : decode cL_law 327 = .ok (.iastore, 1) := by decide +kernel
theorem dL_law_328 : decode cL_law 328 = .ok (.aload_n 3, 1) := by decide +kernel
theorem dL_law_329 : decode cL_law 329 = .ok (.iconst 5, 1) := by decide +kernel
theorem dL_law_330 : decode cL_law 330 = .ok (.aload_n 2, 1) := by decide +kernel
theorem dL_law_331 : decode cL_law 331 = .ok (.iconst 0, 1) := by decide +kernel
theorem dL_law_332 : decode cL_law 332 = .ok (.iaload, 1) := by decide +kernel
theorem dL_law_333 : decode cL_law 333 = .ok (.imul, 1) := by decide +kernel
theorem dL_law_334 : decode cL_law 334 = .ok (.iconst 1, 1) := by decide +kernel
theorem dL_law_335 : decode cL_law 335 = .ok (.iadd, 1) := by decide +kernel
theorem dL_law_336 : decode cL_law 336 = .ok (.iload 11, 2) := by decide +kernel
theorem dL_law_338 : decode cL_law 338 = .ok (.iastore, 1) := by decide +kernel
theorem dL_law_339 : decode cL_law 339 = .ok (.aload_n 3, 1) := by decide +kernel
theorem dL_law_340 : decode cL_law 340 = .ok (.iconst 5, 1) := by decide +kernel
theorem dL_law_341 : decode cL_law 341 = .ok (.aload_n 2, 1) := by decide +kernel
theorem dL_law_342 : decode cL_law 342 = .ok (.iconst 0, 1) := by decide +kernel
theorem dL_law_343 : decode cL_law 343 = .ok (.iaload, 1) := by decide +kernel
theorem dL_law_344 : decode cL_law 344 = .ok (.imul, 1) := by decide +kernel
theorem dL_law_345 : decode cL_law 345 = .ok (.iconst 2, 1) := by decide +kernel
theorem dL_law_346 : decode cL_law 346 = .ok (.iadd, 1) := by decide +kernel
theorem dL_law_347 : decode cL_law 347 = .ok (.iload 14, 2) := by decide +kernel
theorem dL_law_349 : decode cL_law 349 = .ok (.iastore, 1) := by decide +kernel
theorem dL_law_350 : decode cL_law 350 = .ok (.aload_n 3, 1) := by decide +kernel
theorem dL_law_351 : decode cL_law 351 = .ok (.iconst 5, 1) := by decide +kernel
theorem dL_law_352 : decode cL_law 352 = .ok (.aload_n 2, 1) := by decide +kernel
theorem dL_law_353 : decode cL_law 353 = .ok (.iconst 0, 1) := by decide +kernel
theorem dL_law_354 : decode cL_law 354 = .ok (.iaload, 1) := by decide +kernel
theorem dL_law_355 : decode cL_law 355 = .ok (.imul, 1) := by decide +kernel
theorem dL_law_356 : decode cL_law 356 = .ok (.iconst 3, 1) := by decide +kernel
theorem dL_law_357 : decode cL_law 357 = .ok (.iadd, 1) := by decide +kernel
theorem dL_law_358 : decode cL_law 358 = .ok (.iload 15, 2) := by decide +kernel
theorem dL_law_360 : decode cL_law 360 = .ok (.iastore, 1) := by decide +kernel
theorem dL_law_361 : decode cL_law 361 = .ok (.aload_n 3, 1) := by decide +kernel
theorem dL_law_362 : decode cL_law 362 = .ok (.iconst 5, 1) := by decide +kernel
theorem dL_law_363 : decode cL_law 363 = .ok (.aload_n 2, 1) := by decide +kernel
theorem dL_law_364 : decode cL_law 364 = .ok (.iconst 0, 1) := by decide +kernel
theorem dL_law_365 : decode cL_law 365 = .ok (.iaload, 1) := by decide +kernel
theorem dL_law_366 : decode cL_law 366 = .ok (.imul, 1) := by decide +kernel
theorem dL_law_367 : decode cL_law 367 = .ok (.iconst 4, 1) := by decide +kernel
theorem dL_law_368 : decode cL_law 368 = .ok (.iadd, 1) := by decide +kernel
theorem dL_law_369 : decode cL_law 369 = .ok (.sipush (-1006), 3) := by decide +kernel
theorem dL_law_372 : decode cL_law 372 = .ok (.iastore, 1) := by decide +kernel
theorem dL_law_373 : decode cL_law 373 = .ok (.aload_n 2, 1) := by decide +kernel
theorem dL_law_374 : decode cL_law 374 = .ok (.iconst 0, 1) := by decide +kernel
theorem dL_law_375 : decode cL_law 375 = .ok (.dup2, 1) := by decide +kernel
theorem dL_law_376 : decode cL_law 376 = .ok (.iaload, 1) := by decide +kernel
theorem dL_law_377 : decode cL_law 377 = .ok (.iconst 1, 1) := by decide +kernel
theorem dL_law_378 : decode cL_law 378 = .ok (.iadd, 1) := by decide +kernel
theorem dL_law_379 : decode cL_law 379 = .ok (.iastore, 1) := by decide +kernel
theorem dL_law_380 : decode cL_law 380 = .ok (.goto 638, 3) := by decide +kernel
theorem dL_law_383 : decode cL_law 383 = .ok (.iload 9, 2) := by decide +kernel
theorem dL_law_385 : decode cL_law 385 = .ok (.iconst 1, 1) := by decide +kernel
theorem dL_law_386 : decode cL_law 386 = .ok (.if_icmp .ne 117, 3) := by decide +kernel
theorem dL_law_389 : decode cL_law 389 = .ok (.iconst 1, 1) := by decide +kernel
theorem dL_law_390 : decode cL_law 390 = .ok (.iload 8, 2) := by decide +kernel
theorem dL_law_392 : decode cL_law 392 = .ok (.bipush 8, 2) := by decide +kernel
theorem dL_law_394 : decode cL_law 394 = .ok (.ishr, 1) := by decide +kernel
theorem dL_law_395 : decode cL_law 395 = .ok (.iload 7, 2) := by decide +kernel
theorem dL_law_397 : decode cL_law 397 = .ok (.iconst 4, 1) := by decide +kernel
theorem dL_law_398 : decode cL_law 398 = .ok (.ishr, 1) := by decide +kernel
theorem dL_law_399 : decode cL_law 399 = .ok (.iconst 3, 1) := by decide +kernel
theorem dL_law_400 : decode cL_law 400 = .ok (.invokestatic 58, 3) := by decide +kernel
theorem dL_law_403 : decode cL_law 403 = .ok (.ifCond .ne 8, 3) := by decide +kernel
theorem dL_law_406 : decode cL_law 406 = .ok (.bipush 15, 2) := by decide +kernel
theorem dL_law_408 : decode cL_law 408 = .ok (.goto 4, 3) := by decide +kernel
theorem dL_law_411 : decode cL_law 411 = .ok (.iconst 4, 1) := by decide +kernel
theorem dL_law_412 : decode cL_law 412 = .ok (.invokestatic 58, 3) := by decide +kernel
theorem dL_law_415 : decode cL_law 415 = .ok (.iadd, 1) := by decide +kernel
theorem dL_law_416 : decode cL_law 416 = .ok (.istore 14, 2) := by decide +kernel
theorem dL_law_418 : decode cL_law 418 = .ok (.aload_n 1, 1) := by decide +kernel
theorem dL_law_419 : decode cL_law 419 = .ok (.iload 10, 2) := by decide +kernel
theorem dL_law_421 : decode cL_law 421 = .ok (.iload 11, 2) := by decide +kernel
theorem dL_law_423 : decode cL_law 423 = .ok (.iload 14, 2) := by decide +kernel
theorem dL_law_425 : decode cL_law 425 = .ok (.invokevirtual 70, 3) := by decide +kernel
theorem dL_law_428 : decode cL_law 428 = .ok (.aload_n 2, 1) := by decide +kernel
theorem dL_law_429 : decode cL_law 429 = .ok (.iconst 1, 1) := by decide +kernel
theorem dL_law_430 : decode cL_law 430 = .ok (.iaload, 1) := by decide +kernel
theorem dL_law_431 : decode cL_law 431 = .ok (.iconst 4, 1) := by decide +kernel
theorem dL_law_432 : decode cL_law 432 = .ok (.if_icmp .ne 9, 3) := by decide +kernel
theorem dL_law_435 : decode cL_law 435 = .ok (.sipush (-1004), 3) := by decide +kernel
theorem dL_law_438 : decode cL_law 438 = .ok (.goto 6, 3) := by decide +kernel
theorem dL_law_441 : decode cL_law 441 = .ok (.aload_n 2, 1) := by decide +kernel
theorem dL_law_442 : decode cL_law 442 = .ok (.iconst 1, 1) := by decide +kernel
theorem dL_law_443 : decode cL_law 443 = .ok (.iaload, 1) := by decide +kernel
theorem dL_law_444 : decode cL_law 444 = .ok (.if_icmp .eq 5, 3) := by decide +kernel
theorem dL_law_447 : decode cL_law 447 = .ok (.iconst 0, 1) := by decide +kernel
theorem dL_law_448 : decode cL_law 448 = .ok (.ireturn, 1) := by decide +kernel
theorem dL_law_449 : decode cL_law 449 = .ok (.aload_n 2, 1) := by decide +kernel
theorem dL_law_450 : decode cL_law 450 = .ok (.iconst 1, 1) := by decide +kernel
theorem dL_law_451 : decode cL_law 451 = .ok (.iaload, 1) := by decide +kernel
theorem dL_law_452 : decode cL_law 452 = .ok (.iconst 4, 1) := by decide +kernel
theorem dL_law_453 : decode cL_law 453 = .ok (.if_icmp .ne 6, 3) := by decide +kernel
theorem dL_law_456 : decode cL_law 456 = .ok (.goto 713, 3) := by decide +kernel
theorem dL_law_459 : decode cL_law 459 = .ok (.aload 4, 2) := by decide +kernel
theorem dL_law_461 : decode cL_law 461 = .ok (.iconst 3, 1) := by decide +kernel
theorem dL_law_462 : decode cL_law 462 = .ok (.aload_n 2, 1) := by decide +kernel
theorem dL_law_463 : decode cL_law 463 = .ok (.iconst 1, 1) := by decide +kernel
theorem dL_law_464 : decode cL_law 464 = .ok (.iaload, 1) := by decide +kernel
theorem dL_law_465 : decode cL_law 465 = .ok (.imul, 1) := by decide +kernel
theorem dL_law_466 : decode cL_law 466 = .ok (.iload 10, 2) := by decide +kernel
theorem dL_law_468 : decode cL_law 468 = .ok (.iastore, 1) := by decide +kernel
theorem dL_law_469 : decode cL_law 469 = .ok (.aload 4, 2) := by decide +kernel
theorem dL_law_471 : decode cL_law 471 = .ok (.iconst 3, 1) := by decide +kernel
theorem dL_law_472 : decode cL_law 472 = .ok (.aload_n 2, 1) := by decide +kernel
theorem dL_law_473 : decode cL_law 473 = .ok (.iconst 1, 1) := by decide +kernel
theorem dL_law_474 : decode cL_law 474 = .ok (.iaload, 1) := by decide +kernel
theorem dL_law_475 : decode cL_law 475 = .ok (.imul, 1) := by decide +kernel
theorem dL_law_476 : decode cL_law 476 = .ok (.iconst 1, 1) := by decide +kernel
theorem dL_law_477 : decode cL_law 477 = .ok (.iadd, 1) := by decide +kernel
theorem dL_law_478 : decode cL_law 478 = .ok (.iload 11, 2) := by decide +kernel
theorem dL_law_480 : decode cL_law 480 = .ok (.iastore, 1) := by decide +kernel
theorem dL_law_481 : decode cL_law 481 = .ok (.aload 4, 2) := by decide +kernel
theorem dL_law_483 : decode cL_law 483 = .ok (.iconst 3, 1) := by decide +kernel
theorem dL_law_484 : decode cL_law 484 = .ok (.aload_n 2, 1) := by decide +kernel
theorem dL_law_485 : decode cL_law 485 = .ok (.iconst 1, 1) := by decide +kernel
theorem dL_law_486 : decode cL_law 486 = .ok (.iaload, 1) := by decide +kernel
theorem dL_law_487 : decode cL_law 487 = .ok (.imul, 1) := by decide +kernel
theorem dL_law_488 : decode cL_law 488 = .ok (.iconst 2, 1) := by decide +kernel
theorem dL_law_489 : decode cL_law 489 = .ok (.iadd, 1) := by decide +kernel
theorem dL_law_490 : decode cL_law 490 = .ok (.iload 14, 2) := by decide +kernel
theorem dL_law_492 : decode cL_law 492 = .ok (.iastore, 1) := by decide +kernel
theorem dL_law_493 : decode cL_law 493 = .ok (.aload_n 2, 1) := by decide +kernel
theorem dL_law_494 : decode cL_law 494 = .ok (.iconst 1, 1) := by decide +kernel
theorem dL_law_495 : decode cL_law 495 = .ok (.dup2, 1) := by decide +kernel
theorem dL_law_496 : decode cL_law 496 = .ok (.iaload, 1) := by decide +kernel
theorem dL_law_497 : decode cL_law 497 = .ok (.iconst 1, 1) := by decide +kernel
theorem dL_law_498 : decode cL_law 498 = .ok (.iadd, 1) := by decide +kernel
theorem dL_law_499 : decode cL_law 499 = .ok (.iastore, 1) := by decide +kernel
theorem dL_law_500 : decode cL_law 500 = .ok (.goto 518, 3) := by decide +kernel
theorem dL_law_503 : decode cL_law 503 = .ok (.iload 9, 2) := by decide +kernel
theorem dL_law_505 : decode cL_law 505 = .ok (.iconst 2, 1) := by decide +kernel
theorem dL_law_506 : decode cL_law 506 = .ok (.if_icmp .ne 162, 3) := by decide +kernel
theorem dL_law_509 : decode cL_law 509 = .ok (.iload 13, 2) := by decide +kernel
theorem dL_law_511 : decode cL_law 511 = .ok (.ifCond .eq 19, 3) := by decide +kernel
theorem dL_law_514 : decode cL_law 514 = .ok (.iload 10, 2) := by decide +kernel
theorem dL_law_516 : decode cL_law 516 = .ok (.iload 11, 2) := by decide +kernel
theorem dL_law_518 : decode cL_law 518 = .ok (.aload_n 2, 1) := by decide +kernel
theorem dL_law_519 : decode cL_law 519 = .ok (.aload_n 3, 1) := by decide +kernel
theorem dL_law_520 : decode cL_law 520 = .ok (.invokestatic 24, 3) := by decide +kernel
theorem dL_law_523 : decode cL_law 523 = .ok (.ifCond .ge 7, 3) := by decide +kernel
theorem dL_law_526 : decode cL_law 526 = .ok (.iconst 1, 1) := by decide +kernel
theorem dL_law_527 : decode cL_law 527 = .ok (.goto 4, 3) := by decide +kernel
theorem dL_law_530 : decode cL_law 530 = .ok (.iconst 0, 1) := by decide +kernel
theorem dL_law_531 : decode cL_law 531 = .ok (.istore 14, 2) := by decide +kernel
theorem dL_law_533 : decode cL_law 533 = .ok (.iconst 0, 1) := by decide +kernel
theorem dL_law_534 : decode cL_law 534 = .ok (.istore 15, 2) := by decide +kernel
theorem dL_law_536 : decode cL_law 536 = .ok (.iconst 0, 1) := by decide +kernel
theorem dL_law_537 : decode cL_law 537 = .ok (.istore 16, 2) := by decide +kernel
theorem dL_law_539 : decode cL_law 539 = .ok (.iload 16, 2) := by decide +kernel
theorem dL_law_541 : decode cL_law 541 = .ok (.aload_n 2, 1) := by decide +kernel
theorem dL_law_542 : decode cL_law 542 = .ok (.iconst 1, 1) := by decide +kernel
theorem dL_law_543 : decode cL_law 543 = .ok (.iaload, 1) := by decide +kernel
theorem dL_law_544 : decode cL_law 544 = .ok (.if_icmp .ge 33, 3) := by decide +kernel
theorem dL_law_547 : decode cL_law 547 = .ok (.iload 15, 2) := by decide +kernel
theorem dL_law_549 : decode cL_law 549 = .ok (.iload 16, 2) := by decide +kernel
theorem dL_law_551 : decode cL_law 551 = .ok (.iload 10, 2) := by decide +kernel
theorem dL_law_553 : decode cL_law 553 = .ok (.iload 11, 2) := by decide +kernel
theorem dL_law_555 : decode cL_law 555 = .ok (.aload 4, 2) := by decide +kernel
theorem dL_law_557 : decode cL_law 557 = .ok (.invokestatic 10, 3) := by decide +kernel
theorem dL_law_560 : decode cL_law 560 = .ok (.ifCond .eq 7, 3) := by decide +kernel
theorem dL_law_563 : decode cL_law 563 = .ok (.iconst 1, 1) := by decide +kernel
theorem dL_law_564 : decode cL_law 564 = .ok (.goto 4, 3) := by decide +kernel
theorem dL_law_567 : decode cL_law 567 = .ok (.iconst 0, 1) := by decide +kernel
theorem dL_law_568 : decode cL_law 568 = .ok (.iadd, 1) := by decide +kernel
theorem dL_law_569 : decode cL_law 569 = .ok (.istore 15, 2) := by decide +kernel
theorem dL_law_571 : decode cL_law 571 = .ok (.iinc 16 1, 3) := by decide +kernel
theorem dL_law_574 : decode cL_law 574 = .ok (.goto (-35), 3) := by decide +kernel
theorem dL_law_577 : decode cL_law 577 = .ok (.aload_n 1, 1) := by decide +kernel
theorem dL_law_578 : decode cL_law 578 = .ok (.iload 12, 2) := by decide +kernel
theorem dL_law_580 : decode cL_law 580 = .ok (.iload 10, 2) := by decide +kernel
theorem dL_law_582 : decode cL_law 582 = .ok (.iload 11, 2) := by decide +kernel
theorem dL_law_584 : decode cL_law 584 = .ok (.invokevirtual 74, 3) := by decide +kernel
theorem dL_law_587 : decode cL_law 587 = .ok (.aload_n 2, 1) := by decide +kernel
theorem dL_law_588 : decode cL_law 588 = .ok (.iconst 0, 1) := by decide +kernel
theorem dL_law_589 : decode cL_law 589 = .ok (.iaload, 1) := by decide +kernel
theorem dL_law_590 : decode cL_law 590 = .ok (.ifCond .ne 9, 3) := by decide +kernel
theorem dL_law_593 : decode cL_law 593 = .ok (.sipush (-1001), 3) := by decide +kernel
theorem dL_law_596 : decode cL_law 596 = .ok (.goto 16, 3) := by decide +kernel
theorem dL_law_599 : decode cL_law 599 = .ok (.iload 14, 2) := by decide +kernel
theorem dL_law_601 : decode cL_law 601 = .ok (.ifCond .eq 8, 3) := by decide +kernel
theorem dL_law_604 : decode cL_law 604 = .ok (.iload 15, 2) := by decide +kernel
theorem dL_law_606 : decode cL_law 606 = .ok (.goto 6, 3) := by decide +kernel
theorem dL_law_609 : decode cL_law 609 = .ok (.sipush (-1003), 3) := by decide +kernel
theorem dL_law_612 : decode cL_law 612 = .ok (.if_icmp .eq 5, 3) := by decide +kernel
theorem dL_law_615 : decode cL_law 615 = .ok (.iconst 0, 1) := by decide +kernel
theorem dL_law_616 : decode cL_law 616 = .ok (.ireturn, 1) := by decide +kernel
theorem dL_law_617 : decode cL_law 617 = .ok (.aload_n 3, 1) := by decide +kernel
theorem dL_law_618 : decode cL_law 618 = .ok (.iconst 5, 1) := by decide +kernel
theorem dL_law_619 : decode cL_law 619 = .ok (.iload 12, 2) := by decide +kernel
theorem dL_law_621 : decode cL_law 621 = .ok (.imul, 1) := by decide +kernel
theorem dL_law_622 : decode cL_law 622 = .ok (.iload 14, 2) := by decide +kernel
theorem dL_law_624 : decode cL_law 624 = .ok (.ifCond .eq 8, 3) := by decide +kernel
theorem dL_law_627 : decode cL_law 627 = .ok (.iload 10, 2) := by decide +kernel
theorem dL_law_629 : decode cL_law 629 = .ok (.goto 9, 3) := by decide +kernel
theorem dL_law_632 : decode cL_law 632 = .ok (.aload_n 3, 1) := by decide +kernel
theorem dL_law_633 : decode cL_law 633 = .ok (.iconst 5, 1) := by decide +kernel
theorem dL_law_634 : decode cL_law 634 = .ok (.iload 12, 2) := by decide +kernel
theorem dL_law_636 : decode cL_law 636 = .ok (.imul, 1) := by decide +kernel
theorem dL_law_637 : decode cL_law 637 = .ok (.iaload, 1) := by decide +kernel
theorem dL_law_638 : decode cL_law 638 = .ok (.iastore, 1) := by decide +kernel
theorem dL_law_639 : decode cL_law 639 = .ok (.aload_n 3, 1) := by decide +kernel
theorem dL_law_640 : decode cL_law 640 = .ok (.iconst 5, 1) := by decide +kernel
theorem dL_law_641 : decode cL_law 641 = .ok (.iload 12, 2) := by decide +kernel
theorem dL_law_643 : decode cL_law 643 = .ok (.imul, 1) := by decide +kernel
theorem dL_law_644 : decode cL_law 644 = .ok (.iconst 1, 1) := by decide +kernel
theorem dL_law_645 : decode cL_law 645 = .ok (.iadd, 1) := by decide +kernel
theorem dL_law_646 : decode cL_law 646 = .ok (.iload 14, 2) := by decide +kernel
theorem dL_law_648 : decode cL_law 648 = .ok (.ifCond .eq 8, 3) := by decide +kernel
theorem dL_law_651 : decode cL_law 651 = .ok (.iload 11, 2) := by decide +kernel
theorem dL_law_653 : decode cL_law 653 = .ok (.goto 11, 3) := by decide +kernel
theorem dL_law_656 : decode cL_law 656 = .ok (.aload_n 3, 1) := by decide +kernel
theorem dL_law_657 : decode cL_law 657 = .ok (.iconst 5, 1) := by decide +kernel
theorem dL_law_658 : decode cL_law 658 = .ok (.iload 12, 2) := by decide +kernel
theorem dL_law_660 : decode cL_law 660 = .ok (.imul, 1) := by decide +kernel
theorem dL_law_661 : decode cL_law 661 = .ok (.iconst 1, 1) := by decide +kernel
theorem dL_law_662 : decode cL_law 662 = .ok (.iadd, 1) := by decide +kernel
theorem dL_law_663 : decode cL_law 663 = .ok (.iaload, 1) := by decide +kernel
theorem dL_law_664 : decode cL_law 664 = .ok (.iastore, 1) := by decide +kernel
theorem dL_law_665 : decode cL_law 665 = .ok (.goto 353, 3) := by decide +kernel
theorem dL_law_668 : decode cL_law 668 = .ok (.iload 9, 2) := by decide +kernel
theorem dL_law_670 : decode cL_law 670 = .ok (.iconst 3, 1) := by decide +kernel
theorem dL_law_671 : decode cL_law 671 = .ok (.if_icmp .ne 25, 3) := by decide +kernel
theorem dL_law_674 : decode cL_law 674 = .ok (.aload_n 2, 1) := by decide +kernel
theorem dL_law_675 : decode cL_law 675 = .ok (.iconst 2, 1) := by decide +kernel
theorem dL_law_676 : decode cL_law 676 = .ok (.aload_n 2, 1) := by decide +kernel
theorem dL_law_677 : decode cL_law 677 = .ok (.iconst 2, 1) := by decide +kernel
theorem dL_law_678 : decode cL_law 678 = .ok (.iaload, 1) := by decide +kernel
theorem dL_law_679 : decode cL_law 679 = .ok (.iconst 1, 1) := by decide +kernel
theorem dL_law_680 : decode cL_law 680 = .ok (.iadd, 1) := by decide +kernel
theorem dL_law_681 : decode cL_law 681 = .ok (.iconst 3, 1) := by decide +kernel
theorem dL_law_682 : decode cL_law 682 = .ok (.irem, 1) := by decide +kernel
theorem dL_law_683 : decode cL_law 683 = .ok (.iastore, 1) := by decide +kernel
theorem dL_law_684 : decode cL_law 684 = .ok (.aload_n 1, 1) := by decide +kernel
theorem dL_law_685 : decode cL_law 685 = .ok (.invokevirtual 77, 3) := by decide +kernel
theorem dL_law_688 : decode cL_law 688 = .ok (.aload_n 2, 1) := by decide +kernel
theorem dL_law_689 : decode cL_law 689 = .ok (.iconst 2, 1) := by decide +kernel
theorem dL_law_690 : decode cL_law 690 = .ok (.iaload, 1) := by decide +kernel
theorem dL_law_691 : decode cL_law 691 = .ok (.if_icmp .eq 327, 3) := by decide +kernel
theorem dL_law_694 : decode cL_law 694 = .ok (.iconst 0, 1) := by decide +kernel
theorem dL_law_695 : decode cL_law 695 = .ok (.ireturn, 1) := by decide +kernel
theorem dL_law_696 : decode cL_law 696 = .ok (.iload 9, 2) := by decide +kernel
theorem dL_law_698 : decode cL_law 698 = .ok (.iconst 4, 1) := by decide +kernel
theorem dL_law_699 : decode cL_law 699 = .ok (.if_icmp .ne 55, 3) := by decide +kernel
theorem dL_law_702 : decode cL_law 702 = .ok (.iload 8, 2) := by decide +kernel
theorem dL_law_704 : decode cL_law 704 = .ok (.bipush 9, 2) := by decide +kernel
theorem dL_law_706 : decode cL_law 706 = .ok (.ishr, 1) := by decide +kernel
theorem dL_law_707 : decode cL_law 707 = .ok (.bipush 6, 2) := by decide +kernel
theorem dL_law_709 : decode cL_law 709 = .ok (.invokestatic 58, 3) := by decide +kernel
theorem dL_law_712 : decode cL_law 712 = .ok (.ifCond .le 6, 3) := by decide +kernel
theorem dL_law_715 : decode cL_law 715 = .ok (.goto 454, 3) := by decide +kernel
theorem dL_law_718 : decode cL_law 718 = .ok (.aload_n 1, 1) := by decide +kernel
theorem dL_law_719 : decode cL_law 719 = .ok (.invokevirtual 80, 3) := by decide +kernel
theorem dL_law_722 : decode cL_law 722 = .ok (.aload_n 2, 1) := by decide +kernel
theorem dL_law_723 : decode cL_law 723 = .ok (.iconst 0, 1) := by decide +kernel
theorem dL_law_724 : decode cL_law 724 = .ok (.iaload, 1) := by decide +kernel
theorem dL_law_725 : decode cL_law 725 = .ok (.if_icmp .eq 5, 3) := by decide +kernel
theorem dL_law_728 : decode cL_law 728 = .ok (.iconst 0, 1) := by decide +kernel
theorem dL_law_729 : decode cL_law 729 = .ok (.ireturn, 1) := by decide +kernel
theorem dL_law_730 : decode cL_law 730 = .ok (.iconst 0, 1) := by decide +kernel
theorem dL_law_731 : decode cL_law 731 = .ok (.istore 14, 2) := by decide +kernel
theorem dL_law_733 : decode cL_law 733 = .ok (.iload 14, 2) := by decide +kernel
theorem dL_law_735 : decode cL_law 735 = .ok (.bipush 8, 2) := by decide +kernel
theorem dL_law_737 : decode cL_law 737 = .ok (.if_icmp .ge 14, 3) := by decide +kernel
theorem dL_law_740 : decode cL_law 740 = .ok (.aload_n 2, 1) := by decide +kernel
theorem dL_law_741 : decode cL_law 741 = .ok (.iload 14, 2) := by decide +kernel
theorem dL_law_743 : decode cL_law 743 = .ok (.iconst 0, 1) := by decide +kernel
theorem dL_law_744 : decode cL_law 744 = .ok (.iastore, 1) := by decide +kernel
theorem dL_law_745 : decode cL_law 745 = .ok (.iinc 14 1, 3) := by decide +kernel
theorem dL_law_748 : decode cL_law 748 = .ok (.goto (-15), 3) := by decide +kernel
theorem dL_law_751 : decode cL_law 751 = .ok (.goto 267, 3) := by decide +kernel
theorem dL_law_754 : decode cL_law 754 = .ok (.aload_n 2, 1) := by decide +kernel
theorem dL_law_755 : decode cL_law 755 = .ok (.iconst 0, 1) := by decide +kernel
theorem dL_law_756 : decode cL_law 756 = .ok (.iaload, 1) := by decide +kernel
theorem dL_law_757 : decode cL_law 757 = .ok (.ifCond .le 261, 3) := by decide +kernel
theorem dL_law_760 : decode cL_law 760 = .ok (.iload 8, 2) := by decide +kernel
theorem dL_law_762 : decode cL_law 762 = .ok (.iconst 5, 1) := by decide +kernel
theorem dL_law_763 : decode cL_law 763 = .ok (.ishr, 1) := by decide +kernel
theorem dL_law_764 : decode cL_law 764 = .ok (.bipush 8, 2) := by decide +kernel
theorem dL_law_766 : decode cL_law 766 = .ok (.invokestatic 58, 3) := by decide +kernel
theorem dL_law_769 : decode cL_law 769 = .ok (.istore 14, 2) := by decide +kernel
theorem dL_law_771 : decode cL_law 771 = .ok (.iconst 1, 1) := by decide +kernel
theorem dL_law_772 : decode cL_law 772 = .ok (.iload 7, 2) := by decide +kernel
theorem dL_law_774 : decode cL_law 774 = .ok (.iconst 5, 1) := by decide +kernel
theorem dL_law_775 : decode cL_law 775 = .ok (.ishr, 1) := by decide +kernel
theorem dL_law_776 : decode cL_law 776 = .ok (.iload 8, 2) := by decide +kernel
theorem dL_law_778 : decode cL_law 778 = .ok (.bipush 9, 2) := by decide +kernel
theorem dL_law_780 : decode cL_law 780 = .ok (.ishr, 1) := by decide +kernel
theorem dL_law_781 : decode cL_law 781 = .ok (.iconst 3, 1) := by decide +kernel
theorem dL_law_782 : decode cL_law 782 = .ok (.invokestatic 58, 3) := by decide +kernel
theorem dL_law_785 : decode cL_law 785 = .ok (.ifCond .ne 8, 3) := by decide +kernel
theorem dL_law_788 : decode cL_law 788 = .ok (.bipush 40, 2) := by decide +kernel
theorem dL_law_790 : decode cL_law 790 = .ok (.goto 5, 3) := by decide +kernel
theorem dL_law_793 : decode cL_law 793 = .ok (.bipush 14, 2) := by decide +kernel
theorem dL_law_795 : decode cL_law 795 = .ok (.invokestatic 58, 3) := by decide +kernel
theorem dL_law_798 : decode cL_law 798 = .ok (.iadd, 1) := by decide +kernel
theorem dL_law_799 : decode cL_law 799 = .ok (.istore 15, 2) := by decide +kernel
theorem dL_law_801 : decode cL_law 801 = .ok (.iconst 0, 1) := by decide +kernel
theorem dL_law_802 : decode cL_law 802 = .ok (.istore 16, 2) := by decide +kernel
theorem dL_law_804 : decode cL_law 804 = .ok (.iload 16, 2) := by decide +kernel
theorem dL_law_806 : decode cL_law 806 = .ok (.iconst 5, 1) := by decide +kernel
theorem dL_law_807 : decode cL_law 807 = .ok (.if_icmp .ge 52, 3) := by decide +kernel
theorem dL_law_810 : decode cL_law 810 = .ok (.aload_n 1, 1) := by decide +kernel
theorem dL_law_811 : decode cL_law 811 = .ok (.iload 12, 2) := by decide +kernel
theorem dL_law_813 : decode cL_law 813 = .ok (.iload 14, 2) := by decide +kernel
theorem dL_law_815 : decode cL_law 815 = .ok (.iload 15, 2) := by decide +kernel
theorem dL_law_817 : decode cL_law 817 = .ok (.iload 16, 2) := by decide +kernel
theorem dL_law_819 : decode cL_law 819 = .ok (.invokevirtual 83, 3) := by decide +kernel
theorem dL_law_822 : decode cL_law 822 = .ok (.iload 13, 2) := by decide +kernel
theorem dL_law_824 : decode cL_law 824 = .ok (.ifCond .eq 21, 3) := by decide +kernel
theorem dL_law_827 : decode cL_law 827 = .ok (.iload 12, 2) := by decide +kernel
theorem dL_law_829 : decode cL_law 829 = .ok (.iload 14, 2) := by decide +kernel
theorem dL_law_831 : decode cL_law 831 = .ok (.iload 15, 2) := by decide +kernel
theorem dL_law_833 : decode cL_law 833 = .ok (.iload 16, 2) := by decide +kernel
theorem dL_law_835 : decode cL_law 835 = .ok (.aload_n 2, 1) := by decide +kernel
theorem dL_law_836 : decode cL_law 836 = .ok (.aload_n 3, 1) := by decide +kernel
theorem dL_law_837 : decode cL_law 837 = .ok (.aload 4, 2) := by decide +kernel
theorem dL_law_839 : decode cL_law 839 = .ok (.invokestatic 86, 3) := by decide +kernel
theorem dL_law_842 : decode cL_law 842 = .ok (.goto 6, 3) := by decide +kernel
theorem dL_law_845 : decode cL_law 845 = .ok (.sipush (-1003), 3) := by decide +kernel
theorem dL_law_848 : decode cL_law 848 = .ok (.if_icmp .eq 5, 3) := by decide +kernel
theorem dL_law_851 : decode cL_law 851 = .ok (.iconst 0, 1) := by decide +kernel
theorem dL_law_852 : decode cL_law 852 = .ok (.ireturn, 1) := by decide +kernel
theorem dL_law_853 : decode cL_law 853 = .ok (.iinc 16 1, 3) := by decide +kernel
theorem dL_law_856 : decode cL_law 856 = .ok (.goto (-52), 3) := by decide +kernel
theorem dL_law_859 : decode cL_law 859 = .ok (.iload 13, 2) := by decide +kernel
theorem dL_law_861 : decode cL_law 861 = .ok (.ifCond .eq 21, 3) := by decide +kernel
theorem dL_law_864 : decode cL_law 864 = .ok (.aload_n 3, 1) := by decide +kernel
theorem dL_law_865 : decode cL_law 865 = .ok (.iconst 5, 1) := by decide +kernel
theorem dL_law_866 : decode cL_law 866 = .ok (.iload 12, 2) := by decide +kernel
theorem dL_law_868 : decode cL_law 868 = .ok (.imul, 1) := by decide +kernel
theorem dL_law_869 : decode cL_law 869 = .ok (.iconst 3, 1) := by decide +kernel
theorem dL_law_870 : decode cL_law 870 = .ok (.iadd, 1) := by decide +kernel
theorem dL_law_871 : decode cL_law 871 = .ok (.iaload, 1) := by decide +kernel
theorem dL_law_872 : decode cL_law 872 = .ok (.aload_n 2, 1) := by decide +kernel
theorem dL_law_873 : decode cL_law 873 = .ok (.iconst 2, 1) := by decide +kernel
theorem dL_law_874 : decode cL_law 874 = .ok (.iaload, 1) := by decide +kernel
theorem dL_law_875 : decode cL_law 875 = .ok (.if_icmp .ne 7, 3) := by decide +kernel
theorem dL_law_878 : decode cL_law 878 = .ok (.iconst 1, 1) := by decide +kernel
theorem dL_law_879 : decode cL_law 879 = .ok (.goto 4, 3) := by decide +kernel
theorem dL_law_882 : decode cL_law 882 = .ok (.iconst 0, 1) := by decide +kernel
theorem dL_law_883 : decode cL_law 883 = .ok (.istore 16, 2) := by decide +kernel
theorem dL_law_885 : decode cL_law 885 = .ok (.iload 16, 2) := by decide +kernel
theorem dL_law_887 : decode cL_law 887 = .ok (.ifCond .ne 59, 3) := by decide +kernel
theorem dL_law_890 : decode cL_law 890 = .ok (.iload 13, 2) := by decide +kernel
theorem dL_law_892 : decode cL_law 892 = .ok (.ifCond .eq 54, 3) := by decide +kernel
theorem dL_law_895 : decode cL_law 895 = .ok (.iload 8, 2) := by decide +kernel
theorem dL_law_897 : decode cL_law 897 = .ok (.bipush 11, 2) := by decide +kernel
theorem dL_law_899 : decode cL_law 899 = .ok (.ishr, 1) := by decide +kernel
theorem dL_law_900 : decode cL_law 900 = .ok (.iconst 3, 1) := by decide +kernel
theorem dL_law_901 : decode cL_law 901 = .ok (.invokestatic 58, 3) := by decide +kernel
theorem dL_law_904 : decode cL_law 904 = .ok (.ifCond .le 42, 3) := by decide +kernel
theorem dL_law_907 : decode cL_law 907 = .ok (.aload_n 2, 1) := by decide +kernel
theorem dL_law_908 : decode cL_law 908 = .ok (.iconst 2, 1) := by decide +kernel
theorem dL_law_909 : decode cL_law 909 = .ok (.iaload, 1) := by decide +kernel
theorem dL_law_910 : decode cL_law 910 = .ok (.aload_n 3, 1) := by decide +kernel
theorem dL_law_911 : decode cL_law 911 = .ok (.iconst 5, 1) := by decide +kernel
theorem dL_law_912 : decode cL_law 912 = .ok (.iload 12, 2) := by decide +kernel
theorem dL_law_914 : decode cL_law 914 = .ok (.imul, 1) := by decide +kernel
theorem dL_law_915 : decode cL_law 915 = .ok (.iconst 3, 1) := by decide +kernel
theorem dL_law_916 : decode cL_law 916 = .ok (.iadd, 1) := by decide +kernel
theorem dL_law_917 : decode cL_law 917 = .ok (.iaload, 1) := by decide +kernel
theorem dL_law_918 : decode cL_law 918 = .ok (.if_icmp .eq 25, 3) := by decide +kernel
theorem dL_law_921 : decode cL_law 921 = .ok (.aload_n 2, 1) := by decide +kernel
theorem dL_law_922 : decode cL_law 922 = .ok (.iconst 2, 1) := by decide +kernel
theorem dL_law_923 : decode cL_law 923 = .ok (.aload_n 2, 1) := by decide +kernel
theorem dL_law_924 : decode cL_law 924 = .ok (.iconst 2, 1) := by decide +kernel
theorem dL_law_925 : decode cL_law 925 = .ok (.iaload, 1) := by decide +kernel
theorem dL_law_926 : decode cL_law 926 = .ok (.iconst 1, 1) := by decide +kernel
theorem dL_law_927 : decode cL_law 927 = .ok (.iadd, 1) := by decide +kernel
theorem dL_law_928 : decode cL_law 928 = .ok (.iconst 3, 1) := by decide +kernel
theorem dL_law_929 : decode cL_law 929 = .ok (.irem, 1) := by decide +kernel
theorem dL_law_930 : decode cL_law 930 = .ok (.iastore, 1) := by decide +kernel
theorem dL_law_931 : decode cL_law 931 = .ok (.aload_n 1, 1) := by decide +kernel
theorem dL_law_932 : decode cL_law 932 = .ok (.invokevirtual 77, 3) := by decide +kernel
theorem dL_law_935 : decode cL_law 935 = .ok (.aload_n 2, 1) := by decide +kernel
theorem dL_law_936 : decode cL_law 936 = .ok (.iconst 2, 1) := by decide +kernel
theorem dL_law_937 : decode cL_law 937 = .ok (.iaload, 1) := by decide +kernel
theorem dL_law_938 : decode cL_law 938 = .ok (.if_icmp .eq (-31), 3) := by decide +kernel
theorem dL_law_941 : decode cL_law 941 = .ok (.iconst 0, 1) := by decide +kernel
theorem dL_law_942 : decode cL_law 942 = .ok (.ireturn, 1) := by decide +kernel
theorem dL_law_943 : decode cL_law 943 = .ok (.iconst 1, 1) := by decide +kernel
theorem dL_law_944 : decode cL_law 944 = .ok (.istore 16, 2) := by decide +kernel
theorem dL_law_946 : decode cL_law 946 = .ok (.sipush (-1003), 3) := by decide +kernel
theorem dL_law_949 : decode cL_law 949 = .ok (.istore 17, 2) := by decide +kernel
theorem dL_law_951 : decode cL_law 951 = .ok (.iload 16, 2) := by decide +kernel
theorem dL_law_953 : decode cL_law 953 = .ok (.ifCond .eq 48, 3) := by decide +kernel
theorem dL_law_956 : decode cL_law 956 = .ok (.aload_n 2, 1) := by decide +kernel
theorem dL_law_957 : decode cL_law 957 = .ok (.iconst 2, 1) := by decide +kernel
theorem dL_law_958 : decode cL_law 958 = .ok (.iaload, 1) := by decide +kernel
theorem dL_law_959 : decode cL_law 959 = .ok (.iload 12, 2) := by decide +kernel
theorem dL_law_961 : decode cL_law 961 = .ok (.iload 14, 2) := by decide +kernel
theorem dL_law_963 : decode cL_law 963 = .ok (.iload 15, 2) := by decide +kernel
theorem dL_law_965 : decode cL_law 965 = .ok (.aload_n 2, 1) := by decide +kernel
theorem dL_law_966 : decode cL_law 966 = .ok (.aload_n 3, 1) := by decide +kernel
theorem dL_law_967 : decode cL_law 967 = .ok (.aload 4, 2) := by decide +kernel
theorem dL_law_969 : decode cL_law 969 = .ok (.aload 5, 2) := by decide +kernel
theorem dL_law_971 : decode cL_law 971 = .ok (.invokestatic 27, 3) := by decide +kernel
theorem dL_law_974 : decode cL_law 974 = .ok (.aload 5, 2) := by decide +kernel
theorem dL_law_976 : decode cL_law 976 = .ok (.iconst 0, 1) := by decide +kernel
theorem dL_law_977 : decode cL_law 977 = .ok (.iaload, 1) := by decide +kernel
theorem dL_law_978 : decode cL_law 978 = .ok (.istore 17, 2) := by decide +kernel
theorem dL_law_980 : decode cL_law 980 = .ok (.aload_n 2, 1) := by decide +kernel
theorem dL_law_981 : decode cL_law 981 = .ok (.iconst 2, 1) := by decide +kernel
theorem dL_law_982 : decode cL_law 982 = .ok (.iload 17, 2) := by decide +kernel
theorem dL_law_984 : decode cL_law 984 = .ok (.ifCond .ne 13, 3) := by decide +kernel
theorem dL_law_987 : decode cL_law 987 = .ok (.aload_n 2, 1) := by decide +kernel
theorem dL_law_988 : decode cL_law 988 = .ok (.iconst 2, 1) := by decide +kernel
theorem dL_law_989 : decode cL_law 989 = .ok (.iaload, 1) := by decide +kernel
theorem dL_law_990 : decode cL_law 990 = .ok (.iconst 1, 1) := by decide +kernel
theorem dL_law_991 : decode cL_law 991 = .ok (.iadd, 1) := by decide +kernel
theorem dL_law_992 : decode cL_law 992 = .ok (.iconst 3, 1) := by decide +kernel
theorem dL_law_993 : decode cL_law 993 = .ok (.irem, 1) := by decide +kernel
theorem dL_law_994 : decode cL_law 994 = .ok (.goto 6, 3) := by decide +kernel
theorem dL_law_997 : decode cL_law 997 = .ok (.aload_n 2, 1) := by decide +kernel
theorem dL_law_998 : decode cL_law 998 = .ok (.iconst 2, 1) := by decide +kernel
theorem dL_law_999 : decode cL_law 999 = .ok (.iaload, 1) := by decide +kernel
theorem dL_law_1000 : decode cL_law 1000 = .ok (.iastore, 1) := by decide +kernel
theorem dL_law_1001 : decode cL_law 1001 = .ok (.aload_n 1, 1) := by decide +kernel
theorem dL_law_1002 : decode cL_law 1002 = .ok (.iload 12, 2) := by decide +kernel
theorem dL_law_1004 : decode cL_law 1004 = .ok (.iload 14, 2) := by decide +kernel
theorem dL_law_1006 : decode cL_law 1006 = .ok (.iload 15, 2) := by decide +kernel
theorem dL_law_1008 : decode cL_law 1008 = .ok (.invokevirtual 90, 3) := by decide +kernel
theorem dL_law_1011 : decode cL_law 1011 = .ok (.iload 17, 2) := by decide +kernel
theorem dL_law_1013 : decode cL_law 1013 = .ok (.if_icmp .eq 5, 3) := by decide +kernel
theorem dL_law_1016 : decode cL_law 1016 = .ok (.iconst 0, 1) := by decide +kernel
theorem dL_law_1017 : decode cL_law 1017 = .ok (.ireturn, 1) := by decide +kernel
theorem dL_law_1018 : decode cL_law 1018 = .ok (.aload_n 1, 1) := by decide +kernel
theorem dL_law_1019 : decode cL_law 1019 = .ok (.iload 8, 2) := by decide +kernel
theorem dL_law_1021 : decode cL_law 1021 = .ok (.iconst 3, 1) := by decide +kernel
theorem dL_law_1022 : decode cL_law 1022 = .ok (.ishr, 1) := by decide +kernel
theorem dL_law_1023 : decode cL_law 1023 = .ok (.aload_n 2, 1) := by decide +kernel
theorem dL_law_1024 : decode cL_law 1024 = .ok (.aload_n 3, 1) := by decide +kernel
theorem dL_law_1025 : decode cL_law 1025 = .ok (.aload 4, 2) := by decide +kernel
theorem dL_law_1027 : decode cL_law 1027 = .ok (.invokestatic 92, 3) := by decide +kernel
theorem dL_law_1030 : decode cL_law 1030 = .ok (.ifCond .ne 5, 3) := by decide +kernel
theorem dL_law_1033 : decode cL_law 1033 = .ok (.iconst 0, 1) := by decide +kernel
theorem dL_law_1034 : decode cL_law 1034 = .ok (.ireturn, 1) := by decide +kernel
theorem dL_law_1035 : decode cL_law 1035 = .ok (.iload 6, 2) := by decide +kernel
theorem dL_law_1037 : decode cL_law 1037 = .ok (.bipush 20, 2) := by decide +kernel
theorem dL_law_1039 : decode cL_law 1039 = .ok (.if_icmp .ne 130, 3) := by decide +kernel
theorem dL_law_1042 : decode cL_law 1042 = .ok (.aload_n 2, 1) := by decide +kernel
theorem dL_law_1043 : decode cL_law 1043 = .ok (.iconst 0, 1) := by decide +kernel
theorem dL_law_1044 : decode cL_law 1044 = .ok (.iaload, 1) := by decide +kernel
theorem dL_law_1045 : decode cL_law 1045 = .ok (.ifCond .eq 124, 3) := by decide +kernel
theorem dL_law_1048 : decode cL_law 1048 = .ok (.aload_n 3, 1) := by decide +kernel
theorem dL_law_1049 : decode cL_law 1049 = .ok (.iconst 5, 1) := by decide +kernel
theorem dL_law_1050 : decode cL_law 1050 = .ok (.iload 12, 2) := by decide +kernel
theorem dL_law_1052 : decode cL_law 1052 = .ok (.imul, 1) := by decide +kernel
theorem dL_law_1053 : decode cL_law 1053 = .ok (.iconst 4, 1) := by decide +kernel
theorem dL_law_1054 : decode cL_law 1054 = .ok (.iadd, 1) := by decide +kernel
theorem dL_law_1055 : decode cL_law 1055 = .ok (.iaload, 1) := by decide +kernel
theorem dL_law_1056 : decode cL_law 1056 = .ok (.ifCond .lt 6, 3) := by decide +kernel
theorem dL_law_1059 : decode cL_law 1059 = .ok (.goto 110, 3) := by decide +kernel
theorem dL_law_1062 : decode cL_law 1062 = .ok (.sipush (-1006), 3) := by decide +kernel
theorem dL_law_1065 : decode cL_law 1065 = .ok (.istore 14, 2) := by decide +kernel
theorem dL_law_1067 : decode cL_law 1067 = .ok (.iconst 0, 1) := by decide +kernel
theorem dL_law_1068 : decode cL_law 1068 = .ok (.istore 15, 2) := by decide +kernel
theorem dL_law_1070 : decode cL_law 1070 = .ok (.iconst 1, 1) := by decide +kernel
theorem dL_law_1071 : decode cL_law 1071 = .ok (.istore 16, 2) := by decide +kernel
theorem dL_law_1073 : decode cL_law 1073 = .ok (.iload 16, 2) := by decide +kernel
theorem dL_law_1075 : decode cL_law 1075 = .ok (.bipush 41, 2) := by decide +kernel
theorem dL_law_1077 : decode cL_law 1077 = .ok (.if_icmp .ge 79, 3) := by decide +kernel
theorem dL_law_1080 : decode cL_law 1080 = .ok (.iconst 0, 1) := by decide +kernel
theorem dL_law_1081 : decode cL_law 1081 = .ok (.istore 17, 2) := by decide +kernel
theorem dL_law_1083 : decode cL_law 1083 = .ok (.iload 17, 2) := by decide +kernel
theorem dL_law_1085 : decode cL_law 1085 = .ok (.bipush 8, 2) := by decide +kernel
theorem dL_law_1087 : decode cL_law 1087 = .ok (.if_icmp .ge 63, 3) := by decide +kernel
theorem dL_law_1090 : decode cL_law 1090 = .ok (.iload 12, 2) := by decide +kernel
theorem dL_law_1092 : decode cL_law 1092 = .ok (.iload 17, 2) := by decide +kernel
theorem dL_law_1094 : decode cL_law 1094 = .ok (.iload 16, 2) := by decide +kernel
theorem dL_law_1096 : decode cL_law 1096 = .ok (.iconst 1, 1) := by decide +kernel
theorem dL_law_1097 : decode cL_law 1097 = .ok (.aload_n 2, 1) := by decide +kernel
theorem dL_law_1098 : decode cL_law 1098 = .ok (.aload_n 3, 1) := by decide +kernel
theorem dL_law_1099 : decode cL_law 1099 = .ok (.aload 4, 2) := by decide +kernel
theorem dL_law_1101 : decode cL_law 1101 = .ok (.invokestatic 86, 3) := by decide +kernel
theorem dL_law_1104 : decode cL_law 1104 = .ok (.istore 18, 2) := by decide +kernel
theorem dL_law_1106 : decode cL_law 1106 = .ok (.iload 18, 2) := by decide +kernel
theorem dL_law_1108 : decode cL_law 1108 = .ok (.iload 15, 2) := by decide +kernel
theorem dL_law_1110 : decode cL_law 1110 = .ok (.if_icmp .le 14, 3) := by decide +kernel
theorem dL_law_1113 : decode cL_law 1113 = .ok (.bipush 100, 2) := by decide +kernel
theorem dL_law_1115 : decode cL_law 1115 = .ok (.iload 17, 2) := by decide +kernel
theorem dL_law_1117 : decode cL_law 1117 = .ok (.imul, 1) := by decide +kernel
theorem dL_law_1118 : decode cL_law 1118 = .ok (.iload 16, 2) := by decide +kernel
theorem dL_law_1120 : decode cL_law 1120 = .ok (.iadd, 1) := by decide +kernel
theorem dL_law_1121 : decode cL_law 1121 = .ok (.goto 5, 3) := by decide +kernel
theorem dL_law_1124 : decode cL_law 1124 = .ok (.iload 14, 2) := by decide +kernel
theorem dL_law_1126 : decode cL_law 1126 = .ok (.istore 14, 2) := by decide +kernel
theorem dL_law_1128 : decode cL_law 1128 = .ok (.iload 18, 2) := by decide +kernel
theorem dL_law_1130 : decode cL_law 1130 = .ok (.iload 15, 2) := by decide +kernel
theorem dL_law_1132 : decode cL_law 1132 = .ok (.if_icmp .le 8, 3) := by decide +kernel
theorem dL_law_1135 : decode cL_law 1135 = .ok (.iload 18, 2) := by decide +kernel
theorem dL_law_1137 : decode cL_law 1137 = .ok (.goto 5, 3) := by decide +kernel
theorem dL_law_1140 : decode cL_law 1140 = .ok (.iload 15, 2) := by decide +kernel
theorem dL_law_1142 : decode cL_law 1142 = .ok (.istore 15, 2) := by decide +kernel
theorem dL_law_1144 : decode cL_law 1144 = .ok (.iinc 17 1, 3) := by decide +kernel
theorem dL_law_1147 : decode cL_law 1147 = .ok (.goto (-64), 3) := by decide +kernel
theorem dL_law_1150 : decode cL_law 1150 = .ok (.iinc 16 1, 3) := by decide +kernel
theorem dL_law_1153 : decode cL_law 1153 = .ok (.goto (-80), 3) := by decide +kernel
theorem dL_law_1156 : decode cL_law 1156 = .ok (.aload_n 1, 1) := by decide +kernel
theorem dL_law_1157 : decode cL_law 1157 = .ok (.iload 12, 2) := by decide +kernel
theorem dL_law_1159 : decode cL_law 1159 = .ok (.invokevirtual 96, 3) := by decide +kernel
theorem dL_law_1162 : decode cL_law 1162 = .ok (.iload 14, 2) := by decide +kernel
theorem dL_law_1164 : decode cL_law 1164 = .ok (.if_icmp .eq 5, 3) := by decide +kernel
theorem dL_law_1167 : decode cL_law 1167 = .ok (.iconst 0, 1) := by decide +kernel
theorem dL_law_1168 : decode cL_law 1168 = .ok (.ireturn, 1) := by decide +kernel
theorem dL_law_1169 : decode cL_law 1169 = .ok (.iinc 6 1, 3) := by decide +kernel
theorem dL_law_1172 : decode cL_law 1172 = .ok (.goto (-1140), 3) := by decide +kernel
theorem dL_law_1175 : decode cL_law 1175 = .ok (.iconst 1, 1) := by decide +kernel
theorem dL_law_1176 : decode cL_law 1176 = .ok (.ireturn, 1) := by decide +kernel
