theorem dX0_init_0 : decode cX0_init 0 = .ok (.aload_n 0, 1) := by decide +kernel
theorem dX0_init_1 : decode cX0_init 1 = .ok (.invokespecial 3, 3) := by decide +kernel
theorem dX0_init_4 : decode cX0_init 4 = .ok (.aload_n 0, 1) := by decide +kernel
theorem dX0_init_5 : decode cX0_init 5 = .ok (.bipush 6, 2) := by decide +kernel
theorem dX0_init_7 : decode cX0_init 7 = .ok (.anewarray 9, 3) := by decide +kernel
theorem dX0_init_10 : decode cX0_init 10 = .ok (.putfield 11, 3) := by decide +kernel
theorem dX0_init_13 : decode cX0_init 13 = .ok (.iconst 0, 1) := by decide +kernel
theorem dX0_init_14 : decode cX0_init 14 = .ok (.istore_n 1, 1) := by decide +kernel
theorem dX0_init_15 : decode cX0_init 15 = .ok (.iload_n 1, 1) := by decide +kernel
theorem dX0_init_16 : decode cX0_init 16 = .ok (.aload_n 0, 1) := by decide +kernel
theorem dX0_init_17 : decode cX0_init 17 = .ok (.getfield 11, 3) := by decide +kernel
theorem dX0_init_20 : decode cX0_init 20 = .ok (.arraylength, 1) := by decide +kernel
theorem dX0_init_21 : decode cX0_init 21 = .ok (.if_icmp .ge 22, 3) := by decide +kernel
theorem dX0_init_24 : decode cX0_init 24 = .ok (.aload_n 0, 1) := by decide +kernel
theorem dX0_init_25 : decode cX0_init 25 = .ok (.getfield 11, 3) := by decide +kernel
theorem dX0_init_28 : decode cX0_init 28 = .ok (.iload_n 1, 1) := by decide +kernel
theorem dX0_init_29 : decode cX0_init 29 = .ok (.new 9, 3) := by decide +kernel
theorem dX0_init_32 : decode cX0_init 32 = .ok (.dup, 1) := by decide +kernel
theorem dX0_init_33 : decode cX0_init 33 = .ok (.invokespecial 17, 3) := by decide +kernel
theorem dX0_init_36 : decode cX0_init 36 = .ok (.aastore, 1) := by decide +kernel
theorem dX0_init_37 : decode cX0_init 37 = .ok (.iinc 1 1, 3) := by decide +kernel
theorem dX0_init_40 : decode cX0_init 40 = .ok (.goto (-25), 3) := by decide +kernel
theorem dX0_init_43 : decode cX0_init 43 = .ok (.return_, 1) := by decide +kernel
theorem dX0_save_0 : decode cX0_save 0 = .ok (.aload_n 0, 1) := by decide +kernel
theorem dX0_save_1 : decode cX0_save 1 = .ok (.getfield 18, 3) := by decide +kernel
theorem dX0_save_4 : decode cX0_save 4 = .ok (.bipush 6, 2) := by decide +kernel
theorem dX0_save_6 : decode cX0_save 6 = .ok (.if_icmp .lt 21, 3) := by decide +kernel
theorem dX0_save_9 : decode cX0_save 9 = .ok (.aload_n 0, 1) := by decide +kernel
theorem dX0_save_10 : decode cX0_save 10 = .ok (.aload_n 0, 1) := by decide +kernel
theorem dX0_save_11 : decode cX0_save 11 = .ok (.getfield 22, 3) := by decide +kernel
theorem dX0_save_14 : decode cX0_save 14 = .ok (.iconst 1, 1) := by decide +kernel
theorem dX0_save_15 : decode cX0_save 15 = .ok (.iadd, 1) := by decide +kernel
theorem dX0_save_16 : decode cX0_save 16 = .ok (.bipush 6, 2) := by decide +kernel
theorem dX0_save_18 : decode cX0_save 18 = .ok (.irem, 1) := by decide +kernel
theorem dX0_save_19 : decode cX0_save 19 = .ok (.putfield 22, 3) := by decide +kernel
theorem dX0_save_22 : decode cX0_save 22 = .ok (.aload_n 0, 1) := by decide +kernel
theorem dX0_save_23 : decode cX0_save 23 = .ok (.iconst 5, 1) := by decide +kernel
theorem dX0_save_24 : decode cX0_save 24 = .ok (.putfield 18, 3) := by decide +kernel
theorem dX0_save_27 : decode cX0_save 27 = .ok (.aload_n 0, 1) := by decide +kernel
theorem dX0_save_28 : decode cX0_save 28 = .ok (.aload_n 0, 1) := by decide +kernel
theorem dX0_save_29 : decode cX0_save 29 = .ok (.getfield 18, 3) := by decide +kernel
theorem dX0_save_32 : decode cX0_save 32 = .ok (.invokevirtual 25, 3) := by decide +kernel
theorem dX0_save_35 : decode cX0_save 35 = .ok (.astore_n 2, 1) := by decide +kernel
theorem dX0_save_36 : decode cX0_save 36 = .ok (.aload_n 2, 1) := by decide +kernel
theorem dX0_save_37 : decode cX0_save 37 = .ok (.ifnull 18, 3) := by decide +kernel
theorem dX0_save_40 : decode cX0_save 40 = .ok (.aload_n 2, 1) := by decide +kernel
theorem dX0_save_41 : decode cX0_save 41 = .ok (.aload_n 1, 1) := by decide +kernel
theorem dX0_save_42 : decode cX0_save 42 = .ok (.invokevirtual 29, 3) := by decide +kernel
theorem dX0_save_45 : decode cX0_save 45 = .ok (.aload_n 0, 1) := by decide +kernel
theorem dX0_save_46 : decode cX0_save 46 = .ok (.dup, 1) := by decide +kernel
theorem dX0_save_47 : decode cX0_save 47 = .ok (.getfield 18, 3) := by decide +kernel
theorem dX0_save_50 : decode cX0_save 50 = .ok (.iconst 1, 1) := by decide +kernel
theorem dX0_save_51 : decode cX0_save 51 = .ok (.iadd, 1) := by decide +kernel
theorem dX0_save_52 : decode cX0_save 52 = .ok (.putfield 18, 3) := by decide +kernel
theorem dX0_save_55 : decode cX0_save 55 = .ok (.return_, 1) := by decide +kernel
theorem dX0_restore_0 : decode cX0_restore 0 = .ok (.aload_n 0, 1) := by decide +kernel
theorem dX0_restore_1 : decode cX0_restore 1 = .ok (.aload_n 0, 1) := by decide +kernel
theorem dX0_restore_2 : decode cX0_restore 2 = .ok (.getfield 18, 3) := by decide +kernel
theorem dX0_restore_5 : decode cX0_restore 5 = .ok (.iconst 1, 1) := by decide +kernel
theorem dX0_restore_6 : decode cX0_restore 6 = .ok (.isub, 1) := by decide +kernel
theorem dX0_restore_7 : decode cX0_restore 7 = .ok (.invokevirtual 25, 3) := by decide +kernel
theorem dX0_restore_10 : decode cX0_restore 10 = .ok (.astore_n 2, 1) := by decide +kernel
theorem dX0_restore_11 : decode cX0_restore 11 = .ok (.aload_n 2, 1) := by decide +kernel
theorem dX0_restore_12 : decode cX0_restore 12 = .ok (.ifnull 18, 3) := by decide +kernel
theorem dX0_restore_15 : decode cX0_restore 15 = .ok (.aload_n 1, 1) := by decide +kernel
theorem dX0_restore_16 : decode cX0_restore 16 = .ok (.aload_n 2, 1) := by decide +kernel
theorem dX0_restore_17 : decode cX0_restore 17 = .ok (.invokevirtual 29, 3) := by decide +kernel
theorem dX0_restore_20 : decode cX0_restore 20 = .ok (.aload_n 0, 1) := by decide +kernel
theorem dX0_restore_21 : decode cX0_restore 21 = .ok (.dup, 1) := by decide +kernel
theorem dX0_restore_22 : decode cX0_restore 22 = .ok (.getfield 18, 3) := by decide +kernel
theorem dX0_restore_25 : decode cX0_restore 25 = .ok (.iconst 1, 1) := by decide +kernel
theorem dX0_restore_26 : decode cX0_restore 26 = .ok (.isub, 1) := by decide +kernel
theorem dX0_restore_27 : decode cX0_restore 27 = .ok (.putfield 18, 3) := by decide +kernel
theorem dX0_restore_30 : decode cX0_restore 30 = .ok (.return_, 1) := by decide +kernel
theorem dX0_slotOf_0 : decode cX0_slotOf 0 = .ok (.aload_n 0, 1) := by decide +kernel
theorem dX0_slotOf_1 : decode cX0_slotOf 1 = .ok (.getfield 22, 3) := by decide +kernel
theorem dX0_slotOf_4 : decode cX0_slotOf 4 = .ok (.iload_n 1, 1) := by decide +kernel
theorem dX0_slotOf_5 : decode cX0_slotOf 5 = .ok (.iadd, 1) := by decide +kernel
theorem dX0_slotOf_6 : decode cX0_slotOf 6 = .ok (.bipush 6, 2) := by decide +kernel
theorem dX0_slotOf_8 : decode cX0_slotOf 8 = .ok (.irem, 1) := by decide +kernel
theorem dX0_slotOf_9 : decode cX0_slotOf 9 = .ok (.istore_n 2, 1) := by decide +kernel
theorem dX0_slotOf_10 : decode cX0_slotOf 10 = .ok (.iload_n 2, 1) := by decide +kernel
theorem dX0_slotOf_11 : decode cX0_slotOf 11 = .ok (.ifCond .lt 12, 3) := by decide +kernel
theorem dX0_slotOf_14 : decode cX0_slotOf 14 = .ok (.iload_n 2, 1) := by decide +kernel
theorem dX0_slotOf_15 : decode cX0_slotOf 15 = .ok (.aload_n 0, 1) := by decide +kernel
theorem dX0_slotOf_16 : decode cX0_slotOf 16 = .ok (.getfield 11, 3) := by decide +kernel
theorem dX0_slotOf_19 : decode cX0_slotOf 19 = .ok (.arraylength, 1) := by decide +kernel
theorem dX0_slotOf_20 : decode cX0_slotOf 20 = .ok (.if_icmp .lt 7, 3) := by decide +kernel
theorem dX0_slotOf_23 : decode cX0_slotOf 23 = .ok (.aconst_null, 1) := by decide +kernel
theorem dX0_slotOf_24 : decode cX0_slotOf 24 = .ok (.goto 9, 3) := by decide +kernel
theorem dX0_slotOf_27 : decode cX0_slotOf 27 = .ok (.aload_n 0, 1) := by decide +kernel
theorem dX0_slotOf_28 : decode cX0_slotOf 28 = .ok (.getfield 11, 3) := by decide +kernel
theorem dX0_slotOf_31 : decode cX0_slotOf 31 = .ok (.iload_n 2, 1) := by decide +kernel
theorem dX0_slotOf_32 : decode cX0_slotOf 32 = .ok (.aaload, 1) := by decide +kernel
theorem dX0_slotOf_33 : decode cX0_slotOf 33 = .ok (.areturn, 1) := by decide +kernel
theorem dX1_init_0 : decode cX1_init 0 = .ok (.aload_n 0, 1) := by decide +kernel
theorem dX1_init_1 : decode cX1_init 1 = .ok (.invokespecial 3, 3) := by decide +kernel
theorem dX1_init_4 : decode cX1_init 4 = .ok (.aload_n 0, 1) := by decide +kernel
theorem dX1_init_5 : decode cX1_init 5 = .ok (.new 9, 3) := by decide +kernel
theorem dX1_init_8 : decode cX1_init 8 = .ok (.dup, 1) := by decide +kernel
theorem dX1_init_9 : decode cX1_init 9 = .ok (.invokespecial 11, 3) := by decide +kernel
theorem dX1_init_12 : decode cX1_init 12 = .ok (.putfield 12, 3) := by decide +kernel
theorem dX1_init_15 : decode cX1_init 15 = .ok (.return_, 1) := by decide +kernel
theorem dX1_start_0 : decode cX1_start 0 = .ok (.aload_n 0, 1) := by decide +kernel
theorem dX1_start_1 : decode cX1_start 1 = .ok (.iconst 0, 1) := by decide +kernel
theorem dX1_start_2 : decode cX1_start 2 = .ok (.putfield 18, 3) := by decide +kernel
theorem dX1_start_5 : decode cX1_start 5 = .ok (.aload_n 0, 1) := by decide +kernel
theorem dX1_start_6 : decode cX1_start 6 = .ok (.iconst 0, 1) := by decide +kernel
theorem dX1_start_7 : decode cX1_start 7 = .ok (.putfield 22, 3) := by decide +kernel
theorem dX1_start_10 : decode cX1_start 10 = .ok (.return_, 1) := by decide +kernel
theorem dX1_hasMore_0 : decode cX1_hasMore 0 = .ok (.aload_n 0, 1) := by decide +kernel
theorem dX1_hasMore_1 : decode cX1_hasMore 1 = .ok (.getfield 22, 3) := by decide +kernel
theorem dX1_hasMore_4 : decode cX1_hasMore 4 = .ok (.ifCond .ne 21, 3) := by decide +kernel
theorem dX1_hasMore_7 : decode cX1_hasMore 7 = .ok (.aload_n 0, 1) := by decide +kernel
theorem dX1_hasMore_8 : decode cX1_hasMore 8 = .ok (.getfield 18, 3) := by decide +kernel
theorem dX1_hasMore_11 : decode cX1_hasMore 11 = .ok (.aload_n 0, 1) := by decide +kernel
theorem dX1_hasMore_12 : decode cX1_hasMore 12 = .ok (.getfield 12, 3) := by decide +kernel
theorem dX1_hasMore_15 : decode cX1_hasMore 15 = .ok (.getfield 26, 3) := by decide +kernel
theorem dX1_hasMore_18 : decode cX1_hasMore 18 = .ok (.if_icmp .ge 7, 3) := by decide +kernel
theorem dX1_hasMore_21 : decode cX1_hasMore 21 = .ok (.iconst 1, 1) := by decide +kernel
theorem dX1_hasMore_22 : decode cX1_hasMore 22 = .ok (.goto 4, 3) := by decide +kernel
theorem dX1_hasMore_25 : decode cX1_hasMore 25 = .ok (.iconst 0, 1) := by decide +kernel
theorem dX1_hasMore_26 : decode cX1_hasMore 26 = .ok (.ireturn, 1) := by decide +kernel
theorem dX1_readItem_0 : decode cX1_readItem 0 = .ok (.aload_n 0, 1) := by decide +kernel
theorem dX1_readItem_1 : decode cX1_readItem 1 = .ok (.getfield 18, 3) := by decide +kernel
theorem dX1_readItem_4 : decode cX1_readItem 4 = .ok (.ifCond .le 9, 3) := by decide +kernel
theorem dX1_readItem_7 : decode cX1_readItem 7 = .ok (.aload_n 0, 1) := by decide +kernel
theorem dX1_readItem_8 : decode cX1_readItem 8 = .ok (.bipush 59, 2) := by decide +kernel
theorem dX1_readItem_10 : decode cX1_readItem 10 = .ok (.invokevirtual 29, 3) := by decide +kernel
theorem dX1_readItem_13 : decode cX1_readItem 13 = .ok (.aload_n 0, 1) := by decide +kernel
theorem dX1_readItem_14 : decode cX1_readItem 14 = .ok (.aload_n 0, 1) := by decide +kernel
theorem dX1_readItem_15 : decode cX1_readItem 15 = .ok (.getfield 12, 3) := by decide +kernel
theorem dX1_readItem_18 : decode cX1_readItem 18 = .ok (.aload_n 0, 1) := by decide +kernel
theorem dX1_readItem_19 : decode cX1_readItem 19 = .ok (.getfield 18, 3) := by decide +kernel
theorem dX1_readItem_22 : decode cX1_readItem 22 = .ok (.invokevirtual 33, 3) := by decide +kernel
theorem dX1_readItem_25 : decode cX1_readItem 25 = .ok (.bipush 114, 2) := by decide +kernel
theorem dX1_readItem_27 : decode cX1_readItem 27 = .ok (.if_icmp .ne 7, 3) := by decide +kernel
theorem dX1_readItem_30 : decode cX1_readItem 30 = .ok (.iconst 1, 1) := by decide +kernel
theorem dX1_readItem_31 : decode cX1_readItem 31 = .ok (.goto 4, 3) := by decide +kernel
theorem dX1_readItem_34 : decode cX1_readItem 34 = .ok (.iconst 0, 1) := by decide +kernel
theorem dX1_readItem_35 : decode cX1_readItem 35 = .ok (.putfield 37, 3) := by decide +kernel
theorem dX1_readItem_38 : decode cX1_readItem 38 = .ok (.aload_n 0, 1) := by decide +kernel
theorem dX1_readItem_39 : decode cX1_readItem 39 = .ok (.aload_n 0, 1) := by decide +kernel
theorem dX1_readItem_40 : decode cX1_readItem 40 = .ok (.getfield 37, 3) := by decide +kernel
theorem dX1_readItem_43 : decode cX1_readItem 43 = .ok (.ifCond .eq 8, 3) := by decide +kernel
theorem dX1_readItem_46 : decode cX1_readItem 46 = .ok (.bipush 114, 2) := by decide +kernel
theorem dX1_readItem_48 : decode cX1_readItem 48 = .ok (.goto 5, 3) := by decide +kernel
theorem dX1_readItem_51 : decode cX1_readItem 51 = .ok (.bipush 109, 2) := by decide +kernel
theorem dX1_readItem_53 : decode cX1_readItem 53 = .ok (.invokevirtual 29, 3) := by decide +kernel
theorem dX1_readItem_56 : decode cX1_readItem 56 = .ok (.aload_n 0, 1) := by decide +kernel
theorem dX1_readItem_57 : decode cX1_readItem 57 = .ok (.aload_n 0, 1) := by decide +kernel
theorem dX1_readItem_58 : decode cX1_readItem 58 = .ok (.iconst 0, 1) := by decide +kernel
theorem dX1_readItem_59 : decode cX1_readItem 59 = .ok (.bipush 30, 2) := by decide +kernel
theorem dX1_readItem_61 : decode cX1_readItem 61 = .ok (.invokevirtual 40, 3) := by decide +kernel
theorem dX1_readItem_64 : decode cX1_readItem 64 = .ok (.putfield 44, 3) := by decide +kernel
theorem dX1_readItem_67 : decode cX1_readItem 67 = .ok (.aload_n 0, 1) := by decide +kernel
theorem dX1_readItem_68 : decode cX1_readItem 68 = .ok (.bipush 44, 2) := by decide +kernel
theorem dX1_readItem_70 : decode cX1_readItem 70 = .ok (.invokevirtual 29, 3) := by decide +kernel
theorem dX1_readItem_73 : decode cX1_readItem 73 = .ok (.aload_n 0, 1) := by decide +kernel
theorem dX1_readItem_74 : decode cX1_readItem 74 = .ok (.aload_n 0, 1) := by decide +kernel
theorem dX1_readItem_75 : decode cX1_readItem 75 = .ok (.iconst 0, 1) := by decide +kernel
theorem dX1_readItem_76 : decode cX1_readItem 76 = .ok (.bipush 30, 2) := by decide +kernel
theorem dX1_readItem_78 : decode cX1_readItem 78 = .ok (.invokevirtual 40, 3) := by decide +kernel
theorem dX1_readItem_81 : decode cX1_readItem 81 = .ok (.putfield 47, 3) := by decide +kernel
theorem dX1_readItem_84 : decode cX1_readItem 84 = .ok (.aload_n 0, 1) := by decide +kernel
theorem dX1_readItem_85 : decode cX1_readItem 85 = .ok (.getfield 37, 3) := by decide +kernel
theorem dX1_readItem_88 : decode cX1_readItem 88 = .ok (.ifCond .eq 23, 3) := by decide +kernel
theorem dX1_readItem_91 : decode cX1_readItem 91 = .ok (.aload_n 0, 1) := by decide +kernel
theorem dX1_readItem_92 : decode cX1_readItem 92 = .ok (.bipush 58, 2) := by decide +kernel
theorem dX1_readItem_94 : decode cX1_readItem 94 = .ok (.invokevirtual 29, 3) := by decide +kernel
theorem dX1_readItem_97 : decode cX1_readItem 97 = .ok (.aload_n 0, 1) := by decide +kernel
theorem dX1_readItem_98 : decode cX1_readItem 98 = .ok (.aload_n 0, 1) := by decide +kernel
theorem dX1_readItem_99 : decode cX1_readItem 99 = .ok (.iconst 1, 1) := by decide +kernel
theorem dX1_readItem_100 : decode cX1_readItem 100 = .ok (.bipush 15, 2) := by decide +kernel
theorem dX1_readItem_102 : decode cX1_readItem 102 = .ok (.invokevirtual 40, 3) := by decide +kernel
theorem dX1_readItem_105 : decode cX1_readItem 105 = .ok (.putfield 50, 3) := by decide +kernel
theorem dX1_readItem_108 : decode cX1_readItem 108 = .ok (.goto 35, 3) := by decide +kernel
theorem dX1_readItem_111 : decode cX1_readItem 111 = .ok (.aload_n 0, 1) := by decide +kernel
theorem dX1_readItem_112 : decode cX1_readItem 112 = .ok (.bipush 115, 2) := by decide +kernel
theorem dX1_readItem_114 : decode cX1_readItem 114 = .ok (.invokevirtual 29, 3) := by decide +kernel
theorem dX1_readItem_117 : decode cX1_readItem 117 = .ok (.aload_n 0, 1) := by decide +kernel
theorem dX1_readItem_118 : decode cX1_readItem 118 = .ok (.aload_n 0, 1) := by decide +kernel
theorem dX1_readItem_119 : decode cX1_readItem 119 = .ok (.iconst 1, 1) := by decide +kernel
theorem dX1_readItem_120 : decode cX1_readItem 120 = .ok (.iconst 3, 1) := by decide +kernel
theorem dX1_readItem_121 : decode cX1_readItem 121 = .ok (.invokevirtual 40, 3) := by decide +kernel
theorem dX1_readItem_124 : decode cX1_readItem 124 = .ok (.putfield 53, 3) := by decide +kernel
theorem dX1_readItem_127 : decode cX1_readItem 127 = .ok (.aload_n 0, 1) := by decide +kernel
theorem dX1_readItem_128 : decode cX1_readItem 128 = .ok (.bipush 112, 2) := by decide +kernel
theorem dX1_readItem_130 : decode cX1_readItem 130 = .ok (.invokevirtual 29, 3) := by decide +kernel
theorem dX1_readItem_133 : decode cX1_readItem 133 = .ok (.aload_n 0, 1) := by decide +kernel
theorem dX1_readItem_134 : decode cX1_readItem 134 = .ok (.aload_n 0, 1) := by decide +kernel
theorem dX1_readItem_135 : decode cX1_readItem 135 = .ok (.iconst 0, 1) := by decide +kernel
theorem dX1_readItem_136 : decode cX1_readItem 136 = .ok (.iconst 2, 1) := by decide +kernel
theorem dX1_readItem_137 : decode cX1_readItem 137 = .ok (.invokevirtual 40, 3) := by decide +kernel
theorem dX1_readItem_140 : decode cX1_readItem 140 = .ok (.putfield 56, 3) := by decide +kernel
theorem dX1_readItem_143 : decode cX1_readItem 143 = .ok (.return_, 1) := by decide +kernel
theorem dX1_take_0 : decode cX1_take 0 = .ok (.aload_n 0, 1) := by decide +kernel
theorem dX1_take_1 : decode cX1_take 1 = .ok (.getfield 22, 3) := by decide +kernel
theorem dX1_take_4 : decode cX1_take 4 = .ok (.ifCond .eq 4, 3) := by decide +kernel
theorem dX1_take_7 : decode cX1_take 7 = .ok (.return_, 1) := by decide +kernel
theorem dX1_take_8 : decode cX1_take 8 = .ok (.aload_n 0, 1) := by decide +kernel
theorem dX1_take_9 : decode cX1_take 9 = .ok (.getfield 12, 3) := by decide +kernel
theorem dX1_take_12 : decode cX1_take 12 = .ok (.aload_n 0, 1) := by decide +kernel
theorem dX1_take_13 : decode cX1_take 13 = .ok (.getfield 18, 3) := by decide +kernel
theorem dX1_take_16 : decode cX1_take 16 = .ok (.invokevirtual 33, 3) := by decide +kernel
theorem dX1_take_19 : decode cX1_take 19 = .ok (.iload_n 1, 1) := by decide +kernel
theorem dX1_take_20 : decode cX1_take 20 = .ok (.if_icmp .ne 16, 3) := by decide +kernel
theorem dX1_take_23 : decode cX1_take 23 = .ok (.aload_n 0, 1) := by decide +kernel
theorem dX1_take_24 : decode cX1_take 24 = .ok (.dup, 1) := by decide +kernel
theorem dX1_take_25 : decode cX1_take 25 = .ok (.getfield 18, 3) := by decide +kernel
theorem dX1_take_28 : decode cX1_take 28 = .ok (.iconst 1, 1) := by decide +kernel
theorem dX1_take_29 : decode cX1_take 29 = .ok (.iadd, 1) := by decide +kernel
theorem dX1_take_30 : decode cX1_take 30 = .ok (.putfield 18, 3) := by decide +kernel
theorem dX1_take_33 : decode cX1_take 33 = .ok (.goto 8, 3) := by decide +kernel
theorem dX1_take_36 : decode cX1_take 36 = .ok (.aload_n 0, 1) := by decide +kernel
theorem dX1_take_37 : decode cX1_take 37 = .ok (.iconst 1, 1) := by decide +kernel
theorem dX1_take_38 : decode cX1_take 38 = .ok (.putfield 22, 3) := by decide +kernel
theorem dX1_take_41 : decode cX1_take 41 = .ok (.return_, 1) := by decide +kernel
theorem dX1_takeNumber_0 : decode cX1_takeNumber 0 = .ok (.aload_n 0, 1) := by decide +kernel
theorem dX1_takeNumber_1 : decode cX1_takeNumber 1 = .ok (.aload_n 0, 1) := by decide +kernel
theorem dX1_takeNumber_2 : decode cX1_takeNumber 2 = .ok (.getfield 18, 3) := by decide +kernel
theorem dX1_takeNumber_5 : decode cX1_takeNumber 5 = .ok (.invokevirtual 59, 3) := by decide +kernel
theorem dX1_takeNumber_8 : decode cX1_takeNumber 8 = .ok (.istore_n 3, 1) := by decide +kernel
theorem dX1_takeNumber_9 : decode cX1_takeNumber 9 = .ok (.aload_n 0, 1) := by decide +kernel
theorem dX1_takeNumber_10 : decode cX1_takeNumber 10 = .ok (.getfield 22, 3) := by decide +kernel
theorem dX1_takeNumber_13 : decode cX1_takeNumber 13 = .ok (.ifCond .ne 13, 3) := by decide +kernel
theorem dX1_takeNumber_16 : decode cX1_takeNumber 16 = .ok (.iload_n 3, 1) := by decide +kernel
theorem dX1_takeNumber_17 : decode cX1_takeNumber 17 = .ok (.iload_n 1, 1) := by decide +kernel
theorem dX1_takeNumber_18 : decode cX1_takeNumber 18 = .ok (.if_icmp .lt 8, 3) := by decide +kernel
theorem dX1_takeNumber_21 : decode cX1_takeNumber 21 = .ok (.iload_n 3, 1) := by decide +kernel
theorem dX1_takeNumber_22 : decode cX1_takeNumber 22 = .ok (.iload_n 2, 1) := by decide +kernel
theorem dX1_takeNumber_23 : decode cX1_takeNumber 23 = .ok (.if_icmp .le 10, 3) := by decide +kernel
theorem dX1_takeNumber_26 : decode cX1_takeNumber 26 = .ok (.aload_n 0, 1) := by decide +kernel
theorem dX1_takeNumber_27 : decode cX1_takeNumber 27 = .ok (.iconst 1, 1) := by decide +kernel
theorem dX1_takeNumber_28 : decode cX1_takeNumber 28 = .ok (.putfield 22, 3) := by decide +kernel
theorem dX1_takeNumber_31 : decode cX1_takeNumber 31 = .ok (.iload_n 1, 1) := by decide +kernel
theorem dX1_takeNumber_32 : decode cX1_takeNumber 32 = .ok (.ireturn, 1) := by decide +kernel
theorem dX1_takeNumber_33 : decode cX1_takeNumber 33 = .ok (.aload_n 0, 1) := by decide +kernel
theorem dX1_takeNumber_34 : decode cX1_takeNumber 34 = .ok (.dup, 1) := by decide +kernel
theorem dX1_takeNumber_35 : decode cX1_takeNumber 35 = .ok (.getfield 18, 3) := by decide +kernel
theorem dX1_takeNumber_38 : decode cX1_takeNumber 38 = .ok (.iconst 1, 1) := by decide +kernel
theorem dX1_takeNumber_39 : decode cX1_takeNumber 39 = .ok (.iadd, 1) := by decide +kernel
theorem dX1_takeNumber_40 : decode cX1_takeNumber 40 = .ok (.putfield 18, 3) := by decide +kernel
theorem dX1_takeNumber_43 : decode cX1_takeNumber 43 = .ok (.iconst 0, 1) := by decide +kernel
theorem dX1_takeNumber_44 : decode cX1_takeNumber 44 = .ok (.istore 4, 2) := by decide +kernel
theorem dX1_takeNumber_46 : decode cX1_takeNumber 46 = .ok (.iload 4, 2) := by decide +kernel
theorem dX1_takeNumber_48 : decode cX1_takeNumber 48 = .ok (.bipush 80, 2) := by decide +kernel
theorem dX1_takeNumber_50 : decode cX1_takeNumber 50 = .ok (.if_icmp .ge 60, 3) := by decide +kernel
theorem dX1_takeNumber_53 : decode cX1_takeNumber 53 = .ok (.iload_n 3, 1) := by decide +kernel
theorem dX1_takeNumber_54 : decode cX1_takeNumber 54 = .ok (.ifCond .le 56, 3) := by decide +kernel
theorem dX1_takeNumber_57 : decode cX1_takeNumber 57 = .ok (.aload_n 0, 1) := by decide +kernel
theorem dX1_takeNumber_58 : decode cX1_takeNumber 58 = .ok (.aload_n 0, 1) := by decide +kernel
theorem dX1_takeNumber_59 : decode cX1_takeNumber 59 = .ok (.getfield 18, 3) := by decide +kernel
theorem dX1_takeNumber_62 : decode cX1_takeNumber 62 = .ok (.invokevirtual 59, 3) := by decide +kernel
theorem dX1_takeNumber_65 : decode cX1_takeNumber 65 = .ok (.istore 5, 2) := by decide +kernel
theorem dX1_takeNumber_67 : decode cX1_takeNumber 67 = .ok (.iload 5, 2) := by decide +kernel
theorem dX1_takeNumber_69 : decode cX1_takeNumber 69 = .ok (.ifCond .lt 41, 3) := by decide +kernel
theorem dX1_takeNumber_72 : decode cX1_takeNumber 72 = .ok (.iload_n 3, 1) := by decide +kernel
theorem dX1_takeNumber_73 : decode cX1_takeNumber 73 = .ok (.bipush 10, 2) := by decide +kernel
theorem dX1_takeNumber_75 : decode cX1_takeNumber 75 = .ok (.imul, 1) := by decide +kernel
theorem dX1_takeNumber_76 : decode cX1_takeNumber 76 = .ok (.iload 5, 2) := by decide +kernel
theorem dX1_takeNumber_78 : decode cX1_takeNumber 78 = .ok (.iadd, 1) := by decide +kernel
theorem dX1_takeNumber_79 : decode cX1_takeNumber 79 = .ok (.iload_n 2, 1) := by decide +kernel
theorem dX1_takeNumber_80 : decode cX1_takeNumber 80 = .ok (.if_icmp .le 6, 3) := by decide +kernel
theorem dX1_takeNumber_83 : decode cX1_takeNumber 83 = .ok (.goto 27, 3) := by decide +kernel
theorem dX1_takeNumber_86 : decode cX1_takeNumber 86 = .ok (.iload_n 3, 1) := by decide +kernel
theorem dX1_takeNumber_87 : decode cX1_takeNumber 87 = .ok (.bipush 10, 2) := by decide +kernel
theorem dX1_takeNumber_89 : decode cX1_takeNumber 89 = .ok (.imul, 1) := by decide +kernel
theorem dX1_takeNumber_90 : decode cX1_takeNumber 90 = .ok (.iload 5, 2) := by decide +kernel
theorem dX1_takeNumber_92 : decode cX1_takeNumber 92 = .ok (.iadd, 1) := by decide +kernel
theorem dX1_takeNumber_93 : decode cX1_takeNumber 93 = .ok (.istore_n 3, 1) := by decide +kernel
theorem dX1_takeNumber_94 : decode cX1_takeNumber 94 = .ok (.aload_n 0, 1) := by decide +kernel
theorem dX1_takeNumber_95 : decode cX1_takeNumber 95 = .ok (.dup, 1) := by decide +kernel
theorem dX1_takeNumber_96 : decode cX1_takeNumber 96 = .ok (.getfield 18, 3) := by decide +kernel
theorem dX1_takeNumber_99 : decode cX1_takeNumber 99 = .ok (.iconst 1, 1) := by decide +kernel
theorem dX1_takeNumber_100 : decode cX1_takeNumber 100 = .ok (.iadd, 1) := by decide +kernel
theorem dX1_takeNumber_101 : decode cX1_takeNumber 101 = .ok (.putfield 18, 3) := by decide +kernel
theorem dX1_takeNumber_104 : decode cX1_takeNumber 104 = .ok (.iinc 4 1, 3) := by decide +kernel
theorem dX1_takeNumber_107 : decode cX1_takeNumber 107 = .ok (.goto (-61), 3) := by decide +kernel
theorem dX1_takeNumber_110 : decode cX1_takeNumber 110 = .ok (.iload_n 3, 1) := by decide +kernel
theorem dX1_takeNumber_111 : decode cX1_takeNumber 111 = .ok (.ireturn, 1) := by decide +kernel
theorem dX1_digitAt_0 : decode cX1_digitAt 0 = .ok (.aload_n 0, 1) := by decide +kernel
theorem dX1_digitAt_1 : decode cX1_digitAt 1 = .ok (.getfield 12, 3) := by decide +kernel
theorem dX1_digitAt_4 : decode cX1_digitAt 4 = .ok (.iload_n 1, 1) := by decide +kernel
theorem dX1_digitAt_5 : decode cX1_digitAt 5 = .ok (.invokevirtual 33, 3) := by decide +kernel
theorem dX1_digitAt_8 : decode cX1_digitAt 8 = .ok (.istore_n 2, 1) := by decide +kernel
theorem dX1_digitAt_9 : decode cX1_digitAt 9 = .ok (.iload_n 2, 1) := by decide +kernel
theorem dX1_digitAt_10 : decode cX1_digitAt 10 = .ok (.bipush 48, 2) := by decide +kernel
theorem dX1_digitAt_12 : decode cX1_digitAt 12 = .ok (.if_icmp .lt 9, 3) := by decide +kernel
theorem dX1_digitAt_15 : decode cX1_digitAt 15 = .ok (.iload_n 2, 1) := by decide +kernel
theorem dX1_digitAt_16 : decode cX1_digitAt 16 = .ok (.bipush 57, 2) := by decide +kernel
theorem dX1_digitAt_18 : decode cX1_digitAt 18 = .ok (.if_icmp .le 7, 3) := by decide +kernel
theorem dX1_digitAt_21 : decode cX1_digitAt 21 = .ok (.iconst (-1), 1) := by decide +kernel
theorem dX1_digitAt_22 : decode cX1_digitAt 22 = .ok (.goto 7, 3) := by decide +kernel
theorem dX1_digitAt_25 : decode cX1_digitAt 25 = .ok (.iload_n 2, 1) := by decide +kernel
theorem dX1_digitAt_26 : decode cX1_digitAt 26 = .ok (.bipush 48, 2) := by decide +kernel
theorem dX1_digitAt_28 : decode cX1_digitAt 28 = .ok (.isub, 1) := by decide +kernel
theorem dX1_digitAt_29 : decode cX1_digitAt 29 = .ok (.ireturn, 1) := by decide +kernel
theorem dX2_init_0 : decode cX2_init 0 = .ok (.aload_n 0, 1) := by decide +kernel
theorem dX2_init_1 : decode cX2_init 1 = .ok (.invokespecial 3, 3) := by decide +kernel
theorem dX2_init_4 : decode cX2_init 4 = .ok (.aload_n 0, 1) := by decide +kernel
theorem dX2_init_5 : decode cX2_init 5 = .ok (.iload_n 1, 1) := by decide +kernel
theorem dX2_init_6 : decode cX2_init 6 = .ok (.putfield 9, 3) := by decide +kernel
theorem dX2_init_9 : decode cX2_init 9 = .ok (.aload_n 0, 1) := by decide +kernel
theorem dX2_init_10 : decode cX2_init 10 = .ok (.iconst (-1), 1) := by decide +kernel
theorem dX2_init_11 : decode cX2_init 11 = .ok (.putfield 15, 3) := by decide +kernel
theorem dX2_init_14 : decode cX2_init 14 = .ok (.return_, 1) := by decide +kernel
theorem dX2_copyFrom_0 : decode cX2_copyFrom 0 = .ok (.aload_n 0, 1) := by decide +kernel
theorem dX2_copyFrom_1 : decode cX2_copyFrom 1 = .ok (.aload_n 1, 1) := by decide +kernel
theorem dX2_copyFrom_2 : decode cX2_copyFrom 2 = .ok (.getfield 18, 3) := by decide +kernel
theorem dX2_copyFrom_5 : decode cX2_copyFrom 5 = .ok (.putfield 18, 3) := by decide +kernel
theorem dX2_copyFrom_8 : decode cX2_copyFrom 8 = .ok (.aload_n 0, 1) := by decide +kernel
theorem dX2_copyFrom_9 : decode cX2_copyFrom 9 = .ok (.aload_n 1, 1) := by decide +kernel
theorem dX2_copyFrom_10 : decode cX2_copyFrom 10 = .ok (.getfield 21, 3) := by decide +kernel
theorem dX2_copyFrom_13 : decode cX2_copyFrom 13 = .ok (.putfield 21, 3) := by decide +kernel
theorem dX2_copyFrom_16 : decode cX2_copyFrom 16 = .ok (.aload_n 0, 1) := by decide +kernel
theorem dX2_copyFrom_17 : decode cX2_copyFrom 17 = .ok (.aload_n 1, 1) := by decide +kernel
theorem dX2_copyFrom_18 : decode cX2_copyFrom 18 = .ok (.getfield 24, 3) := by decide +kernel
theorem dX2_copyFrom_21 : decode cX2_copyFrom 21 = .ok (.putfield 24, 3) := by decide +kernel
theorem dX2_copyFrom_24 : decode cX2_copyFrom 24 = .ok (.aload_n 0, 1) := by decide +kernel
theorem dX2_copyFrom_25 : decode cX2_copyFrom 25 = .ok (.aload_n 1, 1) := by decide +kernel
theorem dX2_copyFrom_26 : decode cX2_copyFrom 26 = .ok (.getfield 27, 3) := by decide +kernel
theorem dX2_copyFrom_29 : decode cX2_copyFrom 29 = .ok (.putfield 27, 3) := by decide +kernel
theorem dX2_copyFrom_32 : decode cX2_copyFrom 32 = .ok (.aload_n 0, 1) := by decide +kernel
theorem dX2_copyFrom_33 : decode cX2_copyFrom 33 = .ok (.aload_n 1, 1) := by decide +kernel
theorem dX2_copyFrom_34 : decode cX2_copyFrom 34 = .ok (.getfield 15, 3) := by decide +kernel
theorem dX2_copyFrom_37 : decode cX2_copyFrom 37 = .ok (.putfield 15, 3) := by decide +kernel
theorem dX2_copyFrom_40 : decode cX2_copyFrom 40 = .ok (.aload_n 0, 1) := by decide +kernel
theorem dX2_copyFrom_41 : decode cX2_copyFrom 41 = .ok (.aload_n 1, 1) := by decide +kernel
theorem dX2_copyFrom_42 : decode cX2_copyFrom 42 = .ok (.getfield 30, 3) := by decide +kernel
theorem dX2_copyFrom_45 : decode cX2_copyFrom 45 = .ok (.putfield 30, 3) := by decide +kernel
theorem dX2_copyFrom_48 : decode cX2_copyFrom 48 = .ok (.return_, 1) := by decide +kernel
theorem dX3_init_0 : decode cX3_init 0 = .ok (.aload_n 0, 1) := by decide +kernel
theorem dX3_init_1 : decode cX3_init 1 = .ok (.invokespecial 3, 3) := by decide +kernel
theorem dX3_init_4 : decode cX3_init 4 = .ok (.aload_n 0, 1) := by decide +kernel
theorem dX3_init_5 : decode cX3_init 5 = .ok (.bipush 12, 2) := by decide +kernel
theorem dX3_init_7 : decode cX3_init 7 = .ok (.anewarray 9, 3) := by decide +kernel
theorem dX3_init_10 : decode cX3_init 10 = .ok (.putfield 11, 3) := by decide +kernel
theorem dX3_init_13 : decode cX3_init 13 = .ok (.iconst 0, 1) := by decide +kernel
theorem dX3_init_14 : decode cX3_init 14 = .ok (.istore_n 1, 1) := by decide +kernel
theorem dX3_init_15 : decode cX3_init 15 = .ok (.iload_n 1, 1) := by decide +kernel
theorem dX3_init_16 : decode cX3_init 16 = .ok (.aload_n 0, 1) := by decide +kernel
theorem dX3_init_17 : decode cX3_init 17 = .ok (.getfield 11, 3) := by decide +kernel
theorem dX3_init_20 : decode cX3_init 20 = .ok (.arraylength, 1) := by decide +kernel
theorem dX3_init_21 : decode cX3_init 21 = .ok (.if_icmp .ge 23, 3) := by decide +kernel
theorem dX3_init_24 : decode cX3_init 24 = .ok (.aload_n 0, 1) := by decide +kernel
theorem dX3_init_25 : decode cX3_init 25 = .ok (.getfield 11, 3) := by decide +kernel
theorem dX3_init_28 : decode cX3_init 28 = .ok (.iload_n 1, 1) := by decide +kernel
theorem dX3_init_29 : decode cX3_init 29 = .ok (.new 9, 3) := by decide +kernel
theorem dX3_init_32 : decode cX3_init 32 = .ok (.dup, 1) := by decide +kernel
theorem dX3_init_33 : decode cX3_init 33 = .ok (.iload_n 1, 1) := by decide +kernel
theorem dX3_init_34 : decode cX3_init 34 = .ok (.invokespecial 17, 3) := by decide +kernel
theorem dX3_init_37 : decode cX3_init 37 = .ok (.aastore, 1) := by decide +kernel
theorem dX3_init_38 : decode cX3_init 38 = .ok (.iinc 1 1, 3) := by decide +kernel
theorem dX3_init_41 : decode cX3_init 41 = .ok (.goto (-26), 3) := by decide +kernel
theorem dX3_init_44 : decode cX3_init 44 = .ok (.aload_n 0, 1) := by decide +kernel
theorem dX3_init_45 : decode cX3_init 45 = .ok (.iconst 4, 1) := by decide +kernel
theorem dX3_init_46 : decode cX3_init 46 = .ok (.anewarray 20, 3) := by decide +kernel
theorem dX3_init_49 : decode cX3_init 49 = .ok (.putfield 22, 3) := by decide +kernel
theorem dX3_init_52 : decode cX3_init 52 = .ok (.iconst 0, 1) := by decide +kernel
theorem dX3_init_53 : decode cX3_init 53 = .ok (.istore_n 1, 1) := by decide +kernel
theorem dX3_init_54 : decode cX3_init 54 = .ok (.iload_n 1, 1) := by decide +kernel
theorem dX3_init_55 : decode cX3_init 55 = .ok (.aload_n 0, 1) := by decide +kernel
theorem dX3_init_56 : decode cX3_init 56 = .ok (.getfield 22, 3) := by decide +kernel
theorem dX3_init_59 : decode cX3_init 59 = .ok (.arraylength, 1) := by decide +kernel
theorem dX3_init_60 : decode cX3_init 60 = .ok (.if_icmp .ge 22, 3) := by decide +kernel
theorem dX3_init_63 : decode cX3_init 63 = .ok (.aload_n 0, 1) := by decide +kernel
theorem dX3_init_64 : decode cX3_init 64 = .ok (.getfield 22, 3) := by decide +kernel
theorem dX3_init_67 : decode cX3_init 67 = .ok (.iload_n 1, 1) := by decide +kernel
theorem dX3_init_68 : decode cX3_init 68 = .ok (.new 20, 3) := by decide +kernel
theorem dX3_init_71 : decode cX3_init 71 = .ok (.dup, 1) := by decide +kernel
theorem dX3_init_72 : decode cX3_init 72 = .ok (.invokespecial 26, 3) := by decide +kernel
theorem dX3_init_75 : decode cX3_init 75 = .ok (.aastore, 1) := by decide +kernel
theorem dX3_init_76 : decode cX3_init 76 = .ok (.iinc 1 1, 3) := by decide +kernel
theorem dX3_init_79 : decode cX3_init 79 = .ok (.goto (-25), 3) := by decide +kernel
theorem dX3_init_82 : decode cX3_init 82 = .ok (.return_, 1) := by decide +kernel
theorem dX3_copyFrom_0 : decode cX3_copyFrom 0 = .ok (.iconst 0, 1) := by decide +kernel
theorem dX3_copyFrom_1 : decode cX3_copyFrom 1 = .ok (.istore_n 2, 1) := by decide +kernel
theorem dX3_copyFrom_2 : decode cX3_copyFrom 2 = .ok (.iload_n 2, 1) := by decide +kernel
theorem dX3_copyFrom_3 : decode cX3_copyFrom 3 = .ok (.aload_n 0, 1) := by decide +kernel
theorem dX3_copyFrom_4 : decode cX3_copyFrom 4 = .ok (.getfield 11, 3) := by decide +kernel
theorem dX3_copyFrom_7 : decode cX3_copyFrom 7 = .ok (.arraylength, 1) := by decide +kernel
theorem dX3_copyFrom_8 : decode cX3_copyFrom 8 = .ok (.if_icmp .ge 48, 3) := by decide +kernel
theorem dX3_copyFrom_11 : decode cX3_copyFrom 11 = .ok (.iload_n 2, 1) := by decide +kernel
theorem dX3_copyFrom_12 : decode cX3_copyFrom 12 = .ok (.aload_n 1, 1) := by decide +kernel
theorem dX3_copyFrom_13 : decode cX3_copyFrom 13 = .ok (.getfield 11, 3) := by decide +kernel
theorem dX3_copyFrom_16 : decode cX3_copyFrom 16 = .ok (.arraylength, 1) := by decide +kernel
theorem dX3_copyFrom_17 : decode cX3_copyFrom 17 = .ok (.if_icmp .ge 39, 3) := by decide +kernel
theorem dX3_copyFrom_20 : decode cX3_copyFrom 20 = .ok (.aload_n 0, 1) := by decide +kernel
theorem dX3_copyFrom_21 : decode cX3_copyFrom 21 = .ok (.getfield 11, 3) := by decide +kernel
theorem dX3_copyFrom_24 : decode cX3_copyFrom 24 = .ok (.iload_n 2, 1) := by decide +kernel
theorem dX3_copyFrom_25 : decode cX3_copyFrom 25 = .ok (.aaload, 1) := by decide +kernel
theorem dX3_copyFrom_26 : decode cX3_copyFrom 26 = .ok (.astore_n 3, 1) := by decide +kernel
theorem dX3_copyFrom_27 : decode cX3_copyFrom 27 = .ok (.aload_n 1, 1) := by decide +kernel
theorem dX3_copyFrom_28 : decode cX3_copyFrom 28 = .ok (.getfield 11, 3) := by decide +kernel
theorem dX3_copyFrom_31 : decode cX3_copyFrom 31 = .ok (.iload_n 2, 1) := by decide +kernel
theorem dX3_copyFrom_32 : decode cX3_copyFrom 32 = .ok (.aaload, 1) := by decide +kernel
theorem dX3_copyFrom_33 : decode cX3_copyFrom 33 = .ok (.astore 4, 2) := by decide +kernel
theorem dX3_copyFrom_35 : decode cX3_copyFrom 35 = .ok (.aload_n 3, 1) := by decide +kernel
theorem dX3_copyFrom_36 : decode cX3_copyFrom 36 = .ok (.ifnull 14, 3) := by decide +kernel
theorem dX3_copyFrom_39 : decode cX3_copyFrom 39 = .ok (.aload 4, 2) := by decide +kernel
theorem dX3_copyFrom_41 : decode cX3_copyFrom 41 = .ok (.ifnull 9, 3) := by decide +kernel
theorem dX3_copyFrom_44 : decode cX3_copyFrom 44 = .ok (.aload_n 3, 1) := by decide +kernel
theorem dX3_copyFrom_45 : decode cX3_copyFrom 45 = .ok (.aload 4, 2) := by decide +kernel
theorem dX3_copyFrom_47 : decode cX3_copyFrom 47 = .ok (.invokevirtual 27, 3) := by decide +kernel
theorem dX3_copyFrom_50 : decode cX3_copyFrom 50 = .ok (.iinc 2 1, 3) := by decide +kernel
theorem dX3_copyFrom_53 : decode cX3_copyFrom 53 = .ok (.goto (-51), 3) := by decide +kernel
theorem dX3_copyFrom_56 : decode cX3_copyFrom 56 = .ok (.iconst 0, 1) := by decide +kernel
theorem dX3_copyFrom_57 : decode cX3_copyFrom 57 = .ok (.istore_n 2, 1) := by decide +kernel
theorem dX3_copyFrom_58 : decode cX3_copyFrom 58 = .ok (.iload_n 2, 1) := by decide +kernel
theorem dX3_copyFrom_59 : decode cX3_copyFrom 59 = .ok (.aload_n 0, 1) := by decide +kernel
theorem dX3_copyFrom_60 : decode cX3_copyFrom 60 = .ok (.getfield 22, 3) := by decide +kernel
theorem dX3_copyFrom_63 : decode cX3_copyFrom 63 = .ok (.arraylength, 1) := by decide +kernel
theorem dX3_copyFrom_64 : decode cX3_copyFrom 64 = .ok (.if_icmp .ge 48, 3) := by decide +kernel
theorem dX3_copyFrom_67 : decode cX3_copyFrom 67 = .ok (.iload_n 2, 1) := by decide +kernel
theorem dX3_copyFrom_68 : decode cX3_copyFrom 68 = .ok (.aload_n 1, 1) := by decide +kernel
theorem dX3_copyFrom_69 : decode cX3_copyFrom 69 = .ok (.getfield 22, 3) := by decide +kernel
theorem dX3_copyFrom_72 : decode cX3_copyFrom 72 = .ok (.arraylength, 1) := by decide +kernel
theorem dX3_copyFrom_73 : decode cX3_copyFrom 73 = .ok (.if_icmp .ge 39, 3) := by decide +kernel
theorem dX3_copyFrom_76 : decode cX3_copyFrom 76 = .ok (.aload_n 0, 1) := by decide +kernel
theorem dX3_copyFrom_77 : decode cX3_copyFrom 77 = .ok (.getfield 22, 3) := by decide +kernel
theorem dX3_copyFrom_80 : decode cX3_copyFrom 80 = .ok (.iload_n 2, 1) := by decide +kernel
theorem dX3_copyFrom_81 : decode cX3_copyFrom 81 = .ok (.aaload, 1) := by decide +kernel
theorem dX3_copyFrom_82 : decode cX3_copyFrom 82 = .ok (.astore_n 3, 1) := by decide +kernel
theorem dX3_copyFrom_83 : decode cX3_copyFrom 83 = .ok (.aload_n 1, 1) := by decide +kernel
theorem dX3_copyFrom_84 : decode cX3_copyFrom 84 = .ok (.getfield 22, 3) := by decide +kernel
theorem dX3_copyFrom_87 : decode cX3_copyFrom 87 = .ok (.iload_n 2, 1) := by decide +kernel
theorem dX3_copyFrom_88 : decode cX3_copyFrom 88 = .ok (.aaload, 1) := by decide +kernel
theorem dX3_copyFrom_89 : decode cX3_copyFrom 89 = .ok (.astore 4, 2) := by decide +kernel
theorem dX3_copyFrom_91 : decode cX3_copyFrom 91 = .ok (.aload_n 3, 1) := by decide +kernel
theorem dX3_copyFrom_92 : decode cX3_copyFrom 92 = .ok (.ifnull 14, 3) := by decide +kernel
theorem dX3_copyFrom_95 : decode cX3_copyFrom 95 = .ok (.aload 4, 2) := by decide +kernel
theorem dX3_copyFrom_97 : decode cX3_copyFrom 97 = .ok (.ifnull 9, 3) := by decide +kernel
theorem dX3_copyFrom_100 : decode cX3_copyFrom 100 = .ok (.aload_n 3, 1) := by decide +kernel
theorem dX3_copyFrom_101 : decode cX3_copyFrom 101 = .ok (.aload 4, 2) := by decide +kernel
theorem dX3_copyFrom_103 : decode cX3_copyFrom 103 = .ok (.invokevirtual 31, 3) := by decide +kernel
theorem dX3_copyFrom_106 : decode cX3_copyFrom 106 = .ok (.iinc 2 1, 3) := by decide +kernel
theorem dX3_copyFrom_109 : decode cX3_copyFrom 109 = .ok (.goto (-51), 3) := by decide +kernel
theorem dX3_copyFrom_112 : decode cX3_copyFrom 112 = .ok (.aload_n 0, 1) := by decide +kernel
theorem dX3_copyFrom_113 : decode cX3_copyFrom 113 = .ok (.aload_n 1, 1) := by decide +kernel
theorem dX3_copyFrom_114 : decode cX3_copyFrom 114 = .ok (.getfield 34, 3) := by decide +kernel
theorem dX3_copyFrom_117 : decode cX3_copyFrom 117 = .ok (.putfield 34, 3) := by decide +kernel
theorem dX3_copyFrom_120 : decode cX3_copyFrom 120 = .ok (.aload_n 0, 1) := by decide +kernel
theorem dX3_copyFrom_121 : decode cX3_copyFrom 121 = .ok (.aload_n 1, 1) := by decide +kernel
theorem dX3_copyFrom_122 : decode cX3_copyFrom 122 = .ok (.getfield 38, 3) := by decide +kernel
theorem dX3_copyFrom_125 : decode cX3_copyFrom 125 = .ok (.putfield 38, 3) := by decide +kernel
theorem dX3_copyFrom_128 : decode cX3_copyFrom 128 = .ok (.aload_n 0, 1) := by decide +kernel
theorem dX3_copyFrom_129 : decode cX3_copyFrom 129 = .ok (.aload_n 1, 1) := by decide +kernel
theorem dX3_copyFrom_130 : decode cX3_copyFrom 130 = .ok (.getfield 41, 3) := by decide +kernel
theorem dX3_copyFrom_133 : decode cX3_copyFrom 133 = .ok (.putfield 41, 3) := by decide +kernel
theorem dX3_copyFrom_136 : decode cX3_copyFrom 136 = .ok (.aload_n 0, 1) := by decide +kernel
theorem dX3_copyFrom_137 : decode cX3_copyFrom 137 = .ok (.aload_n 1, 1) := by decide +kernel
theorem dX3_copyFrom_138 : decode cX3_copyFrom 138 = .ok (.getfield 44, 3) := by decide +kernel
theorem dX3_copyFrom_141 : decode cX3_copyFrom 141 = .ok (.putfield 44, 3) := by decide +kernel
theorem dX3_copyFrom_144 : decode cX3_copyFrom 144 = .ok (.aload_n 0, 1) := by decide +kernel
theorem dX3_copyFrom_145 : decode cX3_copyFrom 145 = .ok (.aload_n 1, 1) := by decide +kernel
theorem dX3_copyFrom_146 : decode cX3_copyFrom 146 = .ok (.getfield 47, 3) := by decide +kernel
theorem dX3_copyFrom_149 : decode cX3_copyFrom 149 = .ok (.putfield 47, 3) := by decide +kernel
theorem dX3_copyFrom_152 : decode cX3_copyFrom 152 = .ok (.aload_n 0, 1) := by decide +kernel
theorem dX3_copyFrom_153 : decode cX3_copyFrom 153 = .ok (.aload_n 1, 1) := by decide +kernel
theorem dX3_copyFrom_154 : decode cX3_copyFrom 154 = .ok (.getfield 50, 3) := by decide +kernel
theorem dX3_copyFrom_157 : decode cX3_copyFrom 157 = .ok (.putfield 50, 3) := by decide +kernel
theorem dX3_copyFrom_160 : decode cX3_copyFrom 160 = .ok (.aload_n 0, 1) := by decide +kernel
theorem dX3_copyFrom_161 : decode cX3_copyFrom 161 = .ok (.aload_n 1, 1) := by decide +kernel
theorem dX3_copyFrom_162 : decode cX3_copyFrom 162 = .ok (.getfield 53, 3) := by decide +kernel
theorem dX3_copyFrom_165 : decode cX3_copyFrom 165 = .ok (.putfield 53, 3) := by decide +kernel
theorem dX3_copyFrom_168 : decode cX3_copyFrom 168 = .ok (.aload_n 0, 1) := by decide +kernel
theorem dX3_copyFrom_169 : decode cX3_copyFrom 169 = .ok (.aload_n 1, 1) := by decide +kernel
theorem dX3_copyFrom_170 : decode cX3_copyFrom 170 = .ok (.getfield 56, 3) := by decide +kernel
theorem dX3_copyFrom_173 : decode cX3_copyFrom 173 = .ok (.putfield 56, 3) := by decide +kernel
theorem dX3_copyFrom_176 : decode cX3_copyFrom 176 = .ok (.return_, 1) := by decide +kernel
theorem dX3_wipe_0 : decode cX3_wipe 0 = .ok (.aload_n 0, 1) := by decide +kernel
theorem dX3_wipe_1 : decode cX3_wipe 1 = .ok (.getfield 11, 3) := by decide +kernel
theorem dX3_wipe_4 : decode cX3_wipe 4 = .ok (.astore_n 1, 1) := by decide +kernel
theorem dX3_wipe_5 : decode cX3_wipe 5 = .ok (.aload_n 1, 1) := by decide +kernel
theorem dX3_wipe_6 : decode cX3_wipe 6 = .ok (.arraylength, 1) := by decide +kernel
theorem dX3_wipe_7 : decode cX3_wipe 7 = .ok (.istore_n 2, 1) := by decide +kernel
theorem dX3_wipe_8 : decode cX3_wipe 8 = .ok (.iconst 0, 1) := by decide +kernel
theorem dX3_wipe_9 : decode cX3_wipe 9 = .ok (.istore_n 3, 1) := by decide +kernel
theorem dX3_wipe_10 : decode cX3_wipe 10 = .ok (.iload_n 3, 1) := by decide +kernel
theorem dX3_wipe_11 : decode cX3_wipe 11 = .ok (.iload_n 2, 1) := by decide +kernel
theorem dX3_wipe_12 : decode cX3_wipe 12 = .ok (.if_icmp .ge 31, 3) := by decide +kernel
theorem dX3_wipe_15 : decode cX3_wipe 15 = .ok (.aload_n 1, 1) := by decide +kernel
theorem dX3_wipe_16 : decode cX3_wipe 16 = .ok (.iload_n 3, 1) := by decide +kernel
theorem dX3_wipe_17 : decode cX3_wipe 17 = .ok (.aaload, 1) := by decide +kernel
theorem dX3_wipe_18 : decode cX3_wipe 18 = .ok (.astore 4, 2) := by decide +kernel
theorem dX3_wipe_20 : decode cX3_wipe 20 = .ok (.aload 4, 2) := by decide +kernel
theorem dX3_wipe_22 : decode cX3_wipe 22 = .ok (.ifnull 15, 3) := by decide +kernel
theorem dX3_wipe_25 : decode cX3_wipe 25 = .ok (.aload 4, 2) := by decide +kernel
theorem dX3_wipe_27 : decode cX3_wipe 27 = .ok (.iconst 0, 1) := by decide +kernel
theorem dX3_wipe_28 : decode cX3_wipe 28 = .ok (.putfield 59, 3) := by decide +kernel
theorem dX3_wipe_31 : decode cX3_wipe 31 = .ok (.aload 4, 2) := by decide +kernel
theorem dX3_wipe_33 : decode cX3_wipe 33 = .ok (.iconst (-1), 1) := by decide +kernel
theorem dX3_wipe_34 : decode cX3_wipe 34 = .ok (.putfield 63, 3) := by decide +kernel
theorem dX3_wipe_37 : decode cX3_wipe 37 = .ok (.iinc 3 1, 3) := by decide +kernel
theorem dX3_wipe_40 : decode cX3_wipe 40 = .ok (.goto (-30), 3) := by decide +kernel
theorem dX3_wipe_43 : decode cX3_wipe 43 = .ok (.aload_n 0, 1) := by decide +kernel
theorem dX3_wipe_44 : decode cX3_wipe 44 = .ok (.getfield 22, 3) := by decide +kernel
theorem dX3_wipe_47 : decode cX3_wipe 47 = .ok (.astore_n 1, 1) := by decide +kernel
theorem dX3_wipe_48 : decode cX3_wipe 48 = .ok (.aload_n 1, 1) := by decide +kernel
theorem dX3_wipe_49 : decode cX3_wipe 49 = .ok (.arraylength, 1) := by decide +kernel
theorem dX3_wipe_50 : decode cX3_wipe 50 = .ok (.istore_n 2, 1) := by decide +kernel
theorem dX3_wipe_51 : decode cX3_wipe 51 = .ok (.iconst 0, 1) := by decide +kernel
theorem dX3_wipe_52 : decode cX3_wipe 52 = .ok (.istore_n 3, 1) := by decide +kernel
theorem dX3_wipe_53 : decode cX3_wipe 53 = .ok (.iload_n 3, 1) := by decide +kernel
theorem dX3_wipe_54 : decode cX3_wipe 54 = .ok (.iload_n 2, 1) := by decide +kernel
theorem dX3_wipe_55 : decode cX3_wipe 55 = .ok (.if_icmp .ge 25, 3) := by decide +kernel
theorem dX3_wipe_58 : decode cX3_wipe 58 = .ok (.aload_n 1, 1) := by decide +kernel
theorem dX3_wipe_59 : decode cX3_wipe 59 = .ok (.iload_n 3, 1) := by decide +kernel
theorem dX3_wipe_60 : decode cX3_wipe 60 = .ok (.aaload, 1) := by decide +kernel
theorem dX3_wipe_61 : decode cX3_wipe 61 = .ok (.astore 4, 2) := by decide +kernel
theorem dX3_wipe_63 : decode cX3_wipe 63 = .ok (.aload 4, 2) := by decide +kernel
theorem dX3_wipe_65 : decode cX3_wipe 65 = .ok (.ifnull 9, 3) := by decide +kernel
theorem dX3_wipe_68 : decode cX3_wipe 68 = .ok (.aload 4, 2) := by decide +kernel
theorem dX3_wipe_70 : decode cX3_wipe 70 = .ok (.iconst 0, 1) := by decide +kernel
theorem dX3_wipe_71 : decode cX3_wipe 71 = .ok (.putfield 66, 3) := by decide +kernel
theorem dX3_wipe_74 : decode cX3_wipe 74 = .ok (.iinc 3 1, 3) := by decide +kernel
theorem dX3_wipe_77 : decode cX3_wipe 77 = .ok (.goto (-24), 3) := by decide +kernel
theorem dX3_wipe_80 : decode cX3_wipe 80 = .ok (.aload_n 0, 1) := by decide +kernel
theorem dX3_wipe_81 : decode cX3_wipe 81 = .ok (.iconst 0, 1) := by decide +kernel
theorem dX3_wipe_82 : decode cX3_wipe 82 = .ok (.putfield 34, 3) := by decide +kernel
theorem dX3_wipe_85 : decode cX3_wipe 85 = .ok (.aload_n 0, 1) := by decide +kernel
theorem dX3_wipe_86 : decode cX3_wipe 86 = .ok (.iconst 0, 1) := by decide +kernel
theorem dX3_wipe_87 : decode cX3_wipe 87 = .ok (.putfield 38, 3) := by decide +kernel
theorem dX3_wipe_90 : decode cX3_wipe 90 = .ok (.aload_n 0, 1) := by decide +kernel
theorem dX3_wipe_91 : decode cX3_wipe 91 = .ok (.iconst 0, 1) := by decide +kernel
theorem dX3_wipe_92 : decode cX3_wipe 92 = .ok (.putfield 41, 3) := by decide +kernel
theorem dX3_wipe_95 : decode cX3_wipe 95 = .ok (.aload_n 0, 1) := by decide +kernel
theorem dX3_wipe_96 : decode cX3_wipe 96 = .ok (.iconst 0, 1) := by decide +kernel
theorem dX3_wipe_97 : decode cX3_wipe 97 = .ok (.putfield 44, 3) := by decide +kernel
theorem dX3_wipe_100 : decode cX3_wipe 100 = .ok (.aload_n 0, 1) := by decide +kernel
theorem dX3_wipe_101 : decode cX3_wipe 101 = .ok (.iconst 0, 1) := by decide +kernel
theorem dX3_wipe_102 : decode cX3_wipe 102 = .ok (.putfield 47, 3) := by decide +kernel
theorem dX3_wipe_105 : decode cX3_wipe 105 = .ok (.aload_n 0, 1) := by decide +kernel
theorem dX3_wipe_106 : decode cX3_wipe 106 = .ok (.iconst 0, 1) := by decide +kernel
theorem dX3_wipe_107 : decode cX3_wipe 107 = .ok (.putfield 50, 3) := by decide +kernel
theorem dX3_wipe_110 : decode cX3_wipe 110 = .ok (.aload_n 0, 1) := by decide +kernel
theorem dX3_wipe_111 : decode cX3_wipe 111 = .ok (.iconst 0, 1) := by decide +kernel
theorem dX3_wipe_112 : decode cX3_wipe 112 = .ok (.putfield 53, 3) := by decide +kernel
theorem dX3_wipe_115 : decode cX3_wipe 115 = .ok (.aload_n 0, 1) := by decide +kernel
theorem dX3_wipe_116 : decode cX3_wipe 116 = .ok (.iconst 0, 1) := by decide +kernel
theorem dX3_wipe_117 : decode cX3_wipe 117 = .ok (.putfield 56, 3) := by decide +kernel
theorem dX3_wipe_120 : decode cX3_wipe 120 = .ok (.return_, 1) := by decide +kernel
theorem dX3_findMarble_0 : decode cX3_findMarble 0 = .ok (.iload_n 1, 1) := by decide +kernel
theorem dX3_findMarble_1 : decode cX3_findMarble 1 = .ok (.ifCond .lt 20, 3) := by decide +kernel
theorem dX3_findMarble_4 : decode cX3_findMarble 4 = .ok (.iload_n 1, 1) := by decide +kernel
theorem dX3_findMarble_5 : decode cX3_findMarble 5 = .ok (.aload_n 0, 1) := by decide +kernel
theorem dX3_findMarble_6 : decode cX3_findMarble 6 = .ok (.getfield 34, 3) := by decide +kernel
theorem dX3_findMarble_9 : decode cX3_findMarble 9 = .ok (.if_icmp .ge 12, 3) := by decide +kernel
theorem dX3_findMarble_12 : decode cX3_findMarble 12 = .ok (.iload_n 1, 1) := by decide +kernel
theorem dX3_findMarble_13 : decode cX3_findMarble 13 = .ok (.aload_n 0, 1) := by decide +kernel
theorem dX3_findMarble_14 : decode cX3_findMarble 14 = .ok (.getfield 11, 3) := by decide +kernel
theorem dX3_findMarble_17 : decode cX3_findMarble 17 = .ok (.arraylength, 1) := by decide +kernel
theorem dX3_findMarble_18 : decode cX3_findMarble 18 = .ok (.if_icmp .lt 7, 3) := by decide +kernel
theorem dX3_findMarble_21 : decode cX3_findMarble 21 = .ok (.aconst_null, 1) := by decide +kernel
theorem dX3_findMarble_22 : decode cX3_findMarble 22 = .ok (.goto 9, 3) := by decide +kernel
theorem dX3_findMarble_25 : decode cX3_findMarble 25 = .ok (.aload_n 0, 1) := by decide +kernel
theorem dX3_findMarble_26 : decode cX3_findMarble 26 = .ok (.getfield 11, 3) := by decide +kernel
theorem dX3_findMarble_29 : decode cX3_findMarble 29 = .ok (.iload_n 1, 1) := by decide +kernel
theorem dX3_findMarble_30 : decode cX3_findMarble 30 = .ok (.aaload, 1) := by decide +kernel
theorem dX3_findMarble_31 : decode cX3_findMarble 31 = .ok (.areturn, 1) := by decide +kernel
theorem dX3_findRing_0 : decode cX3_findRing 0 = .ok (.iload_n 1, 1) := by decide +kernel
theorem dX3_findRing_1 : decode cX3_findRing 1 = .ok (.ifCond .lt 20, 3) := by decide +kernel
theorem dX3_findRing_4 : decode cX3_findRing 4 = .ok (.iload_n 1, 1) := by decide +kernel
theorem dX3_findRing_5 : decode cX3_findRing 5 = .ok (.aload_n 0, 1) := by decide +kernel
theorem dX3_findRing_6 : decode cX3_findRing 6 = .ok (.getfield 38, 3) := by decide +kernel
theorem dX3_findRing_9 : decode cX3_findRing 9 = .ok (.if_icmp .ge 12, 3) := by decide +kernel
theorem dX3_findRing_12 : decode cX3_findRing 12 = .ok (.iload_n 1, 1) := by decide +kernel
theorem dX3_findRing_13 : decode cX3_findRing 13 = .ok (.aload_n 0, 1) := by decide +kernel
theorem dX3_findRing_14 : decode cX3_findRing 14 = .ok (.getfield 22, 3) := by decide +kernel
theorem dX3_findRing_17 : decode cX3_findRing 17 = .ok (.arraylength, 1) := by decide +kernel
theorem dX3_findRing_18 : decode cX3_findRing 18 = .ok (.if_icmp .lt 7, 3) := by decide +kernel
theorem dX3_findRing_21 : decode cX3_findRing 21 = .ok (.aconst_null, 1) := by decide +kernel
theorem dX3_findRing_22 : decode cX3_findRing 22 = .ok (.goto 9, 3) := by decide +kernel
theorem dX3_findRing_25 : decode cX3_findRing 25 = .ok (.aload_n 0, 1) := by decide +kernel
theorem dX3_findRing_26 : decode cX3_findRing 26 = .ok (.getfield 22, 3) := by decide +kernel
theorem dX3_findRing_29 : decode cX3_findRing 29 = .ok (.iload_n 1, 1) := by decide +kernel
theorem dX3_findRing_30 : decode cX3_findRing 30 = .ok (.aaload, 1) := by decide +kernel
theorem dX3_findRing_31 : decode cX3_findRing 31 = .ok (.areturn, 1) := by decide +kernel
theorem dX3_refusalOfMarble_0 : decode cX3_refusalOfMarble 0 = .ok (.iload_n 1, 1) := by decide +kernel
theorem dX3_refusalOfMarble_1 : decode cX3_refusalOfMarble 1 = .ok (.iload_n 2, 1) := by decide +kernel
theorem dX3_refusalOfMarble_2 : decode cX3_refusalOfMarble 2 = .ok (.invokestatic 69, 3) := by decide +kernel
theorem dX3_refusalOfMarble_5 : decode cX3_refusalOfMarble 5 = .ok (.ifCond .eq 11, 3) := by decide +kernel
theorem dX3_refusalOfMarble_8 : decode cX3_refusalOfMarble 8 = .ok (.iload 4, 2) := by decide +kernel
theorem dX3_refusalOfMarble_10 : decode cX3_refusalOfMarble 10 = .ok (.invokestatic 73, 3) := by decide +kernel
theorem dX3_refusalOfMarble_13 : decode cX3_refusalOfMarble 13 = .ok (.ifCond .ne 7, 3) := by decide +kernel
theorem dX3_refusalOfMarble_16 : decode cX3_refusalOfMarble 16 = .ok (.sipush (-1001), 3) := by decide +kernel
theorem dX3_refusalOfMarble_19 : decode cX3_refusalOfMarble 19 = .ok (.ireturn, 1) := by decide +kernel
theorem dX3_refusalOfMarble_20 : decode cX3_refusalOfMarble 20 = .ok (.iload_n 3, 1) := by decide +kernel
theorem dX3_refusalOfMarble_21 : decode cX3_refusalOfMarble 21 = .ok (.iconst 1, 1) := by decide +kernel
theorem dX3_refusalOfMarble_22 : decode cX3_refusalOfMarble 22 = .ok (.if_icmp .lt 8, 3) := by decide +kernel
theorem dX3_refusalOfMarble_25 : decode cX3_refusalOfMarble 25 = .ok (.iload_n 3, 1) := by decide +kernel
theorem dX3_refusalOfMarble_26 : decode cX3_refusalOfMarble 26 = .ok (.iconst 3, 1) := by decide +kernel
theorem dX3_refusalOfMarble_27 : decode cX3_refusalOfMarble 27 = .ok (.if_icmp .le 7, 3) := by decide +kernel
theorem dX3_refusalOfMarble_30 : decode cX3_refusalOfMarble 30 = .ok (.sipush (-1002), 3) := by decide +kernel
theorem dX3_refusalOfMarble_33 : decode cX3_refusalOfMarble 33 = .ok (.ireturn, 1) := by decide +kernel
theorem dX3_refusalOfMarble_34 : decode cX3_refusalOfMarble 34 = .ok (.aload_n 0, 1) := by decide +kernel
theorem dX3_refusalOfMarble_35 : decode cX3_refusalOfMarble 35 = .ok (.iload_n 1, 1) := by decide +kernel
theorem dX3_refusalOfMarble_36 : decode cX3_refusalOfMarble 36 = .ok (.iload_n 2, 1) := by decide +kernel
theorem dX3_refusalOfMarble_37 : decode cX3_refusalOfMarble 37 = .ok (.invokevirtual 77, 3) := by decide +kernel
theorem dX3_refusalOfMarble_40 : decode cX3_refusalOfMarble 40 = .ok (.ifnull 7, 3) := by decide +kernel
theorem dX3_refusalOfMarble_43 : decode cX3_refusalOfMarble 43 = .ok (.sipush (-1003), 3) := by decide +kernel
theorem dX3_refusalOfMarble_46 : decode cX3_refusalOfMarble 46 = .ok (.ireturn, 1) := by decide +kernel
theorem dX3_refusalOfMarble_47 : decode cX3_refusalOfMarble 47 = .ok (.aload_n 0, 1) := by decide +kernel
theorem dX3_refusalOfMarble_48 : decode cX3_refusalOfMarble 48 = .ok (.getfield 34, 3) := by decide +kernel
theorem dX3_refusalOfMarble_51 : decode cX3_refusalOfMarble 51 = .ok (.bipush 12, 2) := by decide +kernel
theorem dX3_refusalOfMarble_53 : decode cX3_refusalOfMarble 53 = .ok (.if_icmp .lt 9, 3) := by decide +kernel
theorem dX3_refusalOfMarble_56 : decode cX3_refusalOfMarble 56 = .ok (.sipush (-1004), 3) := by decide +kernel
theorem dX3_refusalOfMarble_59 : decode cX3_refusalOfMarble 59 = .ok (.goto 4, 3) := by decide +kernel
theorem dX3_refusalOfMarble_62 : decode cX3_refusalOfMarble 62 = .ok (.iconst 0, 1) := by decide +kernel
theorem dX3_refusalOfMarble_63 : decode cX3_refusalOfMarble 63 = .ok (.ireturn, 1) := by decide +kernel
theorem dX3_addMarble_0 : decode cX3_addMarble 0 = .ok (.aload_n 0, 1) := by decide +kernel
theorem dX3_addMarble_1 : decode cX3_addMarble 1 = .ok (.getfield 34, 3) := by decide +kernel
theorem dX3_addMarble_4 : decode cX3_addMarble 4 = .ok (.ifCond .lt 15, 3) := by decide +kernel
theorem dX3_addMarble_7 : decode cX3_addMarble 7 = .ok (.aload_n 0, 1) := by decide +kernel
theorem dX3_addMarble_8 : decode cX3_addMarble 8 = .ok (.getfield 34, 3) := by decide +kernel
theorem dX3_addMarble_11 : decode cX3_addMarble 11 = .ok (.aload_n 0, 1) := by decide +kernel
theorem dX3_addMarble_12 : decode cX3_addMarble 12 = .ok (.getfield 11, 3) := by decide +kernel
theorem dX3_addMarble_15 : decode cX3_addMarble 15 = .ok (.arraylength, 1) := by decide +kernel
theorem dX3_addMarble_16 : decode cX3_addMarble 16 = .ok (.if_icmp .lt 7, 3) := by decide +kernel
theorem dX3_addMarble_19 : decode cX3_addMarble 19 = .ok (.sipush (-1004), 3) := by decide +kernel
theorem dX3_addMarble_22 : decode cX3_addMarble 22 = .ok (.ireturn, 1) := by decide +kernel
theorem dX3_addMarble_23 : decode cX3_addMarble 23 = .ok (.aload_n 0, 1) := by decide +kernel
theorem dX3_addMarble_24 : decode cX3_addMarble 24 = .ok (.getfield 11, 3) := by decide +kernel
theorem dX3_addMarble_27 : decode cX3_addMarble 27 = .ok (.aload_n 0, 1) := by decide +kernel
theorem dX3_addMarble_28 : decode cX3_addMarble 28 = .ok (.getfield 34, 3) := by decide +kernel
theorem dX3_addMarble_31 : decode cX3_addMarble 31 = .ok (.aaload, 1) := by decide +kernel
theorem dX3_addMarble_32 : decode cX3_addMarble 32 = .ok (.astore 5, 2) := by decide +kernel
theorem dX3_addMarble_34 : decode cX3_addMarble 34 = .ok (.aload 5, 2) := by decide +kernel
theorem dX3_addMarble_36 : decode cX3_addMarble 36 = .ok (.ifnonnull 7, 3) := by decide +kernel
theorem dX3_addMarble_39 : decode cX3_addMarble 39 = .ok (.sipush (-1004), 3) := by decide +kernel
theorem dX3_addMarble_42 : decode cX3_addMarble 42 = .ok (.ireturn, 1) := by decide +kernel
theorem dX3_addMarble_43 : decode cX3_addMarble 43 = .ok (.aload 5, 2) := by decide +kernel
theorem dX3_addMarble_45 : decode cX3_addMarble 45 = .ok (.iload_n 1, 1) := by decide +kernel
theorem dX3_addMarble_46 : decode cX3_addMarble 46 = .ok (.putfield 81, 3) := by decide +kernel
theorem dX3_addMarble_49 : decode cX3_addMarble 49 = .ok (.aload 5, 2) := by decide +kernel
theorem dX3_addMarble_51 : decode cX3_addMarble 51 = .ok (.iload_n 2, 1) := by decide +kernel
theorem dX3_addMarble_52 : decode cX3_addMarble 52 = .ok (.putfield 84, 3) := by decide +kernel
theorem dX3_addMarble_55 : decode cX3_addMarble 55 = .ok (.aload 5, 2) := by decide +kernel
theorem dX3_addMarble_57 : decode cX3_addMarble 57 = .ok (.iload_n 3, 1) := by decide +kernel
theorem dX3_addMarble_58 : decode cX3_addMarble 58 = .ok (.putfield 87, 3) := by decide +kernel
theorem dX3_addMarble_61 : decode cX3_addMarble 61 = .ok (.aload 5, 2) := by decide +kernel
theorem dX3_addMarble_63 : decode cX3_addMarble 63 = .ok (.iload 4, 2) := by decide +kernel
theorem dX3_addMarble_65 : decode cX3_addMarble 65 = .ok (.putfield 90, 3) := by decide +kernel
theorem dX3_addMarble_68 : decode cX3_addMarble 68 = .ok (.aload 5, 2) := by decide +kernel
theorem dX3_addMarble_70 : decode cX3_addMarble 70 = .ok (.iconst (-1), 1) := by decide +kernel
theorem dX3_addMarble_71 : decode cX3_addMarble 71 = .ok (.putfield 63, 3) := by decide +kernel
theorem dX3_addMarble_74 : decode cX3_addMarble 74 = .ok (.aload 5, 2) := by decide +kernel
theorem dX3_addMarble_76 : decode cX3_addMarble 76 = .ok (.iconst 1, 1) := by decide +kernel
theorem dX3_addMarble_77 : decode cX3_addMarble 77 = .ok (.putfield 59, 3) := by decide +kernel
theorem dX3_addMarble_80 : decode cX3_addMarble 80 = .ok (.aload_n 0, 1) := by decide +kernel
theorem dX3_addMarble_81 : decode cX3_addMarble 81 = .ok (.dup, 1) := by decide +kernel
theorem dX3_addMarble_82 : decode cX3_addMarble 82 = .ok (.getfield 34, 3) := by decide +kernel
theorem dX3_addMarble_85 : decode cX3_addMarble 85 = .ok (.iconst 1, 1) := by decide +kernel
theorem dX3_addMarble_86 : decode cX3_addMarble 86 = .ok (.iadd, 1) := by decide +kernel
theorem dX3_addMarble_87 : decode cX3_addMarble 87 = .ok (.putfield 34, 3) := by decide +kernel
theorem dX3_addMarble_90 : decode cX3_addMarble 90 = .ok (.aload 5, 2) := by decide +kernel
theorem dX3_addMarble_92 : decode cX3_addMarble 92 = .ok (.getfield 93, 3) := by decide +kernel
theorem dX3_addMarble_95 : decode cX3_addMarble 95 = .ok (.ireturn, 1) := by decide +kernel
theorem dX3_refusalOfRing_0 : decode cX3_refusalOfRing 0 = .ok (.iload_n 1, 1) := by decide +kernel
theorem dX3_refusalOfRing_1 : decode cX3_refusalOfRing 1 = .ok (.iload_n 2, 1) := by decide +kernel
theorem dX3_refusalOfRing_2 : decode cX3_refusalOfRing 2 = .ok (.invokestatic 69, 3) := by decide +kernel
theorem dX3_refusalOfRing_5 : decode cX3_refusalOfRing 5 = .ok (.ifCond .ne 7, 3) := by decide +kernel
theorem dX3_refusalOfRing_8 : decode cX3_refusalOfRing 8 = .ok (.sipush (-1001), 3) := by decide +kernel
theorem dX3_refusalOfRing_11 : decode cX3_refusalOfRing 11 = .ok (.ireturn, 1) := by decide +kernel
theorem dX3_refusalOfRing_12 : decode cX3_refusalOfRing 12 = .ok (.iload_n 3, 1) := by decide +kernel
theorem dX3_refusalOfRing_13 : decode cX3_refusalOfRing 13 = .ok (.iconst 1, 1) := by decide +kernel
theorem dX3_refusalOfRing_14 : decode cX3_refusalOfRing 14 = .ok (.if_icmp .lt 9, 3) := by decide +kernel
theorem dX3_refusalOfRing_17 : decode cX3_refusalOfRing 17 = .ok (.iload_n 3, 1) := by decide +kernel
theorem dX3_refusalOfRing_18 : decode cX3_refusalOfRing 18 = .ok (.bipush 15, 2) := by decide +kernel
theorem dX3_refusalOfRing_20 : decode cX3_refusalOfRing 20 = .ok (.if_icmp .le 7, 3) := by decide +kernel
theorem dX3_refusalOfRing_23 : decode cX3_refusalOfRing 23 = .ok (.sipush (-1002), 3) := by decide +kernel
theorem dX3_refusalOfRing_26 : decode cX3_refusalOfRing 26 = .ok (.ireturn, 1) := by decide +kernel
theorem dX3_refusalOfRing_27 : decode cX3_refusalOfRing 27 = .ok (.aload_n 0, 1) := by decide +kernel
theorem dX3_refusalOfRing_28 : decode cX3_refusalOfRing 28 = .ok (.getfield 38, 3) := by decide +kernel
theorem dX3_refusalOfRing_31 : decode cX3_refusalOfRing 31 = .ok (.iconst 4, 1) := by decide +kernel
theorem dX3_refusalOfRing_32 : decode cX3_refusalOfRing 32 = .ok (.if_icmp .lt 9, 3) := by decide +kernel
theorem dX3_refusalOfRing_35 : decode cX3_refusalOfRing 35 = .ok (.sipush (-1004), 3) := by decide +kernel
theorem dX3_refusalOfRing_38 : decode cX3_refusalOfRing 38 = .ok (.goto 4, 3) := by decide +kernel
theorem dX3_refusalOfRing_41 : decode cX3_refusalOfRing 41 = .ok (.iconst 0, 1) := by decide +kernel
theorem dX3_refusalOfRing_42 : decode cX3_refusalOfRing 42 = .ok (.ireturn, 1) := by decide +kernel
theorem dX3_addRing_0 : decode cX3_addRing 0 = .ok (.aload_n 0, 1) := by decide +kernel
theorem dX3_addRing_1 : decode cX3_addRing 1 = .ok (.getfield 38, 3) := by decide +kernel
theorem dX3_addRing_4 : decode cX3_addRing 4 = .ok (.ifCond .lt 15, 3) := by decide +kernel
theorem dX3_addRing_7 : decode cX3_addRing 7 = .ok (.aload_n 0, 1) := by decide +kernel
theorem dX3_addRing_8 : decode cX3_addRing 8 = .ok (.getfield 38, 3) := by decide +kernel
theorem dX3_addRing_11 : decode cX3_addRing 11 = .ok (.aload_n 0, 1) := by decide +kernel
theorem dX3_addRing_12 : decode cX3_addRing 12 = .ok (.getfield 22, 3) := by decide +kernel
theorem dX3_addRing_15 : decode cX3_addRing 15 = .ok (.arraylength, 1) := by decide +kernel
theorem dX3_addRing_16 : decode cX3_addRing 16 = .ok (.if_icmp .lt 7, 3) := by decide +kernel
theorem dX3_addRing_19 : decode cX3_addRing 19 = .ok (.sipush (-1004), 3) := by decide +kernel
theorem dX3_addRing_22 : decode cX3_addRing 22 = .ok (.ireturn, 1) := by decide +kernel
theorem dX3_addRing_23 : decode cX3_addRing 23 = .ok (.aload_n 0, 1) := by decide +kernel
theorem dX3_addRing_24 : decode cX3_addRing 24 = .ok (.getfield 22, 3) := by decide +kernel
theorem dX3_addRing_27 : decode cX3_addRing 27 = .ok (.aload_n 0, 1) := by decide +kernel
theorem dX3_addRing_28 : decode cX3_addRing 28 = .ok (.getfield 38, 3) := by decide +kernel
theorem dX3_addRing_31 : decode cX3_addRing 31 = .ok (.aaload, 1) := by decide +kernel
theorem dX3_addRing_32 : decode cX3_addRing 32 = .ok (.astore 4, 2) := by decide +kernel
theorem dX3_addRing_34 : decode cX3_addRing 34 = .ok (.aload 4, 2) := by decide +kernel
theorem dX3_addRing_36 : decode cX3_addRing 36 = .ok (.ifnonnull 7, 3) := by decide +kernel
theorem dX3_addRing_39 : decode cX3_addRing 39 = .ok (.sipush (-1004), 3) := by decide +kernel
theorem dX3_addRing_42 : decode cX3_addRing 42 = .ok (.ireturn, 1) := by decide +kernel
theorem dX3_addRing_43 : decode cX3_addRing 43 = .ok (.aload 4, 2) := by decide +kernel
theorem dX3_addRing_45 : decode cX3_addRing 45 = .ok (.iload_n 1, 1) := by decide +kernel
theorem dX3_addRing_46 : decode cX3_addRing 46 = .ok (.putfield 96, 3) := by decide +kernel
theorem dX3_addRing_49 : decode cX3_addRing 49 = .ok (.aload 4, 2) := by decide +kernel
theorem dX3_addRing_51 : decode cX3_addRing 51 = .ok (.iload_n 2, 1) := by decide +kernel
theorem dX3_addRing_52 : decode cX3_addRing 52 = .ok (.putfield 97, 3) := by decide +kernel
theorem dX3_addRing_55 : decode cX3_addRing 55 = .ok (.aload 4, 2) := by decide +kernel
theorem dX3_addRing_57 : decode cX3_addRing 57 = .ok (.iload_n 3, 1) := by decide +kernel
theorem dX3_addRing_58 : decode cX3_addRing 58 = .ok (.putfield 66, 3) := by decide +kernel
theorem dX3_addRing_61 : decode cX3_addRing 61 = .ok (.aload_n 0, 1) := by decide +kernel
theorem dX3_addRing_62 : decode cX3_addRing 62 = .ok (.dup, 1) := by decide +kernel
theorem dX3_addRing_63 : decode cX3_addRing 63 = .ok (.getfield 38, 3) := by decide +kernel
theorem dX3_addRing_66 : decode cX3_addRing 66 = .ok (.iconst 1, 1) := by decide +kernel
theorem dX3_addRing_67 : decode cX3_addRing 67 = .ok (.iadd, 1) := by decide +kernel
theorem dX3_addRing_68 : decode cX3_addRing 68 = .ok (.putfield 38, 3) := by decide +kernel
theorem dX3_addRing_71 : decode cX3_addRing 71 = .ok (.aload_n 0, 1) := by decide +kernel
theorem dX3_addRing_72 : decode cX3_addRing 72 = .ok (.getfield 38, 3) := by decide +kernel
theorem dX3_addRing_75 : decode cX3_addRing 75 = .ok (.iconst 1, 1) := by decide +kernel
theorem dX3_addRing_76 : decode cX3_addRing 76 = .ok (.isub, 1) := by decide +kernel
theorem dX3_addRing_77 : decode cX3_addRing 77 = .ok (.ireturn, 1) := by decide +kernel
theorem dX3_nextPlayer_0 : decode cX3_nextPlayer 0 = .ok (.aload_n 0, 1) := by decide +kernel
theorem dX3_nextPlayer_1 : decode cX3_nextPlayer 1 = .ok (.aload_n 0, 1) := by decide +kernel
theorem dX3_nextPlayer_2 : decode cX3_nextPlayer 2 = .ok (.getfield 41, 3) := by decide +kernel
theorem dX3_nextPlayer_5 : decode cX3_nextPlayer 5 = .ok (.iconst 2, 1) := by decide +kernel
theorem dX3_nextPlayer_6 : decode cX3_nextPlayer 6 = .ok (.if_icmp .ge 12, 3) := by decide +kernel
theorem dX3_nextPlayer_9 : decode cX3_nextPlayer 9 = .ok (.aload_n 0, 1) := by decide +kernel
theorem dX3_nextPlayer_10 : decode cX3_nextPlayer 10 = .ok (.getfield 41, 3) := by decide +kernel
theorem dX3_nextPlayer_13 : decode cX3_nextPlayer 13 = .ok (.iconst 1, 1) := by decide +kernel
theorem dX3_nextPlayer_14 : decode cX3_nextPlayer 14 = .ok (.iadd, 1) := by decide +kernel
theorem dX3_nextPlayer_15 : decode cX3_nextPlayer 15 = .ok (.goto 4, 3) := by decide +kernel
theorem dX3_nextPlayer_18 : decode cX3_nextPlayer 18 = .ok (.iconst 0, 1) := by decide +kernel
theorem dX3_nextPlayer_19 : decode cX3_nextPlayer 19 = .ok (.putfield 41, 3) := by decide +kernel
theorem dX3_nextPlayer_22 : decode cX3_nextPlayer 22 = .ok (.return_, 1) := by decide +kernel
theorem dX3_marbleOn_0 : decode cX3_marbleOn 0 = .ok (.aload_n 0, 1) := by decide +kernel
theorem dX3_marbleOn_1 : decode cX3_marbleOn 1 = .ok (.getfield 11, 3) := by decide +kernel
theorem dX3_marbleOn_4 : decode cX3_marbleOn 4 = .ok (.astore_n 3, 1) := by decide +kernel
theorem dX3_marbleOn_5 : decode cX3_marbleOn 5 = .ok (.aload_n 3, 1) := by decide +kernel
theorem dX3_marbleOn_6 : decode cX3_marbleOn 6 = .ok (.arraylength, 1) := by decide +kernel
theorem dX3_marbleOn_7 : decode cX3_marbleOn 7 = .ok (.istore 4, 2) := by decide +kernel
theorem dX3_marbleOn_9 : decode cX3_marbleOn 9 = .ok (.iconst 0, 1) := by decide +kernel
theorem dX3_marbleOn_10 : decode cX3_marbleOn 10 = .ok (.istore 5, 2) := by decide +kernel
theorem dX3_marbleOn_12 : decode cX3_marbleOn 12 = .ok (.iload 5, 2) := by decide +kernel
theorem dX3_marbleOn_14 : decode cX3_marbleOn 14 = .ok (.iload 4, 2) := by decide +kernel
theorem dX3_marbleOn_16 : decode cX3_marbleOn 16 = .ok (.if_icmp .ge 49, 3) := by decide +kernel
theorem dX3_marbleOn_19 : decode cX3_marbleOn 19 = .ok (.aload_n 3, 1) := by decide +kernel
theorem dX3_marbleOn_20 : decode cX3_marbleOn 20 = .ok (.iload 5, 2) := by decide +kernel
theorem dX3_marbleOn_22 : decode cX3_marbleOn 22 = .ok (.aaload, 1) := by decide +kernel
theorem dX3_marbleOn_23 : decode cX3_marbleOn 23 = .ok (.astore 6, 2) := by decide +kernel
theorem dX3_marbleOn_25 : decode cX3_marbleOn 25 = .ok (.aload 6, 2) := by decide +kernel
theorem dX3_marbleOn_27 : decode cX3_marbleOn 27 = .ok (.ifnull 32, 3) := by decide +kernel
theorem dX3_marbleOn_30 : decode cX3_marbleOn 30 = .ok (.aload 6, 2) := by decide +kernel
theorem dX3_marbleOn_32 : decode cX3_marbleOn 32 = .ok (.getfield 59, 3) := by decide +kernel
theorem dX3_marbleOn_35 : decode cX3_marbleOn 35 = .ok (.ifCond .eq 24, 3) := by decide +kernel
theorem dX3_marbleOn_38 : decode cX3_marbleOn 38 = .ok (.aload 6, 2) := by decide +kernel
theorem dX3_marbleOn_40 : decode cX3_marbleOn 40 = .ok (.getfield 81, 3) := by decide +kernel
theorem dX3_marbleOn_43 : decode cX3_marbleOn 43 = .ok (.iload_n 1, 1) := by decide +kernel
theorem dX3_marbleOn_44 : decode cX3_marbleOn 44 = .ok (.if_icmp .ne 15, 3) := by decide +kernel
theorem dX3_marbleOn_47 : decode cX3_marbleOn 47 = .ok (.aload 6, 2) := by decide +kernel
theorem dX3_marbleOn_49 : decode cX3_marbleOn 49 = .ok (.getfield 84, 3) := by decide +kernel
theorem dX3_marbleOn_52 : decode cX3_marbleOn 52 = .ok (.iload_n 2, 1) := by decide +kernel
theorem dX3_marbleOn_53 : decode cX3_marbleOn 53 = .ok (.if_icmp .ne 6, 3) := by decide +kernel
theorem dX3_marbleOn_56 : decode cX3_marbleOn 56 = .ok (.aload 6, 2) := by decide +kernel
theorem dX3_marbleOn_58 : decode cX3_marbleOn 58 = .ok (.areturn, 1) := by decide +kernel
theorem dX3_marbleOn_59 : decode cX3_marbleOn 59 = .ok (.iinc 5 1, 3) := by decide +kernel
theorem dX3_marbleOn_62 : decode cX3_marbleOn 62 = .ok (.goto (-50), 3) := by decide +kernel
theorem dX3_marbleOn_65 : decode cX3_marbleOn 65 = .ok (.aconst_null, 1) := by decide +kernel
theorem dX3_marbleOn_66 : decode cX3_marbleOn 66 = .ok (.areturn, 1) := by decide +kernel
theorem dX3_ringsAround_0 : decode cX3_ringsAround 0 = .ok (.iconst 0, 1) := by decide +kernel
theorem dX3_ringsAround_1 : decode cX3_ringsAround 1 = .ok (.istore_n 3, 1) := by decide +kernel
theorem dX3_ringsAround_2 : decode cX3_ringsAround 2 = .ok (.iconst 0, 1) := by decide +kernel
theorem dX3_ringsAround_3 : decode cX3_ringsAround 3 = .ok (.istore 4, 2) := by decide +kernel
theorem dX3_ringsAround_5 : decode cX3_ringsAround 5 = .ok (.iload 4, 2) := by decide +kernel
theorem dX3_ringsAround_7 : decode cX3_ringsAround 7 = .ok (.aload_n 0, 1) := by decide +kernel
theorem dX3_ringsAround_8 : decode cX3_ringsAround 8 = .ok (.getfield 22, 3) := by decide +kernel
theorem dX3_ringsAround_11 : decode cX3_ringsAround 11 = .ok (.arraylength, 1) := by decide +kernel
theorem dX3_ringsAround_12 : decode cX3_ringsAround 12 = .ok (.if_icmp .ge 40, 3) := by decide +kernel
theorem dX3_ringsAround_15 : decode cX3_ringsAround 15 = .ok (.aload_n 0, 1) := by decide +kernel
theorem dX3_ringsAround_16 : decode cX3_ringsAround 16 = .ok (.getfield 22, 3) := by decide +kernel
theorem dX3_ringsAround_19 : decode cX3_ringsAround 19 = .ok (.iload 4, 2) := by decide +kernel
theorem dX3_ringsAround_21 : decode cX3_ringsAround 21 = .ok (.aaload, 1) := by decide +kernel
theorem dX3_ringsAround_22 : decode cX3_ringsAround 22 = .ok (.astore 5, 2) := by decide +kernel
theorem dX3_ringsAround_24 : decode cX3_ringsAround 24 = .ok (.aload 5, 2) := by decide +kernel
theorem dX3_ringsAround_26 : decode cX3_ringsAround 26 = .ok (.ifnull 20, 3) := by decide +kernel
theorem dX3_ringsAround_29 : decode cX3_ringsAround 29 = .ok (.aload 5, 2) := by decide +kernel
theorem dX3_ringsAround_31 : decode cX3_ringsAround 31 = .ok (.iload_n 1, 1) := by decide +kernel
theorem dX3_ringsAround_32 : decode cX3_ringsAround 32 = .ok (.iload_n 2, 1) := by decide +kernel
theorem dX3_ringsAround_33 : decode cX3_ringsAround 33 = .ok (.invokevirtual 98, 3) := by decide +kernel
theorem dX3_ringsAround_36 : decode cX3_ringsAround 36 = .ok (.ifCond .eq 10, 3) := by decide +kernel
theorem dX3_ringsAround_39 : decode cX3_ringsAround 39 = .ok (.iload_n 3, 1) := by decide +kernel
theorem dX3_ringsAround_40 : decode cX3_ringsAround 40 = .ok (.iconst 1, 1) := by decide +kernel
theorem dX3_ringsAround_41 : decode cX3_ringsAround 41 = .ok (.iload 4, 2) := by decide +kernel
theorem dX3_ringsAround_43 : decode cX3_ringsAround 43 = .ok (.ishl, 1) := by decide +kernel
theorem dX3_ringsAround_44 : decode cX3_ringsAround 44 = .ok (.ior, 1) := by decide +kernel
theorem dX3_ringsAround_45 : decode cX3_ringsAround 45 = .ok (.istore_n 3, 1) := by decide +kernel
theorem dX3_ringsAround_46 : decode cX3_ringsAround 46 = .ok (.iinc 4 1, 3) := by decide +kernel
theorem dX3_ringsAround_49 : decode cX3_ringsAround 49 = .ok (.goto (-44), 3) := by decide +kernel
theorem dX3_ringsAround_52 : decode cX3_ringsAround 52 = .ok (.iload_n 3, 1) := by decide +kernel
theorem dX3_ringsAround_53 : decode cX3_ringsAround 53 = .ok (.ireturn, 1) := by decide +kernel
theorem dX3_marblesIn_0 : decode cX3_marblesIn 0 = .ok (.iconst 0, 1) := by decide +kernel
theorem dX3_marblesIn_1 : decode cX3_marblesIn 1 = .ok (.istore_n 2, 1) := by decide +kernel
theorem dX3_marblesIn_2 : decode cX3_marblesIn 2 = .ok (.aload_n 0, 1) := by decide +kernel
theorem dX3_marblesIn_3 : decode cX3_marblesIn 3 = .ok (.getfield 11, 3) := by decide +kernel
theorem dX3_marblesIn_6 : decode cX3_marblesIn 6 = .ok (.astore_n 3, 1) := by decide +kernel
theorem dX3_marblesIn_7 : decode cX3_marblesIn 7 = .ok (.aload_n 3, 1) := by decide +kernel
theorem dX3_marblesIn_8 : decode cX3_marblesIn 8 = .ok (.arraylength, 1) := by decide +kernel
theorem dX3_marblesIn_9 : decode cX3_marblesIn 9 = .ok (.istore 4, 2) := by decide +kernel
theorem dX3_marblesIn_11 : decode cX3_marblesIn 11 = .ok (.iconst 0, 1) := by decide +kernel
theorem dX3_marblesIn_12 : decode cX3_marblesIn 12 = .ok (.istore 5, 2) := by decide +kernel
theorem dX3_marblesIn_14 : decode cX3_marblesIn 14 = .ok (.iload 5, 2) := by decide +kernel
theorem dX3_marblesIn_16 : decode cX3_marblesIn 16 = .ok (.iload 4, 2) := by decide +kernel
theorem dX3_marblesIn_18 : decode cX3_marblesIn 18 = .ok (.if_icmp .ge 55, 3) := by decide +kernel
theorem dX3_marblesIn_21 : decode cX3_marblesIn 21 = .ok (.aload_n 3, 1) := by decide +kernel
theorem dX3_marblesIn_22 : decode cX3_marblesIn 22 = .ok (.iload 5, 2) := by decide +kernel
theorem dX3_marblesIn_24 : decode cX3_marblesIn 24 = .ok (.aaload, 1) := by decide +kernel
theorem dX3_marblesIn_25 : decode cX3_marblesIn 25 = .ok (.astore 6, 2) := by decide +kernel
theorem dX3_marblesIn_27 : decode cX3_marblesIn 27 = .ok (.aload 6, 2) := by decide +kernel
theorem dX3_marblesIn_29 : decode cX3_marblesIn 29 = .ok (.ifnull 38, 3) := by decide +kernel
theorem dX3_marblesIn_32 : decode cX3_marblesIn 32 = .ok (.aload 6, 2) := by decide +kernel
theorem dX3_marblesIn_34 : decode cX3_marblesIn 34 = .ok (.getfield 59, 3) := by decide +kernel
theorem dX3_marblesIn_37 : decode cX3_marblesIn 37 = .ok (.ifCond .eq 30, 3) := by decide +kernel
theorem dX3_marblesIn_40 : decode cX3_marblesIn 40 = .ok (.aload_n 1, 1) := by decide +kernel
theorem dX3_marblesIn_41 : decode cX3_marblesIn 41 = .ok (.aload 6, 2) := by decide +kernel
theorem dX3_marblesIn_43 : decode cX3_marblesIn 43 = .ok (.getfield 81, 3) := by decide +kernel
theorem dX3_marblesIn_46 : decode cX3_marblesIn 46 = .ok (.aload 6, 2) := by decide +kernel
theorem dX3_marblesIn_48 : decode cX3_marblesIn 48 = .ok (.getfield 84, 3) := by decide +kernel
theorem dX3_marblesIn_51 : decode cX3_marblesIn 51 = .ok (.invokevirtual 98, 3) := by decide +kernel
theorem dX3_marblesIn_54 : decode cX3_marblesIn 54 = .ok (.ifCond .eq 13, 3) := by decide +kernel
theorem dX3_marblesIn_57 : decode cX3_marblesIn 57 = .ok (.iload_n 2, 1) := by decide +kernel
theorem dX3_marblesIn_58 : decode cX3_marblesIn 58 = .ok (.iconst 1, 1) := by decide +kernel
theorem dX3_marblesIn_59 : decode cX3_marblesIn 59 = .ok (.aload 6, 2) := by decide +kernel
theorem dX3_marblesIn_61 : decode cX3_marblesIn 61 = .ok (.getfield 93, 3) := by decide +kernel
theorem dX3_marblesIn_64 : decode cX3_marblesIn 64 = .ok (.ishl, 1) := by decide +kernel
theorem dX3_marblesIn_65 : decode cX3_marblesIn 65 = .ok (.ior, 1) := by decide +kernel
theorem dX3_marblesIn_66 : decode cX3_marblesIn 66 = .ok (.istore_n 2, 1) := by decide +kernel
theorem dX3_marblesIn_67 : decode cX3_marblesIn 67 = .ok (.iinc 5 1, 3) := by decide +kernel
theorem dX3_marblesIn_70 : decode cX3_marblesIn 70 = .ok (.goto (-56), 3) := by decide +kernel
theorem dX3_marblesIn_73 : decode cX3_marblesIn 73 = .ok (.iload_n 2, 1) := by decide +kernel
theorem dX3_marblesIn_74 : decode cX3_marblesIn 74 = .ok (.ireturn, 1) := by decide +kernel
theorem dX3_pointsOf_0 : decode cX3_pointsOf 0 = .ok (.iconst 0, 1) := by decide +kernel
theorem dX3_pointsOf_1 : decode cX3_pointsOf 1 = .ok (.istore_n 2, 1) := by decide +kernel
theorem dX3_pointsOf_2 : decode cX3_pointsOf 2 = .ok (.aload_n 0, 1) := by decide +kernel
theorem dX3_pointsOf_3 : decode cX3_pointsOf 3 = .ok (.getfield 11, 3) := by decide +kernel
theorem dX3_pointsOf_6 : decode cX3_pointsOf 6 = .ok (.astore_n 3, 1) := by decide +kernel
theorem dX3_pointsOf_7 : decode cX3_pointsOf 7 = .ok (.aload_n 3, 1) := by decide +kernel
theorem dX3_pointsOf_8 : decode cX3_pointsOf 8 = .ok (.arraylength, 1) := by decide +kernel
theorem dX3_pointsOf_9 : decode cX3_pointsOf 9 = .ok (.istore 4, 2) := by decide +kernel
theorem dX3_pointsOf_11 : decode cX3_pointsOf 11 = .ok (.iconst 0, 1) := by decide +kernel
theorem dX3_pointsOf_12 : decode cX3_pointsOf 12 = .ok (.istore 5, 2) := by decide +kernel
theorem dX3_pointsOf_14 : decode cX3_pointsOf 14 = .ok (.iload 5, 2) := by decide +kernel
theorem dX3_pointsOf_16 : decode cX3_pointsOf 16 = .ok (.iload 4, 2) := by decide +kernel
theorem dX3_pointsOf_18 : decode cX3_pointsOf 18 = .ok (.if_icmp .ge 69, 3) := by decide +kernel
theorem dX3_pointsOf_21 : decode cX3_pointsOf 21 = .ok (.aload_n 3, 1) := by decide +kernel
theorem dX3_pointsOf_22 : decode cX3_pointsOf 22 = .ok (.iload 5, 2) := by decide +kernel
theorem dX3_pointsOf_24 : decode cX3_pointsOf 24 = .ok (.aaload, 1) := by decide +kernel
theorem dX3_pointsOf_25 : decode cX3_pointsOf 25 = .ok (.astore 6, 2) := by decide +kernel
theorem dX3_pointsOf_27 : decode cX3_pointsOf 27 = .ok (.aload 6, 2) := by decide +kernel
theorem dX3_pointsOf_29 : decode cX3_pointsOf 29 = .ok (.ifnull 52, 3) := by decide +kernel
theorem dX3_pointsOf_32 : decode cX3_pointsOf 32 = .ok (.aload 6, 2) := by decide +kernel
theorem dX3_pointsOf_34 : decode cX3_pointsOf 34 = .ok (.getfield 63, 3) := by decide +kernel
theorem dX3_pointsOf_37 : decode cX3_pointsOf 37 = .ok (.iconst (-1), 1) := by decide +kernel
theorem dX3_pointsOf_38 : decode cX3_pointsOf 38 = .ok (.if_icmp .ne 6, 3) := by decide +kernel
theorem dX3_pointsOf_41 : decode cX3_pointsOf 41 = .ok (.goto 40, 3) := by decide +kernel
theorem dX3_pointsOf_44 : decode cX3_pointsOf 44 = .ok (.aload 6, 2) := by decide +kernel
theorem dX3_pointsOf_46 : decode cX3_pointsOf 46 = .ok (.getfield 63, 3) := by decide +kernel
theorem dX3_pointsOf_49 : decode cX3_pointsOf 49 = .ok (.iload_n 1, 1) := by decide +kernel
theorem dX3_pointsOf_50 : decode cX3_pointsOf 50 = .ok (.if_icmp .ne 14, 3) := by decide +kernel
theorem dX3_pointsOf_53 : decode cX3_pointsOf 53 = .ok (.iload_n 2, 1) := by decide +kernel
theorem dX3_pointsOf_54 : decode cX3_pointsOf 54 = .ok (.aload 6, 2) := by decide +kernel
theorem dX3_pointsOf_56 : decode cX3_pointsOf 56 = .ok (.getfield 87, 3) := by decide +kernel
theorem dX3_pointsOf_59 : decode cX3_pointsOf 59 = .ok (.iadd, 1) := by decide +kernel
theorem dX3_pointsOf_60 : decode cX3_pointsOf 60 = .ok (.istore_n 2, 1) := by decide +kernel
theorem dX3_pointsOf_61 : decode cX3_pointsOf 61 = .ok (.goto 20, 3) := by decide +kernel
theorem dX3_pointsOf_64 : decode cX3_pointsOf 64 = .ok (.aload 6, 2) := by decide +kernel
theorem dX3_pointsOf_66 : decode cX3_pointsOf 66 = .ok (.getfield 90, 3) := by decide +kernel
theorem dX3_pointsOf_69 : decode cX3_pointsOf 69 = .ok (.iload_n 1, 1) := by decide +kernel
theorem dX3_pointsOf_70 : decode cX3_pointsOf 70 = .ok (.if_icmp .ne 11, 3) := by decide +kernel
theorem dX3_pointsOf_73 : decode cX3_pointsOf 73 = .ok (.iload_n 2, 1) := by decide +kernel
theorem dX3_pointsOf_74 : decode cX3_pointsOf 74 = .ok (.aload 6, 2) := by decide +kernel
theorem dX3_pointsOf_76 : decode cX3_pointsOf 76 = .ok (.getfield 87, 3) := by decide +kernel
theorem dX3_pointsOf_79 : decode cX3_pointsOf 79 = .ok (.isub, 1) := by decide +kernel
theorem dX3_pointsOf_80 : decode cX3_pointsOf 80 = .ok (.istore_n 2, 1) := by decide +kernel
theorem dX3_pointsOf_81 : decode cX3_pointsOf 81 = .ok (.iinc 5 1, 3) := by decide +kernel
theorem dX3_pointsOf_84 : decode cX3_pointsOf 84 = .ok (.goto (-70), 3) := by decide +kernel
theorem dX3_pointsOf_87 : decode cX3_pointsOf 87 = .ok (.iload_n 2, 1) := by decide +kernel
theorem dX3_pointsOf_88 : decode cX3_pointsOf 88 = .ok (.ireturn, 1) := by decide +kernel
theorem dX3_isOutAfter_0 : decode cX3_isOutAfter 0 = .ok (.iconst 0, 1) := by decide +kernel
theorem dX3_isOutAfter_1 : decode cX3_isOutAfter 1 = .ok (.istore_n 3, 1) := by decide +kernel
theorem dX3_isOutAfter_2 : decode cX3_isOutAfter 2 = .ok (.iload_n 3, 1) := by decide +kernel
theorem dX3_isOutAfter_3 : decode cX3_isOutAfter 3 = .ok (.getstatic 101, 3) := by decide +kernel
theorem dX3_isOutAfter_6 : decode cX3_isOutAfter 6 = .ok (.arraylength, 1) := by decide +kernel
theorem dX3_isOutAfter_7 : decode cX3_isOutAfter 7 = .ok (.if_icmp .ge 58, 3) := by decide +kernel
theorem dX3_isOutAfter_10 : decode cX3_isOutAfter 10 = .ok (.aload_n 1, 1) := by decide +kernel
theorem dX3_isOutAfter_11 : decode cX3_isOutAfter 11 = .ok (.getfield 81, 3) := by decide +kernel
theorem dX3_isOutAfter_14 : decode cX3_isOutAfter 14 = .ok (.iload_n 2, 1) := by decide +kernel
theorem dX3_isOutAfter_15 : decode cX3_isOutAfter 15 = .ok (.iload_n 3, 1) := by decide +kernel
theorem dX3_isOutAfter_16 : decode cX3_isOutAfter 16 = .ok (.invokestatic 105, 3) := by decide +kernel
theorem dX3_isOutAfter_19 : decode cX3_isOutAfter 19 = .ok (.imul, 1) := by decide +kernel
theorem dX3_isOutAfter_20 : decode cX3_isOutAfter 20 = .ok (.iadd, 1) := by decide +kernel
theorem dX3_isOutAfter_21 : decode cX3_isOutAfter 21 = .ok (.istore 4, 2) := by decide +kernel
theorem dX3_isOutAfter_23 : decode cX3_isOutAfter 23 = .ok (.aload_n 1, 1) := by decide +kernel
theorem dX3_isOutAfter_24 : decode cX3_isOutAfter 24 = .ok (.getfield 84, 3) := by decide +kernel
theorem dX3_isOutAfter_27 : decode cX3_isOutAfter 27 = .ok (.iload_n 2, 1) := by decide +kernel
theorem dX3_isOutAfter_28 : decode cX3_isOutAfter 28 = .ok (.iload_n 3, 1) := by decide +kernel
theorem dX3_isOutAfter_29 : decode cX3_isOutAfter 29 = .ok (.invokestatic 109, 3) := by decide +kernel
theorem dX3_isOutAfter_32 : decode cX3_isOutAfter 32 = .ok (.imul, 1) := by decide +kernel
theorem dX3_isOutAfter_33 : decode cX3_isOutAfter 33 = .ok (.iadd, 1) := by decide +kernel
theorem dX3_isOutAfter_34 : decode cX3_isOutAfter 34 = .ok (.istore 5, 2) := by decide +kernel
theorem dX3_isOutAfter_36 : decode cX3_isOutAfter 36 = .ok (.iload 4, 2) := by decide +kernel
theorem dX3_isOutAfter_38 : decode cX3_isOutAfter 38 = .ok (.iload 5, 2) := by decide +kernel
theorem dX3_isOutAfter_40 : decode cX3_isOutAfter 40 = .ok (.invokestatic 69, 3) := by decide +kernel
theorem dX3_isOutAfter_43 : decode cX3_isOutAfter 43 = .ok (.ifCond .eq 16, 3) := by decide +kernel
theorem dX3_isOutAfter_46 : decode cX3_isOutAfter 46 = .ok (.aload_n 0, 1) := by decide +kernel
theorem dX3_isOutAfter_47 : decode cX3_isOutAfter 47 = .ok (.iload 4, 2) := by decide +kernel
theorem dX3_isOutAfter_49 : decode cX3_isOutAfter 49 = .ok (.iload 5, 2) := by decide +kernel
theorem dX3_isOutAfter_51 : decode cX3_isOutAfter 51 = .ok (.invokevirtual 112, 3) := by decide +kernel
theorem dX3_isOutAfter_54 : decode cX3_isOutAfter 54 = .ok (.ifCond .ne 5, 3) := by decide +kernel
theorem dX3_isOutAfter_57 : decode cX3_isOutAfter 57 = .ok (.iconst 1, 1) := by decide +kernel
theorem dX3_isOutAfter_58 : decode cX3_isOutAfter 58 = .ok (.ireturn, 1) := by decide +kernel
theorem dX3_isOutAfter_59 : decode cX3_isOutAfter 59 = .ok (.iinc 3 1, 3) := by decide +kernel
theorem dX3_isOutAfter_62 : decode cX3_isOutAfter 62 = .ok (.goto (-60), 3) := by decide +kernel
theorem dX3_isOutAfter_65 : decode cX3_isOutAfter 65 = .ok (.iconst 0, 1) := by decide +kernel
theorem dX3_isOutAfter_66 : decode cX3_isOutAfter 66 = .ok (.ireturn, 1) := by decide +kernel
theorem dX3_markAhead_0 : decode cX3_markAhead 0 = .ok (.aload_n 0, 1) := by decide +kernel
theorem dX3_markAhead_1 : decode cX3_markAhead 1 = .ok (.getfield 11, 3) := by decide +kernel
theorem dX3_markAhead_4 : decode cX3_markAhead 4 = .ok (.astore_n 1, 1) := by decide +kernel
theorem dX3_markAhead_5 : decode cX3_markAhead 5 = .ok (.aload_n 1, 1) := by decide +kernel
theorem dX3_markAhead_6 : decode cX3_markAhead 6 = .ok (.arraylength, 1) := by decide +kernel
theorem dX3_markAhead_7 : decode cX3_markAhead 7 = .ok (.istore_n 2, 1) := by decide +kernel
theorem dX3_markAhead_8 : decode cX3_markAhead 8 = .ok (.iconst 0, 1) := by decide +kernel
theorem dX3_markAhead_9 : decode cX3_markAhead 9 = .ok (.istore_n 3, 1) := by decide +kernel
theorem dX3_markAhead_10 : decode cX3_markAhead 10 = .ok (.iload_n 3, 1) := by decide +kernel
theorem dX3_markAhead_11 : decode cX3_markAhead 11 = .ok (.iload_n 2, 1) := by decide +kernel
theorem dX3_markAhead_12 : decode cX3_markAhead 12 = .ok (.if_icmp .ge 56, 3) := by decide +kernel
theorem dX3_markAhead_15 : decode cX3_markAhead 15 = .ok (.aload_n 1, 1) := by decide +kernel
theorem dX3_markAhead_16 : decode cX3_markAhead 16 = .ok (.iload_n 3, 1) := by decide +kernel
theorem dX3_markAhead_17 : decode cX3_markAhead 17 = .ok (.aaload, 1) := by decide +kernel
theorem dX3_markAhead_18 : decode cX3_markAhead 18 = .ok (.astore 4, 2) := by decide +kernel
theorem dX3_markAhead_20 : decode cX3_markAhead 20 = .ok (.aload 4, 2) := by decide +kernel
theorem dX3_markAhead_22 : decode cX3_markAhead 22 = .ok (.ifnull 40, 3) := by decide +kernel
theorem dX3_markAhead_25 : decode cX3_markAhead 25 = .ok (.aload 4, 2) := by decide +kernel
theorem dX3_markAhead_27 : decode cX3_markAhead 27 = .ok (.aload 4, 2) := by decide +kernel
theorem dX3_markAhead_29 : decode cX3_markAhead 29 = .ok (.getfield 59, 3) := by decide +kernel
theorem dX3_markAhead_32 : decode cX3_markAhead 32 = .ok (.ifCond .eq 20, 3) := by decide +kernel
theorem dX3_markAhead_35 : decode cX3_markAhead 35 = .ok (.aload_n 0, 1) := by decide +kernel
theorem dX3_markAhead_36 : decode cX3_markAhead 36 = .ok (.aload 4, 2) := by decide +kernel
theorem dX3_markAhead_38 : decode cX3_markAhead 38 = .ok (.getfield 81, 3) := by decide +kernel
theorem dX3_markAhead_41 : decode cX3_markAhead 41 = .ok (.aload 4, 2) := by decide +kernel
theorem dX3_markAhead_43 : decode cX3_markAhead 43 = .ok (.getfield 84, 3) := by decide +kernel
theorem dX3_markAhead_46 : decode cX3_markAhead 46 = .ok (.invokevirtual 112, 3) := by decide +kernel
theorem dX3_markAhead_49 : decode cX3_markAhead 49 = .ok (.goto 4, 3) := by decide +kernel
theorem dX3_markAhead_52 : decode cX3_markAhead 52 = .ok (.iconst 0, 1) := by decide +kernel
theorem dX3_markAhead_53 : decode cX3_markAhead 53 = .ok (.putfield 116, 3) := by decide +kernel
theorem dX3_markAhead_56 : decode cX3_markAhead 56 = .ok (.aload 4, 2) := by decide +kernel
theorem dX3_markAhead_58 : decode cX3_markAhead 58 = .ok (.iconst 0, 1) := by decide +kernel
theorem dX3_markAhead_59 : decode cX3_markAhead 59 = .ok (.putfield 119, 3) := by decide +kernel
theorem dX3_markAhead_62 : decode cX3_markAhead 62 = .ok (.iinc 3 1, 3) := by decide +kernel
theorem dX3_markAhead_65 : decode cX3_markAhead 65 = .ok (.goto (-55), 3) := by decide +kernel
theorem dX3_markAhead_68 : decode cX3_markAhead 68 = .ok (.return_, 1) := by decide +kernel
theorem dX3_isWonBy_0 : decode cX3_isWonBy 0 = .ok (.aload_n 1, 1) := by decide +kernel
theorem dX3_isWonBy_1 : decode cX3_isWonBy 1 = .ok (.getfield 59, 3) := by decide +kernel
theorem dX3_isWonBy_4 : decode cX3_isWonBy 4 = .ok (.ifCond .eq 44, 3) := by decide +kernel
theorem dX3_isWonBy_7 : decode cX3_isWonBy 7 = .ok (.aload_n 1, 1) := by decide +kernel
theorem dX3_isWonBy_8 : decode cX3_isWonBy 8 = .ok (.getfield 119, 3) := by decide +kernel
theorem dX3_isWonBy_11 : decode cX3_isWonBy 11 = .ok (.ifCond .eq 37, 3) := by decide +kernel
theorem dX3_isWonBy_14 : decode cX3_isWonBy 14 = .ok (.aload_n 1, 1) := by decide +kernel
theorem dX3_isWonBy_15 : decode cX3_isWonBy 15 = .ok (.getfield 90, 3) := by decide +kernel
theorem dX3_isWonBy_18 : decode cX3_isWonBy 18 = .ok (.iload_n 2, 1) := by decide +kernel
theorem dX3_isWonBy_19 : decode cX3_isWonBy 19 = .ok (.if_icmp .eq 29, 3) := by decide +kernel
theorem dX3_isWonBy_22 : decode cX3_isWonBy 22 = .ok (.aload_n 1, 1) := by decide +kernel
theorem dX3_isWonBy_23 : decode cX3_isWonBy 23 = .ok (.getfield 116, 3) := by decide +kernel
theorem dX3_isWonBy_26 : decode cX3_isWonBy 26 = .ok (.ifCond .eq 22, 3) := by decide +kernel
theorem dX3_isWonBy_29 : decode cX3_isWonBy 29 = .ok (.aload_n 0, 1) := by decide +kernel
theorem dX3_isWonBy_30 : decode cX3_isWonBy 30 = .ok (.aload_n 1, 1) := by decide +kernel
theorem dX3_isWonBy_31 : decode cX3_isWonBy 31 = .ok (.getfield 81, 3) := by decide +kernel
theorem dX3_isWonBy_34 : decode cX3_isWonBy 34 = .ok (.aload_n 1, 1) := by decide +kernel
theorem dX3_isWonBy_35 : decode cX3_isWonBy 35 = .ok (.getfield 84, 3) := by decide +kernel
theorem dX3_isWonBy_38 : decode cX3_isWonBy 38 = .ok (.invokevirtual 112, 3) := by decide +kernel
theorem dX3_isWonBy_41 : decode cX3_isWonBy 41 = .ok (.ifCond .ne 7, 3) := by decide +kernel
theorem dX3_isWonBy_44 : decode cX3_isWonBy 44 = .ok (.iconst 1, 1) := by decide +kernel
theorem dX3_isWonBy_45 : decode cX3_isWonBy 45 = .ok (.goto 4, 3) := by decide +kernel
theorem dX3_isWonBy_48 : decode cX3_isWonBy 48 = .ok (.iconst 0, 1) := by decide +kernel
theorem dX3_isWonBy_49 : decode cX3_isWonBy 49 = .ok (.ireturn, 1) := by decide +kernel
theorem dX3_growRings_0 : decode cX3_growRings 0 = .ok (.iconst 0, 1) := by decide +kernel
theorem dX3_growRings_1 : decode cX3_growRings 1 = .ok (.istore_n 2, 1) := by decide +kernel
theorem dX3_growRings_2 : decode cX3_growRings 2 = .ok (.iload_n 2, 1) := by decide +kernel
theorem dX3_growRings_3 : decode cX3_growRings 3 = .ok (.aload_n 0, 1) := by decide +kernel
theorem dX3_growRings_4 : decode cX3_growRings 4 = .ok (.getfield 22, 3) := by decide +kernel
theorem dX3_growRings_7 : decode cX3_growRings 7 = .ok (.arraylength, 1) := by decide +kernel
theorem dX3_growRings_8 : decode cX3_growRings 8 = .ok (.if_icmp .ge 58, 3) := by decide +kernel
theorem dX3_growRings_11 : decode cX3_growRings 11 = .ok (.aload_n 0, 1) := by decide +kernel
theorem dX3_growRings_12 : decode cX3_growRings 12 = .ok (.getfield 22, 3) := by decide +kernel
theorem dX3_growRings_15 : decode cX3_growRings 15 = .ok (.iload_n 2, 1) := by decide +kernel
theorem dX3_growRings_16 : decode cX3_growRings 16 = .ok (.aaload, 1) := by decide +kernel
theorem dX3_growRings_17 : decode cX3_growRings 17 = .ok (.astore_n 3, 1) := by decide +kernel
theorem dX3_growRings_18 : decode cX3_growRings 18 = .ok (.aload_n 3, 1) := by decide +kernel
theorem dX3_growRings_19 : decode cX3_growRings 19 = .ok (.ifnull 41, 3) := by decide +kernel
theorem dX3_growRings_22 : decode cX3_growRings 22 = .ok (.iload_n 1, 1) := by decide +kernel
theorem dX3_growRings_23 : decode cX3_growRings 23 = .ok (.iload_n 2, 1) := by decide +kernel
theorem dX3_growRings_24 : decode cX3_growRings 24 = .ok (.ishr, 1) := by decide +kernel
theorem dX3_growRings_25 : decode cX3_growRings 25 = .ok (.iconst 1, 1) := by decide +kernel
theorem dX3_growRings_26 : decode cX3_growRings 26 = .ok (.iand, 1) := by decide +kernel
theorem dX3_growRings_27 : decode cX3_growRings 27 = .ok (.iconst 1, 1) := by decide +kernel
theorem dX3_growRings_28 : decode cX3_growRings 28 = .ok (.if_icmp .ne 32, 3) := by decide +kernel
theorem dX3_growRings_31 : decode cX3_growRings 31 = .ok (.aload_n 3, 1) := by decide +kernel
theorem dX3_growRings_32 : decode cX3_growRings 32 = .ok (.getfield 66, 3) := by decide +kernel
theorem dX3_growRings_35 : decode cX3_growRings 35 = .ok (.bipush 15, 2) := by decide +kernel
theorem dX3_growRings_37 : decode cX3_growRings 37 = .ok (.if_icmp .ge 23, 3) := by decide +kernel
theorem dX3_growRings_40 : decode cX3_growRings 40 = .ok (.aload_n 3, 1) := by decide +kernel
theorem dX3_growRings_41 : decode cX3_growRings 41 = .ok (.dup, 1) := by decide +kernel
theorem dX3_growRings_42 : decode cX3_growRings 42 = .ok (.getfield 66, 3) := by decide +kernel
theorem dX3_growRings_45 : decode cX3_growRings 45 = .ok (.iconst 1, 1) := by decide +kernel
theorem dX3_growRings_46 : decode cX3_growRings 46 = .ok (.iadd, 1) := by decide +kernel
theorem dX3_growRings_47 : decode cX3_growRings 47 = .ok (.putfield 66, 3) := by decide +kernel
theorem dX3_growRings_50 : decode cX3_growRings 50 = .ok (.aload_n 0, 1) := by decide +kernel
theorem dX3_growRings_51 : decode cX3_growRings 51 = .ok (.dup, 1) := by decide +kernel
theorem dX3_growRings_52 : decode cX3_growRings 52 = .ok (.getfield 53, 3) := by decide +kernel
theorem dX3_growRings_55 : decode cX3_growRings 55 = .ok (.iconst 1, 1) := by decide +kernel
theorem dX3_growRings_56 : decode cX3_growRings 56 = .ok (.iadd, 1) := by decide +kernel
theorem dX3_growRings_57 : decode cX3_growRings 57 = .ok (.putfield 53, 3) := by decide +kernel
theorem dX3_growRings_60 : decode cX3_growRings 60 = .ok (.iinc 2 1, 3) := by decide +kernel
theorem dX3_growRings_63 : decode cX3_growRings 63 = .ok (.goto (-61), 3) := by decide +kernel
theorem dX3_growRings_66 : decode cX3_growRings 66 = .ok (.return_, 1) := by decide +kernel
theorem dX4_init_0 : decode cX4_init 0 = .ok (.aload_n 0, 1) := by decide +kernel
theorem dX4_init_1 : decode cX4_init 1 = .ok (.invokespecial 3, 3) := by decide +kernel
theorem dX4_init_4 : decode cX4_init 4 = .ok (.return_, 1) := by decide +kernel
theorem dX4_copyFrom_0 : decode cX4_copyFrom 0 = .ok (.aload_n 0, 1) := by decide +kernel
theorem dX4_copyFrom_1 : decode cX4_copyFrom 1 = .ok (.aload_n 1, 1) := by decide +kernel
theorem dX4_copyFrom_2 : decode cX4_copyFrom 2 = .ok (.getfield 9, 3) := by decide +kernel
theorem dX4_copyFrom_5 : decode cX4_copyFrom 5 = .ok (.putfield 9, 3) := by decide +kernel
theorem dX4_copyFrom_8 : decode cX4_copyFrom 8 = .ok (.aload_n 0, 1) := by decide +kernel
theorem dX4_copyFrom_9 : decode cX4_copyFrom 9 = .ok (.aload_n 1, 1) := by decide +kernel
theorem dX4_copyFrom_10 : decode cX4_copyFrom 10 = .ok (.getfield 15, 3) := by decide +kernel
theorem dX4_copyFrom_13 : decode cX4_copyFrom 13 = .ok (.putfield 15, 3) := by decide +kernel
theorem dX4_copyFrom_16 : decode cX4_copyFrom 16 = .ok (.aload_n 0, 1) := by decide +kernel
theorem dX4_copyFrom_17 : decode cX4_copyFrom 17 = .ok (.aload_n 1, 1) := by decide +kernel
theorem dX4_copyFrom_18 : decode cX4_copyFrom 18 = .ok (.getfield 18, 3) := by decide +kernel
theorem dX4_copyFrom_21 : decode cX4_copyFrom 21 = .ok (.putfield 18, 3) := by decide +kernel
theorem dX4_copyFrom_24 : decode cX4_copyFrom 24 = .ok (.return_, 1) := by decide +kernel
theorem dX4_holds_0 : decode cX4_holds 0 = .ok (.iload_n 1, 1) := by decide +kernel
theorem dX4_holds_1 : decode cX4_holds 1 = .ok (.aload_n 0, 1) := by decide +kernel
theorem dX4_holds_2 : decode cX4_holds 2 = .ok (.getfield 9, 3) := by decide +kernel
theorem dX4_holds_5 : decode cX4_holds 5 = .ok (.isub, 1) := by decide +kernel
theorem dX4_holds_6 : decode cX4_holds 6 = .ok (.istore_n 3, 1) := by decide +kernel
theorem dX4_holds_7 : decode cX4_holds 7 = .ok (.iload_n 2, 1) := by decide +kernel
theorem dX4_holds_8 : decode cX4_holds 8 = .ok (.aload_n 0, 1) := by decide +kernel
theorem dX4_holds_9 : decode cX4_holds 9 = .ok (.getfield 15, 3) := by decide +kernel
theorem dX4_holds_12 : decode cX4_holds 12 = .ok (.isub, 1) := by decide +kernel
theorem dX4_holds_13 : decode cX4_holds 13 = .ok (.istore 4, 2) := by decide +kernel
theorem dX4_holds_15 : decode cX4_holds 15 = .ok (.aload_n 0, 1) := by decide +kernel
theorem dX4_holds_16 : decode cX4_holds 16 = .ok (.getfield 18, 3) := by decide +kernel
theorem dX4_holds_19 : decode cX4_holds 19 = .ok (.ifCond .le 28, 3) := by decide +kernel
theorem dX4_holds_22 : decode cX4_holds 22 = .ok (.iload_n 3, 1) := by decide +kernel
theorem dX4_holds_23 : decode cX4_holds 23 = .ok (.iload_n 3, 1) := by decide +kernel
theorem dX4_holds_24 : decode cX4_holds 24 = .ok (.imul, 1) := by decide +kernel
theorem dX4_holds_25 : decode cX4_holds 25 = .ok (.iload 4, 2) := by decide +kernel
theorem dX4_holds_27 : decode cX4_holds 27 = .ok (.iload 4, 2) := by decide +kernel
theorem dX4_holds_29 : decode cX4_holds 29 = .ok (.imul, 1) := by decide +kernel
theorem dX4_holds_30 : decode cX4_holds 30 = .ok (.iadd, 1) := by decide +kernel
theorem dX4_holds_31 : decode cX4_holds 31 = .ok (.aload_n 0, 1) := by decide +kernel
theorem dX4_holds_32 : decode cX4_holds 32 = .ok (.getfield 18, 3) := by decide +kernel
theorem dX4_holds_35 : decode cX4_holds 35 = .ok (.aload_n 0, 1) := by decide +kernel
theorem dX4_holds_36 : decode cX4_holds 36 = .ok (.getfield 18, 3) := by decide +kernel
theorem dX4_holds_39 : decode cX4_holds 39 = .ok (.imul, 1) := by decide +kernel
theorem dX4_holds_40 : decode cX4_holds 40 = .ok (.if_icmp .gt 7, 3) := by decide +kernel
theorem dX4_holds_43 : decode cX4_holds 43 = .ok (.iconst 1, 1) := by decide +kernel
theorem dX4_holds_44 : decode cX4_holds 44 = .ok (.goto 4, 3) := by decide +kernel
theorem dX4_holds_47 : decode cX4_holds 47 = .ok (.iconst 0, 1) := by decide +kernel
theorem dX4_holds_48 : decode cX4_holds 48 = .ok (.ireturn, 1) := by decide +kernel
theorem dX4_pointsInside_0 : decode cX4_pointsInside 0 = .ok (.iconst 0, 1) := by decide +kernel
theorem dX4_pointsInside_1 : decode cX4_pointsInside 1 = .ok (.istore_n 1, 1) := by decide +kernel
theorem dX4_pointsInside_2 : decode cX4_pointsInside 2 = .ok (.iconst 0, 1) := by decide +kernel
theorem dX4_pointsInside_3 : decode cX4_pointsInside 3 = .ok (.istore_n 2, 1) := by decide +kernel
theorem dX4_pointsInside_4 : decode cX4_pointsInside 4 = .ok (.iload_n 2, 1) := by decide +kernel
theorem dX4_pointsInside_5 : decode cX4_pointsInside 5 = .ok (.bipush 30, 2) := by decide +kernel
theorem dX4_pointsInside_7 : decode cX4_pointsInside 7 = .ok (.if_icmp .gt 35, 3) := by decide +kernel
theorem dX4_pointsInside_10 : decode cX4_pointsInside 10 = .ok (.iconst 0, 1) := by decide +kernel
theorem dX4_pointsInside_11 : decode cX4_pointsInside 11 = .ok (.istore_n 3, 1) := by decide +kernel
theorem dX4_pointsInside_12 : decode cX4_pointsInside 12 = .ok (.iload_n 3, 1) := by decide +kernel
theorem dX4_pointsInside_13 : decode cX4_pointsInside 13 = .ok (.bipush 30, 2) := by decide +kernel
theorem dX4_pointsInside_15 : decode cX4_pointsInside 15 = .ok (.if_icmp .gt 21, 3) := by decide +kernel
theorem dX4_pointsInside_18 : decode cX4_pointsInside 18 = .ok (.aload_n 0, 1) := by decide +kernel
theorem dX4_pointsInside_19 : decode cX4_pointsInside 19 = .ok (.iload_n 2, 1) := by decide +kernel
theorem dX4_pointsInside_20 : decode cX4_pointsInside 20 = .ok (.iload_n 3, 1) := by decide +kernel
theorem dX4_pointsInside_21 : decode cX4_pointsInside 21 = .ok (.invokevirtual 21, 3) := by decide +kernel
theorem dX4_pointsInside_24 : decode cX4_pointsInside 24 = .ok (.ifCond .eq 6, 3) := by decide +kernel
theorem dX4_pointsInside_27 : decode cX4_pointsInside 27 = .ok (.iinc 1 1, 3) := by decide +kernel
theorem dX4_pointsInside_30 : decode cX4_pointsInside 30 = .ok (.iinc 3 1, 3) := by decide +kernel
theorem dX4_pointsInside_33 : decode cX4_pointsInside 33 = .ok (.goto (-21), 3) := by decide +kernel
theorem dX4_pointsInside_36 : decode cX4_pointsInside 36 = .ok (.iinc 2 1, 3) := by decide +kernel
theorem dX4_pointsInside_39 : decode cX4_pointsInside 39 = .ok (.goto (-35), 3) := by decide +kernel
theorem dX4_pointsInside_42 : decode cX4_pointsInside 42 = .ok (.iload_n 1, 1) := by decide +kernel
theorem dX4_pointsInside_43 : decode cX4_pointsInside 43 = .ok (.ireturn, 1) := by decide +kernel
theorem dX5_init_0 : decode cX5_init 0 = .ok (.aload_n 0, 1) := by decide +kernel
theorem dX5_init_1 : decode cX5_init 1 = .ok (.invokespecial 3, 3) := by decide +kernel
theorem dX5_init_4 : decode cX5_init 4 = .ok (.return_, 1) := by decide +kernel
theorem dX5_play_0 : decode cX5_play 0 = .ok (.aload_n 0, 1) := by decide +kernel
theorem dX5_play_1 : decode cX5_play 1 = .ok (.iconst 0, 1) := by decide +kernel
theorem dX5_play_2 : decode cX5_play 2 = .ok (.putfield 9, 3) := by decide +kernel
theorem dX5_play_5 : decode cX5_play 5 = .ok (.aload_n 0, 1) := by decide +kernel
theorem dX5_play_6 : decode cX5_play 6 = .ok (.iconst 0, 1) := by decide +kernel
theorem dX5_play_7 : decode cX5_play 7 = .ok (.putfield 15, 3) := by decide +kernel
theorem dX5_play_10 : decode cX5_play 10 = .ok (.aload_n 0, 1) := by decide +kernel
theorem dX5_play_11 : decode cX5_play 11 = .ok (.iconst 0, 1) := by decide +kernel
theorem dX5_play_12 : decode cX5_play 12 = .ok (.putfield 18, 3) := by decide +kernel
theorem dX5_play_15 : decode cX5_play 15 = .ok (.aload_n 0, 1) := by decide +kernel
theorem dX5_play_16 : decode cX5_play 16 = .ok (.iconst 0, 1) := by decide +kernel
theorem dX5_play_17 : decode cX5_play 17 = .ok (.putfield 21, 3) := by decide +kernel
theorem dX5_play_20 : decode cX5_play 20 = .ok (.aload_n 0, 1) := by decide +kernel
theorem dX5_play_21 : decode cX5_play 21 = .ok (.iload 4, 2) := by decide +kernel
theorem dX5_play_23 : decode cX5_play 23 = .ok (.putfield 24, 3) := by decide +kernel
theorem dX5_play_26 : decode cX5_play 26 = .ok (.aload_n 0, 1) := by decide +kernel
theorem dX5_play_27 : decode cX5_play 27 = .ok (.iload_n 3, 1) := by decide +kernel
theorem dX5_play_28 : decode cX5_play 28 = .ok (.invokestatic 27, 3) := by decide +kernel
theorem dX5_play_31 : decode cX5_play 31 = .ok (.putfield 31, 3) := by decide +kernel
theorem dX5_play_34 : decode cX5_play 34 = .ok (.aload_n 0, 1) := by decide +kernel
theorem dX5_play_35 : decode cX5_play 35 = .ok (.iload_n 3, 1) := by decide +kernel
theorem dX5_play_36 : decode cX5_play 36 = .ok (.invokestatic 34, 3) := by decide +kernel
theorem dX5_play_39 : decode cX5_play 39 = .ok (.putfield 37, 3) := by decide +kernel
theorem dX5_play_42 : decode cX5_play 42 = .ok (.aload_n 1, 1) := by decide +kernel
theorem dX5_play_43 : decode cX5_play 43 = .ok (.iload_n 2, 1) := by decide +kernel
theorem dX5_play_44 : decode cX5_play 44 = .ok (.invokevirtual 40, 3) := by decide +kernel
theorem dX5_play_47 : decode cX5_play 47 = .ok (.astore 5, 2) := by decide +kernel
theorem dX5_play_49 : decode cX5_play 49 = .ok (.aload 5, 2) := by decide +kernel
theorem dX5_play_51 : decode cX5_play 51 = .ok (.ifnonnull 4, 3) := by decide +kernel
theorem dX5_play_54 : decode cX5_play 54 = .ok (.return_, 1) := by decide +kernel
theorem dX5_play_55 : decode cX5_play 55 = .ok (.aload_n 1, 1) := by decide +kernel
theorem dX5_play_56 : decode cX5_play 56 = .ok (.invokevirtual 46, 3) := by decide +kernel
theorem dX5_play_59 : decode cX5_play 59 = .ok (.aload_n 0, 1) := by decide +kernel
theorem dX5_play_60 : decode cX5_play 60 = .ok (.aload_n 1, 1) := by decide +kernel
theorem dX5_play_61 : decode cX5_play 61 = .ok (.aload 5, 2) := by decide +kernel
theorem dX5_play_63 : decode cX5_play 63 = .ok (.invokevirtual 49, 3) := by decide +kernel
theorem dX5_play_66 : decode cX5_play 66 = .ok (.aload_n 0, 1) := by decide +kernel
theorem dX5_play_67 : decode cX5_play 67 = .ok (.aload_n 1, 1) := by decide +kernel
theorem dX5_play_68 : decode cX5_play 68 = .ok (.aload 5, 2) := by decide +kernel
theorem dX5_play_70 : decode cX5_play 70 = .ok (.getfield 53, 3) := by decide +kernel
theorem dX5_play_73 : decode cX5_play 73 = .ok (.invokevirtual 58, 3) := by decide +kernel
theorem dX5_play_76 : decode cX5_play 76 = .ok (.aload_n 1, 1) := by decide +kernel
theorem dX5_play_77 : decode cX5_play 77 = .ok (.dup, 1) := by decide +kernel
theorem dX5_play_78 : decode cX5_play 78 = .ok (.getfield 62, 3) := by decide +kernel
theorem dX5_play_81 : decode cX5_play 81 = .ok (.iconst 1, 1) := by decide +kernel
theorem dX5_play_82 : decode cX5_play 82 = .ok (.iadd, 1) := by decide +kernel
theorem dX5_play_83 : decode cX5_play 83 = .ok (.putfield 62, 3) := by decide +kernel
theorem dX5_play_86 : decode cX5_play 86 = .ok (.aload_n 1, 1) := by decide +kernel
theorem dX5_play_87 : decode cX5_play 87 = .ok (.dup, 1) := by decide +kernel
theorem dX5_play_88 : decode cX5_play 88 = .ok (.getfield 65, 3) := by decide +kernel
theorem dX5_play_91 : decode cX5_play 91 = .ok (.aload_n 0, 1) := by decide +kernel
theorem dX5_play_92 : decode cX5_play 92 = .ok (.getfield 18, 3) := by decide +kernel
theorem dX5_play_95 : decode cX5_play 95 = .ok (.iadd, 1) := by decide +kernel
theorem dX5_play_96 : decode cX5_play 96 = .ok (.putfield 65, 3) := by decide +kernel
theorem dX5_play_99 : decode cX5_play 99 = .ok (.aload_n 1, 1) := by decide +kernel
theorem dX5_play_100 : decode cX5_play 100 = .ok (.dup, 1) := by decide +kernel
theorem dX5_play_101 : decode cX5_play 101 = .ok (.getfield 66, 3) := by decide +kernel
theorem dX5_play_104 : decode cX5_play 104 = .ok (.aload_n 0, 1) := by decide +kernel
theorem dX5_play_105 : decode cX5_play 105 = .ok (.getfield 21, 3) := by decide +kernel
theorem dX5_play_108 : decode cX5_play 108 = .ok (.iadd, 1) := by decide +kernel
theorem dX5_play_109 : decode cX5_play 109 = .ok (.putfield 66, 3) := by decide +kernel
theorem dX5_play_112 : decode cX5_play 112 = .ok (.aload_n 1, 1) := by decide +kernel
theorem dX5_play_113 : decode cX5_play 113 = .ok (.dup, 1) := by decide +kernel
theorem dX5_play_114 : decode cX5_play 114 = .ok (.getfield 67, 3) := by decide +kernel
theorem dX5_play_117 : decode cX5_play 117 = .ok (.aload_n 0, 1) := by decide +kernel
theorem dX5_play_118 : decode cX5_play 118 = .ok (.getfield 9, 3) := by decide +kernel
theorem dX5_play_121 : decode cX5_play 121 = .ok (.iadd, 1) := by decide +kernel
theorem dX5_play_122 : decode cX5_play 122 = .ok (.putfield 67, 3) := by decide +kernel
theorem dX5_play_125 : decode cX5_play 125 = .ok (.aload_n 0, 1) := by decide +kernel
theorem dX5_play_126 : decode cX5_play 126 = .ok (.getfield 9, 3) := by decide +kernel
theorem dX5_play_129 : decode cX5_play 129 = .ok (.ifCond .ne 7, 3) := by decide +kernel
theorem dX5_play_132 : decode cX5_play 132 = .ok (.aload_n 1, 1) := by decide +kernel
theorem dX5_play_133 : decode cX5_play 133 = .ok (.invokevirtual 68, 3) := by decide +kernel
theorem dX5_play_136 : decode cX5_play 136 = .ok (.return_, 1) := by decide +kernel
theorem dX5_rollAll_0 : decode cX5_rollAll 0 = .ok (.aload_n 2, 1) := by decide +kernel
theorem dX5_rollAll_1 : decode cX5_rollAll 1 = .ok (.astore_n 3, 1) := by decide +kernel
theorem dX5_rollAll_2 : decode cX5_rollAll 2 = .ok (.iconst 0, 1) := by decide +kernel
theorem dX5_rollAll_3 : decode cX5_rollAll 3 = .ok (.istore 4, 2) := by decide +kernel
theorem dX5_rollAll_5 : decode cX5_rollAll 5 = .ok (.iload 4, 2) := by decide +kernel
theorem dX5_rollAll_7 : decode cX5_rollAll 7 = .ok (.bipush 60, 2) := by decide +kernel
theorem dX5_rollAll_9 : decode cX5_rollAll 9 = .ok (.if_icmp .ge 61, 3) := by decide +kernel
theorem dX5_rollAll_12 : decode cX5_rollAll 12 = .ok (.aload_n 0, 1) := by decide +kernel
theorem dX5_rollAll_13 : decode cX5_rollAll 13 = .ok (.aload_n 1, 1) := by decide +kernel
theorem dX5_rollAll_14 : decode cX5_rollAll 14 = .ok (.aload_n 3, 1) := by decide +kernel
theorem dX5_rollAll_15 : decode cX5_rollAll 15 = .ok (.invokevirtual 71, 3) := by decide +kernel
theorem dX5_rollAll_18 : decode cX5_rollAll 18 = .ok (.astore 5, 2) := by decide +kernel
theorem dX5_rollAll_20 : decode cX5_rollAll 20 = .ok (.aload 5, 2) := by decide +kernel
theorem dX5_rollAll_22 : decode cX5_rollAll 22 = .ok (.ifnonnull 6, 3) := by decide +kernel
theorem dX5_rollAll_25 : decode cX5_rollAll 25 = .ok (.goto 45, 3) := by decide +kernel
theorem dX5_rollAll_28 : decode cX5_rollAll 28 = .ok (.aload_n 0, 1) := by decide +kernel
theorem dX5_rollAll_29 : decode cX5_rollAll 29 = .ok (.dup, 1) := by decide +kernel
theorem dX5_rollAll_30 : decode cX5_rollAll 30 = .ok (.getfield 18, 3) := by decide +kernel
theorem dX5_rollAll_33 : decode cX5_rollAll 33 = .ok (.iconst 1, 1) := by decide +kernel
theorem dX5_rollAll_34 : decode cX5_rollAll 34 = .ok (.iadd, 1) := by decide +kernel
theorem dX5_rollAll_35 : decode cX5_rollAll 35 = .ok (.putfield 18, 3) := by decide +kernel
theorem dX5_rollAll_38 : decode cX5_rollAll 38 = .ok (.aload 5, 2) := by decide +kernel
theorem dX5_rollAll_40 : decode cX5_rollAll 40 = .ok (.iconst 1, 1) := by decide +kernel
theorem dX5_rollAll_41 : decode cX5_rollAll 41 = .ok (.putfield 75, 3) := by decide +kernel
theorem dX5_rollAll_44 : decode cX5_rollAll 44 = .ok (.aload_n 0, 1) := by decide +kernel
theorem dX5_rollAll_45 : decode cX5_rollAll 45 = .ok (.aload_n 0, 1) := by decide +kernel
theorem dX5_rollAll_46 : decode cX5_rollAll 46 = .ok (.aload_n 3, 1) := by decide +kernel
theorem dX5_rollAll_47 : decode cX5_rollAll 47 = .ok (.getfield 79, 3) := by decide +kernel
theorem dX5_rollAll_50 : decode cX5_rollAll 50 = .ok (.aload 5, 2) := by decide +kernel
theorem dX5_rollAll_52 : decode cX5_rollAll 52 = .ok (.getfield 79, 3) := by decide +kernel
theorem dX5_rollAll_55 : decode cX5_rollAll 55 = .ok (.invokevirtual 82, 3) := by decide +kernel
theorem dX5_rollAll_58 : decode cX5_rollAll 58 = .ok (.putfield 24, 3) := by decide +kernel
theorem dX5_rollAll_61 : decode cX5_rollAll 61 = .ok (.aload 5, 2) := by decide +kernel
theorem dX5_rollAll_63 : decode cX5_rollAll 63 = .ok (.astore_n 3, 1) := by decide +kernel
theorem dX5_rollAll_64 : decode cX5_rollAll 64 = .ok (.iinc 4 1, 3) := by decide +kernel
theorem dX5_rollAll_67 : decode cX5_rollAll 67 = .ok (.goto (-62), 3) := by decide +kernel
theorem dX5_rollAll_70 : decode cX5_rollAll 70 = .ok (.aload_n 0, 1) := by decide +kernel
theorem dX5_rollAll_71 : decode cX5_rollAll 71 = .ok (.aload_n 3, 1) := by decide +kernel
theorem dX5_rollAll_72 : decode cX5_rollAll 72 = .ok (.getfield 86, 3) := by decide +kernel
theorem dX5_rollAll_75 : decode cX5_rollAll 75 = .ok (.putfield 89, 3) := by decide +kernel
theorem dX5_rollAll_78 : decode cX5_rollAll 78 = .ok (.aload_n 0, 1) := by decide +kernel
theorem dX5_rollAll_79 : decode cX5_rollAll 79 = .ok (.aload_n 3, 1) := by decide +kernel
theorem dX5_rollAll_80 : decode cX5_rollAll 80 = .ok (.getfield 92, 3) := by decide +kernel
theorem dX5_rollAll_83 : decode cX5_rollAll 83 = .ok (.putfield 95, 3) := by decide +kernel
theorem dX5_rollAll_86 : decode cX5_rollAll 86 = .ok (.aload_n 0, 1) := by decide +kernel
theorem dX5_rollAll_87 : decode cX5_rollAll 87 = .ok (.aload_n 3, 1) := by decide +kernel
theorem dX5_rollAll_88 : decode cX5_rollAll 88 = .ok (.getfield 98, 3) := by decide +kernel
theorem dX5_rollAll_91 : decode cX5_rollAll 91 = .ok (.putfield 101, 3) := by decide +kernel
theorem dX5_rollAll_94 : decode cX5_rollAll 94 = .ok (.return_, 1) := by decide +kernel
theorem dX5_rollToHit_0 : decode cX5_rollToHit 0 = .ok (.aload_n 1, 1) := by decide +kernel
theorem dX5_rollToHit_1 : decode cX5_rollToHit 1 = .ok (.aload_n 2, 1) := by decide +kernel
theorem dX5_rollToHit_2 : decode cX5_rollToHit 2 = .ok (.getfield 92, 3) := by decide +kernel
theorem dX5_rollToHit_5 : decode cX5_rollToHit 5 = .ok (.aload_n 2, 1) := by decide +kernel
theorem dX5_rollToHit_6 : decode cX5_rollToHit 6 = .ok (.getfield 98, 3) := by decide +kernel
theorem dX5_rollToHit_9 : decode cX5_rollToHit 9 = .ok (.invokevirtual 104, 3) := by decide +kernel
theorem dX5_rollToHit_12 : decode cX5_rollToHit 12 = .ok (.istore_n 3, 1) := by decide +kernel
theorem dX5_rollToHit_13 : decode cX5_rollToHit 13 = .ok (.iconst 0, 1) := by decide +kernel
theorem dX5_rollToHit_14 : decode cX5_rollToHit 14 = .ok (.istore 4, 2) := by decide +kernel
theorem dX5_rollToHit_16 : decode cX5_rollToHit 16 = .ok (.iload 4, 2) := by decide +kernel
theorem dX5_rollToHit_18 : decode cX5_rollToHit 18 = .ok (.bipush 40, 2) := by decide +kernel
theorem dX5_rollToHit_20 : decode cX5_rollToHit 20 = .ok (.if_icmp .ge 109, 3) := by decide +kernel
theorem dX5_rollToHit_23 : decode cX5_rollToHit 23 = .ok (.aload_n 0, 1) := by decide +kernel
theorem dX5_rollToHit_24 : decode cX5_rollToHit 24 = .ok (.getfield 24, 3) := by decide +kernel
theorem dX5_rollToHit_27 : decode cX5_rollToHit 27 = .ok (.iconst 1, 1) := by decide +kernel
theorem dX5_rollToHit_28 : decode cX5_rollToHit 28 = .ok (.if_icmp .lt 101, 3) := by decide +kernel
theorem dX5_rollToHit_31 : decode cX5_rollToHit 31 = .ok (.aload_n 0, 1) := by decide +kernel
theorem dX5_rollToHit_32 : decode cX5_rollToHit 32 = .ok (.aload_n 2, 1) := by decide +kernel
theorem dX5_rollToHit_33 : decode cX5_rollToHit 33 = .ok (.invokevirtual 107, 3) := by decide +kernel
theorem dX5_rollToHit_36 : decode cX5_rollToHit 36 = .ok (.aload_n 2, 1) := by decide +kernel
theorem dX5_rollToHit_37 : decode cX5_rollToHit 37 = .ok (.getfield 92, 3) := by decide +kernel
theorem dX5_rollToHit_40 : decode cX5_rollToHit 40 = .ok (.aload_n 0, 1) := by decide +kernel
theorem dX5_rollToHit_41 : decode cX5_rollToHit 41 = .ok (.getfield 31, 3) := by decide +kernel
theorem dX5_rollToHit_44 : decode cX5_rollToHit 44 = .ok (.iadd, 1) := by decide +kernel
theorem dX5_rollToHit_45 : decode cX5_rollToHit 45 = .ok (.istore 5, 2) := by decide +kernel
theorem dX5_rollToHit_47 : decode cX5_rollToHit 47 = .ok (.aload_n 2, 1) := by decide +kernel
theorem dX5_rollToHit_48 : decode cX5_rollToHit 48 = .ok (.getfield 98, 3) := by decide +kernel
theorem dX5_rollToHit_51 : decode cX5_rollToHit 51 = .ok (.aload_n 0, 1) := by decide +kernel
theorem dX5_rollToHit_52 : decode cX5_rollToHit 52 = .ok (.getfield 37, 3) := by decide +kernel
theorem dX5_rollToHit_55 : decode cX5_rollToHit 55 = .ok (.iadd, 1) := by decide +kernel
theorem dX5_rollToHit_56 : decode cX5_rollToHit 56 = .ok (.istore 6, 2) := by decide +kernel
theorem dX5_rollToHit_58 : decode cX5_rollToHit 58 = .ok (.aload_n 1, 1) := by decide +kernel
theorem dX5_rollToHit_59 : decode cX5_rollToHit 59 = .ok (.iload 5, 2) := by decide +kernel
theorem dX5_rollToHit_61 : decode cX5_rollToHit 61 = .ok (.iload 6, 2) := by decide +kernel
theorem dX5_rollToHit_63 : decode cX5_rollToHit 63 = .ok (.invokevirtual 111, 3) := by decide +kernel
theorem dX5_rollToHit_66 : decode cX5_rollToHit 66 = .ok (.astore 7, 2) := by decide +kernel
theorem dX5_rollToHit_68 : decode cX5_rollToHit 68 = .ok (.aload 7, 2) := by decide +kernel
theorem dX5_rollToHit_70 : decode cX5_rollToHit 70 = .ok (.ifnull 6, 3) := by decide +kernel
theorem dX5_rollToHit_73 : decode cX5_rollToHit 73 = .ok (.aload 7, 2) := by decide +kernel
theorem dX5_rollToHit_75 : decode cX5_rollToHit 75 = .ok (.areturn, 1) := by decide +kernel
theorem dX5_rollToHit_76 : decode cX5_rollToHit 76 = .ok (.aload_n 1, 1) := by decide +kernel
theorem dX5_rollToHit_77 : decode cX5_rollToHit 77 = .ok (.iload 5, 2) := by decide +kernel
theorem dX5_rollToHit_79 : decode cX5_rollToHit 79 = .ok (.iload 6, 2) := by decide +kernel
theorem dX5_rollToHit_81 : decode cX5_rollToHit 81 = .ok (.invokevirtual 104, 3) := by decide +kernel
theorem dX5_rollToHit_84 : decode cX5_rollToHit 84 = .ok (.istore 8, 2) := by decide +kernel
theorem dX5_rollToHit_86 : decode cX5_rollToHit 86 = .ok (.aload_n 0, 1) := by decide +kernel
theorem dX5_rollToHit_87 : decode cX5_rollToHit 87 = .ok (.iconst 0, 1) := by decide +kernel
theorem dX5_rollToHit_88 : decode cX5_rollToHit 88 = .ok (.aload_n 0, 1) := by decide +kernel
theorem dX5_rollToHit_89 : decode cX5_rollToHit 89 = .ok (.getfield 24, 3) := by decide +kernel
theorem dX5_rollToHit_92 : decode cX5_rollToHit 92 = .ok (.iconst 1, 1) := by decide +kernel
theorem dX5_rollToHit_93 : decode cX5_rollToHit 93 = .ok (.isub, 1) := by decide +kernel
theorem dX5_rollToHit_94 : decode cX5_rollToHit 94 = .ok (.iload_n 3, 1) := by decide +kernel
theorem dX5_rollToHit_95 : decode cX5_rollToHit 95 = .ok (.iload 8, 2) := by decide +kernel
theorem dX5_rollToHit_97 : decode cX5_rollToHit 97 = .ok (.ixor, 1) := by decide +kernel
theorem dX5_rollToHit_98 : decode cX5_rollToHit 98 = .ok (.invokestatic 115, 3) := by decide +kernel
theorem dX5_rollToHit_101 : decode cX5_rollToHit 101 = .ok (.isub, 1) := by decide +kernel
theorem dX5_rollToHit_102 : decode cX5_rollToHit 102 = .ok (.invokestatic 120, 3) := by decide +kernel
theorem dX5_rollToHit_105 : decode cX5_rollToHit 105 = .ok (.putfield 24, 3) := by decide +kernel
theorem dX5_rollToHit_108 : decode cX5_rollToHit 108 = .ok (.iload 8, 2) := by decide +kernel
theorem dX5_rollToHit_110 : decode cX5_rollToHit 110 = .ok (.istore_n 3, 1) := by decide +kernel
theorem dX5_rollToHit_111 : decode cX5_rollToHit 111 = .ok (.aload_n 2, 1) := by decide +kernel
theorem dX5_rollToHit_112 : decode cX5_rollToHit 112 = .ok (.iload 5, 2) := by decide +kernel
theorem dX5_rollToHit_114 : decode cX5_rollToHit 114 = .ok (.putfield 92, 3) := by decide +kernel
theorem dX5_rollToHit_117 : decode cX5_rollToHit 117 = .ok (.aload_n 2, 1) := by decide +kernel
theorem dX5_rollToHit_118 : decode cX5_rollToHit 118 = .ok (.iload 6, 2) := by decide +kernel
theorem dX5_rollToHit_120 : decode cX5_rollToHit 120 = .ok (.putfield 98, 3) := by decide +kernel
theorem dX5_rollToHit_123 : decode cX5_rollToHit 123 = .ok (.iinc 4 1, 3) := by decide +kernel
theorem dX5_rollToHit_126 : decode cX5_rollToHit 126 = .ok (.goto (-110), 3) := by decide +kernel
theorem dX5_rollToHit_129 : decode cX5_rollToHit 129 = .ok (.aconst_null, 1) := by decide +kernel
theorem dX5_rollToHit_130 : decode cX5_rollToHit 130 = .ok (.areturn, 1) := by decide +kernel
theorem dX5_turnAtWalls_0 : decode cX5_turnAtWalls 0 = .ok (.aload_n 1, 1) := by decide +kernel
theorem dX5_turnAtWalls_1 : decode cX5_turnAtWalls 1 = .ok (.getfield 92, 3) := by decide +kernel
theorem dX5_turnAtWalls_4 : decode cX5_turnAtWalls 4 = .ok (.aload_n 0, 1) := by decide +kernel
theorem dX5_turnAtWalls_5 : decode cX5_turnAtWalls 5 = .ok (.getfield 31, 3) := by decide +kernel
theorem dX5_turnAtWalls_8 : decode cX5_turnAtWalls 8 = .ok (.iadd, 1) := by decide +kernel
theorem dX5_turnAtWalls_9 : decode cX5_turnAtWalls 9 = .ok (.ifCond .lt 17, 3) := by decide +kernel
theorem dX5_turnAtWalls_12 : decode cX5_turnAtWalls 12 = .ok (.aload_n 1, 1) := by decide +kernel
theorem dX5_turnAtWalls_13 : decode cX5_turnAtWalls 13 = .ok (.getfield 92, 3) := by decide +kernel
theorem dX5_turnAtWalls_16 : decode cX5_turnAtWalls 16 = .ok (.aload_n 0, 1) := by decide +kernel
theorem dX5_turnAtWalls_17 : decode cX5_turnAtWalls 17 = .ok (.getfield 31, 3) := by decide +kernel
theorem dX5_turnAtWalls_20 : decode cX5_turnAtWalls 20 = .ok (.iadd, 1) := by decide +kernel
theorem dX5_turnAtWalls_21 : decode cX5_turnAtWalls 21 = .ok (.bipush 30, 2) := by decide +kernel
theorem dX5_turnAtWalls_23 : decode cX5_turnAtWalls 23 = .ok (.if_icmp .le 22, 3) := by decide +kernel
theorem dX5_turnAtWalls_26 : decode cX5_turnAtWalls 26 = .ok (.aload_n 0, 1) := by decide +kernel
theorem dX5_turnAtWalls_27 : decode cX5_turnAtWalls 27 = .ok (.aload_n 0, 1) := by decide +kernel
theorem dX5_turnAtWalls_28 : decode cX5_turnAtWalls 28 = .ok (.getfield 31, 3) := by decide +kernel
theorem dX5_turnAtWalls_31 : decode cX5_turnAtWalls 31 = .ok (.ineg, 1) := by decide +kernel
theorem dX5_turnAtWalls_32 : decode cX5_turnAtWalls 32 = .ok (.putfield 31, 3) := by decide +kernel
theorem dX5_turnAtWalls_35 : decode cX5_turnAtWalls 35 = .ok (.aload_n 0, 1) := by decide +kernel
theorem dX5_turnAtWalls_36 : decode cX5_turnAtWalls 36 = .ok (.dup, 1) := by decide +kernel
theorem dX5_turnAtWalls_37 : decode cX5_turnAtWalls 37 = .ok (.getfield 21, 3) := by decide +kernel
theorem dX5_turnAtWalls_40 : decode cX5_turnAtWalls 40 = .ok (.iconst 1, 1) := by decide +kernel
theorem dX5_turnAtWalls_41 : decode cX5_turnAtWalls 41 = .ok (.iadd, 1) := by decide +kernel
theorem dX5_turnAtWalls_42 : decode cX5_turnAtWalls 42 = .ok (.putfield 21, 3) := by decide +kernel
theorem dX5_turnAtWalls_45 : decode cX5_turnAtWalls 45 = .ok (.aload_n 1, 1) := by decide +kernel
theorem dX5_turnAtWalls_46 : decode cX5_turnAtWalls 46 = .ok (.getfield 98, 3) := by decide +kernel
theorem dX5_turnAtWalls_49 : decode cX5_turnAtWalls 49 = .ok (.aload_n 0, 1) := by decide +kernel
theorem dX5_turnAtWalls_50 : decode cX5_turnAtWalls 50 = .ok (.getfield 37, 3) := by decide +kernel
theorem dX5_turnAtWalls_53 : decode cX5_turnAtWalls 53 = .ok (.iadd, 1) := by decide +kernel
theorem dX5_turnAtWalls_54 : decode cX5_turnAtWalls 54 = .ok (.ifCond .lt 17, 3) := by decide +kernel
theorem dX5_turnAtWalls_57 : decode cX5_turnAtWalls 57 = .ok (.aload_n 1, 1) := by decide +kernel
theorem dX5_turnAtWalls_58 : decode cX5_turnAtWalls 58 = .ok (.getfield 98, 3) := by decide +kernel
theorem dX5_turnAtWalls_61 : decode cX5_turnAtWalls 61 = .ok (.aload_n 0, 1) := by decide +kernel
theorem dX5_turnAtWalls_62 : decode cX5_turnAtWalls 62 = .ok (.getfield 37, 3) := by decide +kernel
theorem dX5_turnAtWalls_65 : decode cX5_turnAtWalls 65 = .ok (.iadd, 1) := by decide +kernel
theorem dX5_turnAtWalls_66 : decode cX5_turnAtWalls 66 = .ok (.bipush 30, 2) := by decide +kernel
theorem dX5_turnAtWalls_68 : decode cX5_turnAtWalls 68 = .ok (.if_icmp .le 22, 3) := by decide +kernel
theorem dX5_turnAtWalls_71 : decode cX5_turnAtWalls 71 = .ok (.aload_n 0, 1) := by decide +kernel
theorem dX5_turnAtWalls_72 : decode cX5_turnAtWalls 72 = .ok (.aload_n 0, 1) := by decide +kernel
theorem dX5_turnAtWalls_73 : decode cX5_turnAtWalls 73 = .ok (.getfield 37, 3) := by decide +kernel
theorem dX5_turnAtWalls_76 : decode cX5_turnAtWalls 76 = .ok (.ineg, 1) := by decide +kernel
theorem dX5_turnAtWalls_77 : decode cX5_turnAtWalls 77 = .ok (.putfield 37, 3) := by decide +kernel
theorem dX5_turnAtWalls_80 : decode cX5_turnAtWalls 80 = .ok (.aload_n 0, 1) := by decide +kernel
theorem dX5_turnAtWalls_81 : decode cX5_turnAtWalls 81 = .ok (.dup, 1) := by decide +kernel
theorem dX5_turnAtWalls_82 : decode cX5_turnAtWalls 82 = .ok (.getfield 21, 3) := by decide +kernel
theorem dX5_turnAtWalls_85 : decode cX5_turnAtWalls 85 = .ok (.iconst 1, 1) := by decide +kernel
theorem dX5_turnAtWalls_86 : decode cX5_turnAtWalls 86 = .ok (.iadd, 1) := by decide +kernel
theorem dX5_turnAtWalls_87 : decode cX5_turnAtWalls 87 = .ok (.putfield 21, 3) := by decide +kernel
theorem dX5_turnAtWalls_90 : decode cX5_turnAtWalls 90 = .ok (.return_, 1) := by decide +kernel
theorem dX5_passedOn_0 : decode cX5_passedOn 0 = .ok (.iload_n 2, 1) := by decide +kernel
theorem dX5_passedOn_1 : decode cX5_passedOn 1 = .ok (.iconst 1, 1) := by decide +kernel
theorem dX5_passedOn_2 : decode cX5_passedOn 2 = .ok (.if_icmp .ge 7, 3) := by decide +kernel
theorem dX5_passedOn_5 : decode cX5_passedOn 5 = .ok (.iconst 0, 1) := by decide +kernel
theorem dX5_passedOn_6 : decode cX5_passedOn 6 = .ok (.goto 16, 3) := by decide +kernel
theorem dX5_passedOn_9 : decode cX5_passedOn 9 = .ok (.bipush 40, 2) := by decide +kernel
theorem dX5_passedOn_11 : decode cX5_passedOn 11 = .ok (.aload_n 0, 1) := by decide +kernel
theorem dX5_passedOn_12 : decode cX5_passedOn 12 = .ok (.getfield 24, 3) := by decide +kernel
theorem dX5_passedOn_15 : decode cX5_passedOn 15 = .ok (.iload_n 1, 1) := by decide +kernel
theorem dX5_passedOn_16 : decode cX5_passedOn 16 = .ok (.imul, 1) := by decide +kernel
theorem dX5_passedOn_17 : decode cX5_passedOn 17 = .ok (.iload_n 2, 1) := by decide +kernel
theorem dX5_passedOn_18 : decode cX5_passedOn 18 = .ok (.idiv, 1) := by decide +kernel
theorem dX5_passedOn_19 : decode cX5_passedOn 19 = .ok (.invokestatic 125, 3) := by decide +kernel
theorem dX5_passedOn_22 : decode cX5_passedOn 22 = .ok (.ireturn, 1) := by decide +kernel
theorem dX5_takeWinnings_0 : decode cX5_takeWinnings 0 = .ok (.iconst 0, 1) := by decide +kernel
theorem dX5_takeWinnings_1 : decode cX5_takeWinnings 1 = .ok (.istore_n 3, 1) := by decide +kernel
theorem dX5_takeWinnings_2 : decode cX5_takeWinnings 2 = .ok (.iconst 0, 1) := by decide +kernel
theorem dX5_takeWinnings_3 : decode cX5_takeWinnings 3 = .ok (.istore 4, 2) := by decide +kernel
theorem dX5_takeWinnings_5 : decode cX5_takeWinnings 5 = .ok (.iload 4, 2) := by decide +kernel
theorem dX5_takeWinnings_7 : decode cX5_takeWinnings 7 = .ok (.aload_n 1, 1) := by decide +kernel
theorem dX5_takeWinnings_8 : decode cX5_takeWinnings 8 = .ok (.getfield 128, 3) := by decide +kernel
theorem dX5_takeWinnings_11 : decode cX5_takeWinnings 11 = .ok (.if_icmp .ge 76, 3) := by decide +kernel
theorem dX5_takeWinnings_14 : decode cX5_takeWinnings 14 = .ok (.aload_n 1, 1) := by decide +kernel
theorem dX5_takeWinnings_15 : decode cX5_takeWinnings 15 = .ok (.iload 4, 2) := by decide +kernel
theorem dX5_takeWinnings_17 : decode cX5_takeWinnings 17 = .ok (.invokevirtual 40, 3) := by decide +kernel
theorem dX5_takeWinnings_20 : decode cX5_takeWinnings 20 = .ok (.astore 5, 2) := by decide +kernel
theorem dX5_takeWinnings_22 : decode cX5_takeWinnings 22 = .ok (.aload 5, 2) := by decide +kernel
theorem dX5_takeWinnings_24 : decode cX5_takeWinnings 24 = .ok (.ifnull 57, 3) := by decide +kernel
theorem dX5_takeWinnings_27 : decode cX5_takeWinnings 27 = .ok (.aload_n 1, 1) := by decide +kernel
theorem dX5_takeWinnings_28 : decode cX5_takeWinnings 28 = .ok (.aload 5, 2) := by decide +kernel
theorem dX5_takeWinnings_30 : decode cX5_takeWinnings 30 = .ok (.iload_n 2, 1) := by decide +kernel
theorem dX5_takeWinnings_31 : decode cX5_takeWinnings 31 = .ok (.invokevirtual 131, 3) := by decide +kernel
theorem dX5_takeWinnings_34 : decode cX5_takeWinnings 34 = .ok (.ifCond .eq 47, 3) := by decide +kernel
theorem dX5_takeWinnings_37 : decode cX5_takeWinnings 37 = .ok (.aload 5, 2) := by decide +kernel
theorem dX5_takeWinnings_39 : decode cX5_takeWinnings 39 = .ok (.iconst 0, 1) := by decide +kernel
theorem dX5_takeWinnings_40 : decode cX5_takeWinnings 40 = .ok (.putfield 135, 3) := by decide +kernel
theorem dX5_takeWinnings_43 : decode cX5_takeWinnings 43 = .ok (.aload 5, 2) := by decide +kernel
theorem dX5_takeWinnings_45 : decode cX5_takeWinnings 45 = .ok (.iload_n 2, 1) := by decide +kernel
theorem dX5_takeWinnings_46 : decode cX5_takeWinnings 46 = .ok (.putfield 138, 3) := by decide +kernel
theorem dX5_takeWinnings_49 : decode cX5_takeWinnings 49 = .ok (.aload_n 0, 1) := by decide +kernel
theorem dX5_takeWinnings_50 : decode cX5_takeWinnings 50 = .ok (.dup, 1) := by decide +kernel
theorem dX5_takeWinnings_51 : decode cX5_takeWinnings 51 = .ok (.getfield 9, 3) := by decide +kernel
theorem dX5_takeWinnings_54 : decode cX5_takeWinnings 54 = .ok (.iconst 1, 1) := by decide +kernel
theorem dX5_takeWinnings_55 : decode cX5_takeWinnings 55 = .ok (.iadd, 1) := by decide +kernel
theorem dX5_takeWinnings_56 : decode cX5_takeWinnings 56 = .ok (.putfield 9, 3) := by decide +kernel
theorem dX5_takeWinnings_59 : decode cX5_takeWinnings 59 = .ok (.aload_n 0, 1) := by decide +kernel
theorem dX5_takeWinnings_60 : decode cX5_takeWinnings 60 = .ok (.dup, 1) := by decide +kernel
theorem dX5_takeWinnings_61 : decode cX5_takeWinnings 61 = .ok (.getfield 15, 3) := by decide +kernel
theorem dX5_takeWinnings_64 : decode cX5_takeWinnings 64 = .ok (.aload 5, 2) := by decide +kernel
theorem dX5_takeWinnings_66 : decode cX5_takeWinnings 66 = .ok (.getfield 79, 3) := by decide +kernel
theorem dX5_takeWinnings_69 : decode cX5_takeWinnings 69 = .ok (.iadd, 1) := by decide +kernel
theorem dX5_takeWinnings_70 : decode cX5_takeWinnings 70 = .ok (.putfield 15, 3) := by decide +kernel
theorem dX5_takeWinnings_73 : decode cX5_takeWinnings 73 = .ok (.iload_n 3, 1) := by decide +kernel
theorem dX5_takeWinnings_74 : decode cX5_takeWinnings 74 = .ok (.aload 5, 2) := by decide +kernel
theorem dX5_takeWinnings_76 : decode cX5_takeWinnings 76 = .ok (.getfield 141, 3) := by decide +kernel
theorem dX5_takeWinnings_79 : decode cX5_takeWinnings 79 = .ok (.ior, 1) := by decide +kernel
theorem dX5_takeWinnings_80 : decode cX5_takeWinnings 80 = .ok (.istore_n 3, 1) := by decide +kernel
theorem dX5_takeWinnings_81 : decode cX5_takeWinnings 81 = .ok (.iinc 4 1, 3) := by decide +kernel
theorem dX5_takeWinnings_84 : decode cX5_takeWinnings 84 = .ok (.goto (-79), 3) := by decide +kernel
theorem dX5_takeWinnings_87 : decode cX5_takeWinnings 87 = .ok (.aload_n 1, 1) := by decide +kernel
theorem dX5_takeWinnings_88 : decode cX5_takeWinnings 88 = .ok (.iload_n 3, 1) := by decide +kernel
theorem dX5_takeWinnings_89 : decode cX5_takeWinnings 89 = .ok (.invokevirtual 144, 3) := by decide +kernel
theorem dX5_takeWinnings_92 : decode cX5_takeWinnings 92 = .ok (.return_, 1) := by decide +kernel
theorem dX6_init_0 : decode cX6_init 0 = .ok (.aload_n 0, 1) := by decide +kernel
theorem dX6_init_1 : decode cX6_init 1 = .ok (.invokespecial 3, 3) := by decide +kernel
theorem dX6_init_4 : decode cX6_init 4 = .ok (.aload_n 0, 1) := by decide +kernel
theorem dX6_init_5 : decode cX6_init 5 = .ok (.bipush 80, 2) := by decide +kernel
theorem dX6_init_7 : decode cX6_init 7 = .ok (.newarray .char, 2) := by decide +kernel
theorem dX6_init_9 : decode cX6_init 9 = .ok (.putfield 9, 3) := by decide +kernel
theorem dX6_init_12 : decode cX6_init 12 = .ok (.return_, 1) := by decide +kernel
theorem dX6_append_0 : decode cX6_append 0 = .ok (.aload_n 0, 1) := by decide +kernel
theorem dX6_append_1 : decode cX6_append 1 = .ok (.getfield 15, 3) := by decide +kernel
theorem dX6_append_4 : decode cX6_append 4 = .ok (.ifCond .lt 15, 3) := by decide +kernel
theorem dX6_append_7 : decode cX6_append 7 = .ok (.aload_n 0, 1) := by decide +kernel
theorem dX6_append_8 : decode cX6_append 8 = .ok (.getfield 15, 3) := by decide +kernel
theorem dX6_append_11 : decode cX6_append 11 = .ok (.aload_n 0, 1) := by decide +kernel
theorem dX6_append_12 : decode cX6_append 12 = .ok (.getfield 9, 3) := by decide +kernel
theorem dX6_append_15 : decode cX6_append 15 = .ok (.arraylength, 1) := by decide +kernel
theorem dX6_append_16 : decode cX6_append 16 = .ok (.if_icmp .lt 5, 3) := by decide +kernel
theorem dX6_append_19 : decode cX6_append 19 = .ok (.iconst 0, 1) := by decide +kernel
theorem dX6_append_20 : decode cX6_append 20 = .ok (.ireturn, 1) := by decide +kernel
theorem dX6_append_21 : decode cX6_append 21 = .ok (.aload_n 0, 1) := by decide +kernel
theorem dX6_append_22 : decode cX6_append 22 = .ok (.getfield 9, 3) := by decide +kernel
theorem dX6_append_25 : decode cX6_append 25 = .ok (.aload_n 0, 1) := by decide +kernel
theorem dX6_append_26 : decode cX6_append 26 = .ok (.getfield 15, 3) := by decide +kernel
theorem dX6_append_29 : decode cX6_append 29 = .ok (.iload_n 1, 1) := by decide +kernel
theorem dX6_append_30 : decode cX6_append 30 = .ok (.castore, 1) := by decide +kernel
theorem dX6_append_31 : decode cX6_append 31 = .ok (.aload_n 0, 1) := by decide +kernel
theorem dX6_append_32 : decode cX6_append 32 = .ok (.dup, 1) := by decide +kernel
theorem dX6_append_33 : decode cX6_append 33 = .ok (.getfield 15, 3) := by decide +kernel
theorem dX6_append_36 : decode cX6_append 36 = .ok (.iconst 1, 1) := by decide +kernel
theorem dX6_append_37 : decode cX6_append 37 = .ok (.iadd, 1) := by decide +kernel
theorem dX6_append_38 : decode cX6_append 38 = .ok (.putfield 15, 3) := by decide +kernel
theorem dX6_append_41 : decode cX6_append 41 = .ok (.iconst 1, 1) := by decide +kernel
theorem dX6_append_42 : decode cX6_append 42 = .ok (.ireturn, 1) := by decide +kernel
theorem dX6_signAt_0 : decode cX6_signAt 0 = .ok (.iload_n 1, 1) := by decide +kernel
theorem dX6_signAt_1 : decode cX6_signAt 1 = .ok (.ifCond .lt 20, 3) := by decide +kernel
theorem dX6_signAt_4 : decode cX6_signAt 4 = .ok (.iload_n 1, 1) := by decide +kernel
theorem dX6_signAt_5 : decode cX6_signAt 5 = .ok (.aload_n 0, 1) := by decide +kernel
theorem dX6_signAt_6 : decode cX6_signAt 6 = .ok (.getfield 15, 3) := by decide +kernel
theorem dX6_signAt_9 : decode cX6_signAt 9 = .ok (.if_icmp .ge 12, 3) := by decide +kernel
theorem dX6_signAt_12 : decode cX6_signAt 12 = .ok (.iload_n 1, 1) := by decide +kernel
theorem dX6_signAt_13 : decode cX6_signAt 13 = .ok (.aload_n 0, 1) := by decide +kernel
theorem dX6_signAt_14 : decode cX6_signAt 14 = .ok (.getfield 9, 3) := by decide +kernel
theorem dX6_signAt_17 : decode cX6_signAt 17 = .ok (.arraylength, 1) := by decide +kernel
theorem dX6_signAt_18 : decode cX6_signAt 18 = .ok (.if_icmp .lt 7, 3) := by decide +kernel
theorem dX6_signAt_21 : decode cX6_signAt 21 = .ok (.iconst (-1), 1) := by decide +kernel
theorem dX6_signAt_22 : decode cX6_signAt 22 = .ok (.goto 9, 3) := by decide +kernel
theorem dX6_signAt_25 : decode cX6_signAt 25 = .ok (.aload_n 0, 1) := by decide +kernel
theorem dX6_signAt_26 : decode cX6_signAt 26 = .ok (.getfield 9, 3) := by decide +kernel
theorem dX6_signAt_29 : decode cX6_signAt 29 = .ok (.iload_n 1, 1) := by decide +kernel
theorem dX6_signAt_30 : decode cX6_signAt 30 = .ok (.caload, 1) := by decide +kernel
theorem dX6_signAt_31 : decode cX6_signAt 31 = .ok (.ireturn, 1) := by decide +kernel
theorem dX7_init_0 : decode cX7_init 0 = .ok (.aload_n 0, 1) := by decide +kernel
theorem dX7_init_1 : decode cX7_init 1 = .ok (.invokespecial 1, 3) := by decide +kernel
theorem dX7_init_4 : decode cX7_init 4 = .ok (.aload_n 0, 1) := by decide +kernel
theorem dX7_init_5 : decode cX7_init 5 = .ok (.new 7, 3) := by decide +kernel
theorem dX7_init_8 : decode cX7_init 8 = .ok (.dup, 1) := by decide +kernel
theorem dX7_init_9 : decode cX7_init 9 = .ok (.invokespecial 9, 3) := by decide +kernel
theorem dX7_init_12 : decode cX7_init 12 = .ok (.putfield 10, 3) := by decide +kernel
theorem dX7_init_15 : decode cX7_init 15 = .ok (.aload_n 0, 1) := by decide +kernel
theorem dX7_init_16 : decode cX7_init 16 = .ok (.new 7, 3) := by decide +kernel
theorem dX7_init_19 : decode cX7_init 19 = .ok (.dup, 1) := by decide +kernel
theorem dX7_init_20 : decode cX7_init 20 = .ok (.invokespecial 9, 3) := by decide +kernel
theorem dX7_init_23 : decode cX7_init 23 = .ok (.putfield 16, 3) := by decide +kernel
theorem dX7_init_26 : decode cX7_init 26 = .ok (.aload_n 0, 1) := by decide +kernel
theorem dX7_init_27 : decode cX7_init 27 = .ok (.new 19, 3) := by decide +kernel
theorem dX7_init_30 : decode cX7_init 30 = .ok (.dup, 1) := by decide +kernel
theorem dX7_init_31 : decode cX7_init 31 = .ok (.invokespecial 21, 3) := by decide +kernel
theorem dX7_init_34 : decode cX7_init 34 = .ok (.putfield 22, 3) := by decide +kernel
theorem dX7_init_37 : decode cX7_init 37 = .ok (.aload_n 0, 1) := by decide +kernel
theorem dX7_init_38 : decode cX7_init 38 = .ok (.new 26, 3) := by decide +kernel
theorem dX7_init_41 : decode cX7_init 41 = .ok (.dup, 1) := by decide +kernel
theorem dX7_init_42 : decode cX7_init 42 = .ok (.invokespecial 28, 3) := by decide +kernel
theorem dX7_init_45 : decode cX7_init 45 = .ok (.putfield 29, 3) := by decide +kernel
theorem dX7_init_48 : decode cX7_init 48 = .ok (.aload_n 0, 1) := by decide +kernel
theorem dX7_init_49 : decode cX7_init 49 = .ok (.new 33, 3) := by decide +kernel
theorem dX7_init_52 : decode cX7_init 52 = .ok (.dup, 1) := by decide +kernel
theorem dX7_init_53 : decode cX7_init 53 = .ok (.invokespecial 35, 3) := by decide +kernel
theorem dX7_init_56 : decode cX7_init 56 = .ok (.putfield 36, 3) := by decide +kernel
theorem dX7_init_59 : decode cX7_init 59 = .ok (.return_, 1) := by decide +kernel
theorem dX7_putMarble_0 : decode cX7_putMarble 0 = .ok (.aload_n 0, 1) := by decide +kernel
theorem dX7_putMarble_1 : decode cX7_putMarble 1 = .ok (.getfield 10, 3) := by decide +kernel
theorem dX7_putMarble_4 : decode cX7_putMarble 4 = .ok (.iload_n 1, 1) := by decide +kernel
theorem dX7_putMarble_5 : decode cX7_putMarble 5 = .ok (.iload_n 2, 1) := by decide +kernel
theorem dX7_putMarble_6 : decode cX7_putMarble 6 = .ok (.iload_n 3, 1) := by decide +kernel
theorem dX7_putMarble_7 : decode cX7_putMarble 7 = .ok (.iload 4, 2) := by decide +kernel
theorem dX7_putMarble_9 : decode cX7_putMarble 9 = .ok (.invokevirtual 40, 3) := by decide +kernel
theorem dX7_putMarble_12 : decode cX7_putMarble 12 = .ok (.istore 5, 2) := by decide +kernel
theorem dX7_putMarble_14 : decode cX7_putMarble 14 = .ok (.iload 5, 2) := by decide +kernel
theorem dX7_putMarble_16 : decode cX7_putMarble 16 = .ok (.ifCond .eq 6, 3) := by decide +kernel
theorem dX7_putMarble_19 : decode cX7_putMarble 19 = .ok (.iload 5, 2) := by decide +kernel
theorem dX7_putMarble_21 : decode cX7_putMarble 21 = .ok (.ireturn, 1) := by decide +kernel
theorem dX7_putMarble_22 : decode cX7_putMarble 22 = .ok (.aload_n 0, 1) := by decide +kernel
theorem dX7_putMarble_23 : decode cX7_putMarble 23 = .ok (.getfield 29, 3) := by decide +kernel
theorem dX7_putMarble_26 : decode cX7_putMarble 26 = .ok (.aload_n 0, 1) := by decide +kernel
theorem dX7_putMarble_27 : decode cX7_putMarble 27 = .ok (.getfield 10, 3) := by decide +kernel
theorem dX7_putMarble_30 : decode cX7_putMarble 30 = .ok (.invokevirtual 44, 3) := by decide +kernel
theorem dX7_putMarble_33 : decode cX7_putMarble 33 = .ok (.aload_n 0, 1) := by decide +kernel
theorem dX7_putMarble_34 : decode cX7_putMarble 34 = .ok (.getfield 10, 3) := by decide +kernel
theorem dX7_putMarble_37 : decode cX7_putMarble 37 = .ok (.iload_n 1, 1) := by decide +kernel
theorem dX7_putMarble_38 : decode cX7_putMarble 38 = .ok (.iload_n 2, 1) := by decide +kernel
theorem dX7_putMarble_39 : decode cX7_putMarble 39 = .ok (.iload_n 3, 1) := by decide +kernel
theorem dX7_putMarble_40 : decode cX7_putMarble 40 = .ok (.iload 4, 2) := by decide +kernel
theorem dX7_putMarble_42 : decode cX7_putMarble 42 = .ok (.invokevirtual 48, 3) := by decide +kernel
theorem dX7_putMarble_45 : decode cX7_putMarble 45 = .ok (.ireturn, 1) := by decide +kernel
theorem dX7_drawRing_0 : decode cX7_drawRing 0 = .ok (.aload_n 0, 1) := by decide +kernel
theorem dX7_drawRing_1 : decode cX7_drawRing 1 = .ok (.getfield 10, 3) := by decide +kernel
theorem dX7_drawRing_4 : decode cX7_drawRing 4 = .ok (.iload_n 1, 1) := by decide +kernel
theorem dX7_drawRing_5 : decode cX7_drawRing 5 = .ok (.iload_n 2, 1) := by decide +kernel
theorem dX7_drawRing_6 : decode cX7_drawRing 6 = .ok (.iload_n 3, 1) := by decide +kernel
theorem dX7_drawRing_7 : decode cX7_drawRing 7 = .ok (.invokevirtual 51, 3) := by decide +kernel
theorem dX7_drawRing_10 : decode cX7_drawRing 10 = .ok (.istore 4, 2) := by decide +kernel
theorem dX7_drawRing_12 : decode cX7_drawRing 12 = .ok (.iload 4, 2) := by decide +kernel
theorem dX7_drawRing_14 : decode cX7_drawRing 14 = .ok (.ifCond .eq 6, 3) := by decide +kernel
theorem dX7_drawRing_17 : decode cX7_drawRing 17 = .ok (.iload 4, 2) := by decide +kernel
theorem dX7_drawRing_19 : decode cX7_drawRing 19 = .ok (.ireturn, 1) := by decide +kernel
theorem dX7_drawRing_20 : decode cX7_drawRing 20 = .ok (.aload_n 0, 1) := by decide +kernel
theorem dX7_drawRing_21 : decode cX7_drawRing 21 = .ok (.getfield 29, 3) := by decide +kernel
theorem dX7_drawRing_24 : decode cX7_drawRing 24 = .ok (.aload_n 0, 1) := by decide +kernel
theorem dX7_drawRing_25 : decode cX7_drawRing 25 = .ok (.getfield 10, 3) := by decide +kernel
theorem dX7_drawRing_28 : decode cX7_drawRing 28 = .ok (.invokevirtual 44, 3) := by decide +kernel
theorem dX7_drawRing_31 : decode cX7_drawRing 31 = .ok (.aload_n 0, 1) := by decide +kernel
theorem dX7_drawRing_32 : decode cX7_drawRing 32 = .ok (.getfield 10, 3) := by decide +kernel
theorem dX7_drawRing_35 : decode cX7_drawRing 35 = .ok (.iload_n 1, 1) := by decide +kernel
theorem dX7_drawRing_36 : decode cX7_drawRing 36 = .ok (.iload_n 2, 1) := by decide +kernel
theorem dX7_drawRing_37 : decode cX7_drawRing 37 = .ok (.iload_n 3, 1) := by decide +kernel
theorem dX7_drawRing_38 : decode cX7_drawRing 38 = .ok (.invokevirtual 55, 3) := by decide +kernel
theorem dX7_drawRing_41 : decode cX7_drawRing 41 = .ok (.ireturn, 1) := by decide +kernel
theorem dX7_move_0 : decode cX7_move 0 = .ok (.aload_n 0, 1) := by decide +kernel
theorem dX7_move_1 : decode cX7_move 1 = .ok (.getfield 10, 3) := by decide +kernel
theorem dX7_move_4 : decode cX7_move 4 = .ok (.iload_n 1, 1) := by decide +kernel
theorem dX7_move_5 : decode cX7_move 5 = .ok (.invokevirtual 58, 3) := by decide +kernel
theorem dX7_move_8 : decode cX7_move 8 = .ok (.astore 4, 2) := by decide +kernel
theorem dX7_move_10 : decode cX7_move 10 = .ok (.aload 4, 2) := by decide +kernel
theorem dX7_move_12 : decode cX7_move 12 = .ok (.ifnull 11, 3) := by decide +kernel
theorem dX7_move_15 : decode cX7_move 15 = .ok (.iload_n 2, 1) := by decide +kernel
theorem dX7_move_16 : decode cX7_move 16 = .ok (.iload_n 3, 1) := by decide +kernel
theorem dX7_move_17 : decode cX7_move 17 = .ok (.invokestatic 62, 3) := by decide +kernel
theorem dX7_move_20 : decode cX7_move 20 = .ok (.ifCond .ne 7, 3) := by decide +kernel
theorem dX7_move_23 : decode cX7_move 23 = .ok (.sipush (-1001), 3) := by decide +kernel
theorem dX7_move_26 : decode cX7_move 26 = .ok (.ireturn, 1) := by decide +kernel
theorem dX7_move_27 : decode cX7_move 27 = .ok (.aload 4, 2) := by decide +kernel
theorem dX7_move_29 : decode cX7_move 29 = .ok (.getfield 66, 3) := by decide +kernel
theorem dX7_move_32 : decode cX7_move 32 = .ok (.ifCond .eq 15, 3) := by decide +kernel
theorem dX7_move_35 : decode cX7_move 35 = .ok (.aload_n 0, 1) := by decide +kernel
theorem dX7_move_36 : decode cX7_move 36 = .ok (.getfield 10, 3) := by decide +kernel
theorem dX7_move_39 : decode cX7_move 39 = .ok (.iload_n 2, 1) := by decide +kernel
theorem dX7_move_40 : decode cX7_move 40 = .ok (.iload_n 3, 1) := by decide +kernel
theorem dX7_move_41 : decode cX7_move 41 = .ok (.invokevirtual 72, 3) := by decide +kernel
theorem dX7_move_44 : decode cX7_move 44 = .ok (.ifnull 7, 3) := by decide +kernel
theorem dX7_move_47 : decode cX7_move 47 = .ok (.sipush (-1003), 3) := by decide +kernel
theorem dX7_move_50 : decode cX7_move 50 = .ok (.ireturn, 1) := by decide +kernel
theorem dX7_move_51 : decode cX7_move 51 = .ok (.aload_n 0, 1) := by decide +kernel
theorem dX7_move_52 : decode cX7_move 52 = .ok (.getfield 29, 3) := by decide +kernel
theorem dX7_move_55 : decode cX7_move 55 = .ok (.aload_n 0, 1) := by decide +kernel
theorem dX7_move_56 : decode cX7_move 56 = .ok (.getfield 10, 3) := by decide +kernel
theorem dX7_move_59 : decode cX7_move 59 = .ok (.invokevirtual 44, 3) := by decide +kernel
theorem dX7_move_62 : decode cX7_move 62 = .ok (.aload 4, 2) := by decide +kernel
theorem dX7_move_64 : decode cX7_move 64 = .ok (.iload_n 2, 1) := by decide +kernel
theorem dX7_move_65 : decode cX7_move 65 = .ok (.putfield 76, 3) := by decide +kernel
theorem dX7_move_68 : decode cX7_move 68 = .ok (.aload 4, 2) := by decide +kernel
theorem dX7_move_70 : decode cX7_move 70 = .ok (.iload_n 3, 1) := by decide +kernel
theorem dX7_move_71 : decode cX7_move 71 = .ok (.putfield 80, 3) := by decide +kernel
theorem dX7_move_74 : decode cX7_move 74 = .ok (.aload_n 0, 1) := by decide +kernel
theorem dX7_move_75 : decode cX7_move 75 = .ok (.getfield 10, 3) := by decide +kernel
theorem dX7_move_78 : decode cX7_move 78 = .ok (.iload_n 2, 1) := by decide +kernel
theorem dX7_move_79 : decode cX7_move 79 = .ok (.iload_n 3, 1) := by decide +kernel
theorem dX7_move_80 : decode cX7_move 80 = .ok (.invokevirtual 83, 3) := by decide +kernel
theorem dX7_move_83 : decode cX7_move 83 = .ok (.invokestatic 87, 3) := by decide +kernel
theorem dX7_move_86 : decode cX7_move 86 = .ok (.ireturn, 1) := by decide +kernel
theorem dX7_clear_0 : decode cX7_clear 0 = .ok (.aload_n 0, 1) := by decide +kernel
theorem dX7_clear_1 : decode cX7_clear 1 = .ok (.getfield 10, 3) := by decide +kernel
theorem dX7_clear_4 : decode cX7_clear 4 = .ok (.getfield 93, 3) := by decide +kernel
theorem dX7_clear_7 : decode cX7_clear 7 = .ok (.istore_n 1, 1) := by decide +kernel
theorem dX7_clear_8 : decode cX7_clear 8 = .ok (.aload_n 0, 1) := by decide +kernel
theorem dX7_clear_9 : decode cX7_clear 9 = .ok (.getfield 29, 3) := by decide +kernel
theorem dX7_clear_12 : decode cX7_clear 12 = .ok (.aload_n 0, 1) := by decide +kernel
theorem dX7_clear_13 : decode cX7_clear 13 = .ok (.getfield 10, 3) := by decide +kernel
theorem dX7_clear_16 : decode cX7_clear 16 = .ok (.invokevirtual 44, 3) := by decide +kernel
theorem dX7_clear_19 : decode cX7_clear 19 = .ok (.aload_n 0, 1) := by decide +kernel
theorem dX7_clear_20 : decode cX7_clear 20 = .ok (.getfield 10, 3) := by decide +kernel
theorem dX7_clear_23 : decode cX7_clear 23 = .ok (.invokevirtual 96, 3) := by decide +kernel
theorem dX7_clear_26 : decode cX7_clear 26 = .ok (.iload_n 1, 1) := by decide +kernel
theorem dX7_clear_27 : decode cX7_clear 27 = .ok (.ireturn, 1) := by decide +kernel
theorem dX7_flick_0 : decode cX7_flick 0 = .ok (.aload_n 0, 1) := by decide +kernel
theorem dX7_flick_1 : decode cX7_flick 1 = .ok (.getfield 10, 3) := by decide +kernel
theorem dX7_flick_4 : decode cX7_flick 4 = .ok (.iload_n 1, 1) := by decide +kernel
theorem dX7_flick_5 : decode cX7_flick 5 = .ok (.invokevirtual 58, 3) := by decide +kernel
theorem dX7_flick_8 : decode cX7_flick 8 = .ok (.astore 4, 2) := by decide +kernel
theorem dX7_flick_10 : decode cX7_flick 10 = .ok (.aload 4, 2) := by decide +kernel
theorem dX7_flick_12 : decode cX7_flick 12 = .ok (.ifnonnull 7, 3) := by decide +kernel
theorem dX7_flick_15 : decode cX7_flick 15 = .ok (.sipush (-1001), 3) := by decide +kernel
theorem dX7_flick_18 : decode cX7_flick 18 = .ok (.ireturn, 1) := by decide +kernel
theorem dX7_flick_19 : decode cX7_flick 19 = .ok (.iload_n 2, 1) := by decide +kernel
theorem dX7_flick_20 : decode cX7_flick 20 = .ok (.invokestatic 99, 3) := by decide +kernel
theorem dX7_flick_23 : decode cX7_flick 23 = .ok (.ifCond .eq 10, 3) := by decide +kernel
theorem dX7_flick_26 : decode cX7_flick 26 = .ok (.iload_n 3, 1) := by decide +kernel
theorem dX7_flick_27 : decode cX7_flick 27 = .ok (.invokestatic 103, 3) := by decide +kernel
theorem dX7_flick_30 : decode cX7_flick 30 = .ok (.ifCond .ne 7, 3) := by decide +kernel
theorem dX7_flick_33 : decode cX7_flick 33 = .ok (.sipush (-1002), 3) := by decide +kernel
theorem dX7_flick_36 : decode cX7_flick 36 = .ok (.ireturn, 1) := by decide +kernel
theorem dX7_flick_37 : decode cX7_flick 37 = .ok (.aload 4, 2) := by decide +kernel
theorem dX7_flick_39 : decode cX7_flick 39 = .ok (.getfield 66, 3) := by decide +kernel
theorem dX7_flick_42 : decode cX7_flick 42 = .ok (.ifCond .eq 18, 3) := by decide +kernel
theorem dX7_flick_45 : decode cX7_flick 45 = .ok (.aload 4, 2) := by decide +kernel
theorem dX7_flick_47 : decode cX7_flick 47 = .ok (.getfield 106, 3) := by decide +kernel
theorem dX7_flick_50 : decode cX7_flick 50 = .ok (.aload_n 0, 1) := by decide +kernel
theorem dX7_flick_51 : decode cX7_flick 51 = .ok (.getfield 10, 3) := by decide +kernel
theorem dX7_flick_54 : decode cX7_flick 54 = .ok (.getfield 109, 3) := by decide +kernel
theorem dX7_flick_57 : decode cX7_flick 57 = .ok (.if_icmp .eq 7, 3) := by decide +kernel
theorem dX7_flick_60 : decode cX7_flick 60 = .ok (.sipush (-1003), 3) := by decide +kernel
theorem dX7_flick_63 : decode cX7_flick 63 = .ok (.ireturn, 1) := by decide +kernel
theorem dX7_flick_64 : decode cX7_flick 64 = .ok (.aload_n 0, 1) := by decide +kernel
theorem dX7_flick_65 : decode cX7_flick 65 = .ok (.getfield 29, 3) := by decide +kernel
theorem dX7_flick_68 : decode cX7_flick 68 = .ok (.aload_n 0, 1) := by decide +kernel
theorem dX7_flick_69 : decode cX7_flick 69 = .ok (.getfield 10, 3) := by decide +kernel
theorem dX7_flick_72 : decode cX7_flick 72 = .ok (.invokevirtual 44, 3) := by decide +kernel
theorem dX7_flick_75 : decode cX7_flick 75 = .ok (.aload_n 0, 1) := by decide +kernel
theorem dX7_flick_76 : decode cX7_flick 76 = .ok (.getfield 22, 3) := by decide +kernel
theorem dX7_flick_79 : decode cX7_flick 79 = .ok (.aload_n 0, 1) := by decide +kernel
theorem dX7_flick_80 : decode cX7_flick 80 = .ok (.getfield 10, 3) := by decide +kernel
theorem dX7_flick_83 : decode cX7_flick 83 = .ok (.iload_n 1, 1) := by decide +kernel
theorem dX7_flick_84 : decode cX7_flick 84 = .ok (.iload_n 2, 1) := by decide +kernel
theorem dX7_flick_85 : decode cX7_flick 85 = .ok (.iload_n 3, 1) := by decide +kernel
theorem dX7_flick_86 : decode cX7_flick 86 = .ok (.invokevirtual 112, 3) := by decide +kernel
theorem dX7_flick_89 : decode cX7_flick 89 = .ok (.aload_n 0, 1) := by decide +kernel
theorem dX7_flick_90 : decode cX7_flick 90 = .ok (.getfield 22, 3) := by decide +kernel
theorem dX7_flick_93 : decode cX7_flick 93 = .ok (.getfield 116, 3) := by decide +kernel
theorem dX7_flick_96 : decode cX7_flick 96 = .ok (.ireturn, 1) := by decide +kernel
theorem dX7_pass_0 : decode cX7_pass 0 = .ok (.aload_n 0, 1) := by decide +kernel
theorem dX7_pass_1 : decode cX7_pass 1 = .ok (.getfield 29, 3) := by decide +kernel
theorem dX7_pass_4 : decode cX7_pass 4 = .ok (.aload_n 0, 1) := by decide +kernel
theorem dX7_pass_5 : decode cX7_pass 5 = .ok (.getfield 10, 3) := by decide +kernel
theorem dX7_pass_8 : decode cX7_pass 8 = .ok (.invokevirtual 44, 3) := by decide +kernel
theorem dX7_pass_11 : decode cX7_pass 11 = .ok (.aload_n 0, 1) := by decide +kernel
theorem dX7_pass_12 : decode cX7_pass 12 = .ok (.getfield 10, 3) := by decide +kernel
theorem dX7_pass_15 : decode cX7_pass 15 = .ok (.invokevirtual 119, 3) := by decide +kernel
theorem dX7_pass_18 : decode cX7_pass 18 = .ok (.aload_n 0, 1) := by decide +kernel
theorem dX7_pass_19 : decode cX7_pass 19 = .ok (.getfield 10, 3) := by decide +kernel
theorem dX7_pass_22 : decode cX7_pass 22 = .ok (.getfield 109, 3) := by decide +kernel
theorem dX7_pass_25 : decode cX7_pass 25 = .ok (.ireturn, 1) := by decide +kernel
theorem dX7_count_0 : decode cX7_count 0 = .ok (.iload_n 1, 1) := by decide +kernel
theorem dX7_count_1 : decode cX7_count 1 = .ok (.tableswitch 111 0 7 #[47, 55, 63, 71, 79, 87, 95, 103], 47) := by decide +kernel
theorem dX7_count_48 : decode cX7_count 48 = .ok (.aload_n 0, 1) := by decide +kernel
theorem dX7_count_49 : decode cX7_count 49 = .ok (.getfield 10, 3) := by decide +kernel
theorem dX7_count_52 : decode cX7_count 52 = .ok (.getfield 93, 3) := by decide +kernel
theorem dX7_count_55 : decode cX7_count 55 = .ok (.ireturn, 1) := by decide +kernel
theorem dX7_count_56 : decode cX7_count 56 = .ok (.aload_n 0, 1) := by decide +kernel
theorem dX7_count_57 : decode cX7_count 57 = .ok (.getfield 10, 3) := by decide +kernel
theorem dX7_count_60 : decode cX7_count 60 = .ok (.getfield 122, 3) := by decide +kernel
theorem dX7_count_63 : decode cX7_count 63 = .ok (.ireturn, 1) := by decide +kernel
theorem dX7_count_64 : decode cX7_count 64 = .ok (.aload_n 0, 1) := by decide +kernel
theorem dX7_count_65 : decode cX7_count 65 = .ok (.getfield 10, 3) := by decide +kernel
theorem dX7_count_68 : decode cX7_count 68 = .ok (.getfield 109, 3) := by decide +kernel
theorem dX7_count_71 : decode cX7_count 71 = .ok (.ireturn, 1) := by decide +kernel
theorem dX7_count_72 : decode cX7_count 72 = .ok (.aload_n 0, 1) := by decide +kernel
theorem dX7_count_73 : decode cX7_count 73 = .ok (.getfield 10, 3) := by decide +kernel
theorem dX7_count_76 : decode cX7_count 76 = .ok (.getfield 125, 3) := by decide +kernel
theorem dX7_count_79 : decode cX7_count 79 = .ok (.ireturn, 1) := by decide +kernel
theorem dX7_count_80 : decode cX7_count 80 = .ok (.aload_n 0, 1) := by decide +kernel
theorem dX7_count_81 : decode cX7_count 81 = .ok (.getfield 10, 3) := by decide +kernel
theorem dX7_count_84 : decode cX7_count 84 = .ok (.getfield 128, 3) := by decide +kernel
theorem dX7_count_87 : decode cX7_count 87 = .ok (.ireturn, 1) := by decide +kernel
theorem dX7_count_88 : decode cX7_count 88 = .ok (.aload_n 0, 1) := by decide +kernel
theorem dX7_count_89 : decode cX7_count 89 = .ok (.getfield 10, 3) := by decide +kernel
theorem dX7_count_92 : decode cX7_count 92 = .ok (.getfield 131, 3) := by decide +kernel
theorem dX7_count_95 : decode cX7_count 95 = .ok (.ireturn, 1) := by decide +kernel
theorem dX7_count_96 : decode cX7_count 96 = .ok (.aload_n 0, 1) := by decide +kernel
theorem dX7_count_97 : decode cX7_count 97 = .ok (.getfield 10, 3) := by decide +kernel
theorem dX7_count_100 : decode cX7_count 100 = .ok (.getfield 132, 3) := by decide +kernel
theorem dX7_count_103 : decode cX7_count 103 = .ok (.ireturn, 1) := by decide +kernel
theorem dX7_count_104 : decode cX7_count 104 = .ok (.aload_n 0, 1) := by decide +kernel
theorem dX7_count_105 : decode cX7_count 105 = .ok (.getfield 10, 3) := by decide +kernel
theorem dX7_count_108 : decode cX7_count 108 = .ok (.getfield 135, 3) := by decide +kernel
theorem dX7_count_111 : decode cX7_count 111 = .ok (.ireturn, 1) := by decide +kernel
theorem dX7_count_112 : decode cX7_count 112 = .ok (.sipush (-1002), 3) := by decide +kernel
theorem dX7_count_115 : decode cX7_count 115 = .ok (.ireturn, 1) := by decide +kernel
theorem dX7_marble_0 : decode cX7_marble 0 = .ok (.aload_n 0, 1) := by decide +kernel
theorem dX7_marble_1 : decode cX7_marble 1 = .ok (.getfield 10, 3) := by decide +kernel
theorem dX7_marble_4 : decode cX7_marble 4 = .ok (.iload_n 1, 1) := by decide +kernel
theorem dX7_marble_5 : decode cX7_marble 5 = .ok (.invokevirtual 58, 3) := by decide +kernel
theorem dX7_marble_8 : decode cX7_marble 8 = .ok (.astore_n 3, 1) := by decide +kernel
theorem dX7_marble_9 : decode cX7_marble 9 = .ok (.aload_n 3, 1) := by decide +kernel
theorem dX7_marble_10 : decode cX7_marble 10 = .ok (.ifnonnull 7, 3) := by decide +kernel
theorem dX7_marble_13 : decode cX7_marble 13 = .ok (.sipush (-1001), 3) := by decide +kernel
theorem dX7_marble_16 : decode cX7_marble 16 = .ok (.ireturn, 1) := by decide +kernel
theorem dX7_marble_17 : decode cX7_marble 17 = .ok (.iload_n 2, 1) := by decide +kernel
theorem dX7_marble_18 : decode cX7_marble 18 = .ok (.tableswitch 131 0 5 #[38, 56, 74, 79, 84, 102], 38) := by decide +kernel
theorem dX7_marble_56 : decode cX7_marble 56 = .ok (.aload_n 3, 1) := by decide +kernel
theorem dX7_marble_57 : decode cX7_marble 57 = .ok (.getfield 66, 3) := by decide +kernel
theorem dX7_marble_60 : decode cX7_marble 60 = .ok (.ifCond .eq 10, 3) := by decide +kernel
theorem dX7_marble_63 : decode cX7_marble 63 = .ok (.aload_n 3, 1) := by decide +kernel
theorem dX7_marble_64 : decode cX7_marble 64 = .ok (.getfield 76, 3) := by decide +kernel
theorem dX7_marble_67 : decode cX7_marble 67 = .ok (.goto 6, 3) := by decide +kernel
theorem dX7_marble_70 : decode cX7_marble 70 = .ok (.sipush (-1006), 3) := by decide +kernel
theorem dX7_marble_73 : decode cX7_marble 73 = .ok (.ireturn, 1) := by decide +kernel
theorem dX7_marble_74 : decode cX7_marble 74 = .ok (.aload_n 3, 1) := by decide +kernel
theorem dX7_marble_75 : decode cX7_marble 75 = .ok (.getfield 66, 3) := by decide +kernel
theorem dX7_marble_78 : decode cX7_marble 78 = .ok (.ifCond .eq 10, 3) := by decide +kernel
theorem dX7_marble_81 : decode cX7_marble 81 = .ok (.aload_n 3, 1) := by decide +kernel
theorem dX7_marble_82 : decode cX7_marble 82 = .ok (.getfield 80, 3) := by decide +kernel
theorem dX7_marble_85 : decode cX7_marble 85 = .ok (.goto 6, 3) := by decide +kernel
theorem dX7_marble_88 : decode cX7_marble 88 = .ok (.sipush (-1006), 3) := by decide +kernel
theorem dX7_marble_91 : decode cX7_marble 91 = .ok (.ireturn, 1) := by decide +kernel
theorem dX7_marble_92 : decode cX7_marble 92 = .ok (.aload_n 3, 1) := by decide +kernel
theorem dX7_marble_93 : decode cX7_marble 93 = .ok (.getfield 138, 3) := by decide +kernel
theorem dX7_marble_96 : decode cX7_marble 96 = .ok (.ireturn, 1) := by decide +kernel
theorem dX7_marble_97 : decode cX7_marble 97 = .ok (.aload_n 3, 1) := by decide +kernel
theorem dX7_marble_98 : decode cX7_marble 98 = .ok (.getfield 106, 3) := by decide +kernel
theorem dX7_marble_101 : decode cX7_marble 101 = .ok (.ireturn, 1) := by decide +kernel
theorem dX7_marble_102 : decode cX7_marble 102 = .ok (.aload_n 3, 1) := by decide +kernel
theorem dX7_marble_103 : decode cX7_marble 103 = .ok (.getfield 66, 3) := by decide +kernel
theorem dX7_marble_106 : decode cX7_marble 106 = .ok (.ifCond .eq 9, 3) := by decide +kernel
theorem dX7_marble_109 : decode cX7_marble 109 = .ok (.sipush (-1006), 3) := by decide +kernel
theorem dX7_marble_112 : decode cX7_marble 112 = .ok (.goto 7, 3) := by decide +kernel
theorem dX7_marble_115 : decode cX7_marble 115 = .ok (.aload_n 3, 1) := by decide +kernel
theorem dX7_marble_116 : decode cX7_marble 116 = .ok (.getfield 141, 3) := by decide +kernel
theorem dX7_marble_119 : decode cX7_marble 119 = .ok (.ireturn, 1) := by decide +kernel
theorem dX7_marble_120 : decode cX7_marble 120 = .ok (.aload_n 3, 1) := by decide +kernel
theorem dX7_marble_121 : decode cX7_marble 121 = .ok (.getfield 66, 3) := by decide +kernel
theorem dX7_marble_124 : decode cX7_marble 124 = .ok (.ifCond .eq 21, 3) := by decide +kernel
theorem dX7_marble_127 : decode cX7_marble 127 = .ok (.aload_n 0, 1) := by decide +kernel
theorem dX7_marble_128 : decode cX7_marble 128 = .ok (.getfield 10, 3) := by decide +kernel
theorem dX7_marble_131 : decode cX7_marble 131 = .ok (.aload_n 3, 1) := by decide +kernel
theorem dX7_marble_132 : decode cX7_marble 132 = .ok (.getfield 76, 3) := by decide +kernel
theorem dX7_marble_135 : decode cX7_marble 135 = .ok (.aload_n 3, 1) := by decide +kernel
theorem dX7_marble_136 : decode cX7_marble 136 = .ok (.getfield 80, 3) := by decide +kernel
theorem dX7_marble_139 : decode cX7_marble 139 = .ok (.invokevirtual 83, 3) := by decide +kernel
theorem dX7_marble_142 : decode cX7_marble 142 = .ok (.goto 6, 3) := by decide +kernel
theorem dX7_marble_145 : decode cX7_marble 145 = .ok (.sipush (-1006), 3) := by decide +kernel
theorem dX7_marble_148 : decode cX7_marble 148 = .ok (.ireturn, 1) := by decide +kernel
theorem dX7_marble_149 : decode cX7_marble 149 = .ok (.sipush (-1002), 3) := by decide +kernel
theorem dX7_marble_152 : decode cX7_marble 152 = .ok (.ireturn, 1) := by decide +kernel
theorem dX7_ring_0 : decode cX7_ring 0 = .ok (.aload_n 0, 1) := by decide +kernel
theorem dX7_ring_1 : decode cX7_ring 1 = .ok (.getfield 10, 3) := by decide +kernel
theorem dX7_ring_4 : decode cX7_ring 4 = .ok (.iload_n 1, 1) := by decide +kernel
theorem dX7_ring_5 : decode cX7_ring 5 = .ok (.invokevirtual 144, 3) := by decide +kernel
theorem dX7_ring_8 : decode cX7_ring 8 = .ok (.astore_n 3, 1) := by decide +kernel
theorem dX7_ring_9 : decode cX7_ring 9 = .ok (.aload_n 3, 1) := by decide +kernel
theorem dX7_ring_10 : decode cX7_ring 10 = .ok (.ifnonnull 7, 3) := by decide +kernel
theorem dX7_ring_13 : decode cX7_ring 13 = .ok (.sipush (-1001), 3) := by decide +kernel
theorem dX7_ring_16 : decode cX7_ring 16 = .ok (.ireturn, 1) := by decide +kernel
theorem dX7_ring_17 : decode cX7_ring 17 = .ok (.iload_n 2, 1) := by decide +kernel
theorem dX7_ring_18 : decode cX7_ring 18 = .ok (.tableswitch 63 0 4 #[34, 39, 44, 49, 58], 34) := by decide +kernel
theorem dX7_ring_52 : decode cX7_ring 52 = .ok (.aload_n 3, 1) := by decide +kernel
theorem dX7_ring_53 : decode cX7_ring 53 = .ok (.getfield 148, 3) := by decide +kernel
theorem dX7_ring_56 : decode cX7_ring 56 = .ok (.ireturn, 1) := by decide +kernel
theorem dX7_ring_57 : decode cX7_ring 57 = .ok (.aload_n 3, 1) := by decide +kernel
theorem dX7_ring_58 : decode cX7_ring 58 = .ok (.getfield 151, 3) := by decide +kernel
theorem dX7_ring_61 : decode cX7_ring 61 = .ok (.ireturn, 1) := by decide +kernel
theorem dX7_ring_62 : decode cX7_ring 62 = .ok (.aload_n 3, 1) := by decide +kernel
theorem dX7_ring_63 : decode cX7_ring 63 = .ok (.getfield 152, 3) := by decide +kernel
theorem dX7_ring_66 : decode cX7_ring 66 = .ok (.ireturn, 1) := by decide +kernel
theorem dX7_ring_67 : decode cX7_ring 67 = .ok (.aload_n 0, 1) := by decide +kernel
theorem dX7_ring_68 : decode cX7_ring 68 = .ok (.getfield 10, 3) := by decide +kernel
theorem dX7_ring_71 : decode cX7_ring 71 = .ok (.aload_n 3, 1) := by decide +kernel
theorem dX7_ring_72 : decode cX7_ring 72 = .ok (.invokevirtual 155, 3) := by decide +kernel
theorem dX7_ring_75 : decode cX7_ring 75 = .ok (.ireturn, 1) := by decide +kernel
theorem dX7_ring_76 : decode cX7_ring 76 = .ok (.aload_n 3, 1) := by decide +kernel
theorem dX7_ring_77 : decode cX7_ring 77 = .ok (.invokevirtual 159, 3) := by decide +kernel
theorem dX7_ring_80 : decode cX7_ring 80 = .ok (.ireturn, 1) := by decide +kernel
theorem dX7_ring_81 : decode cX7_ring 81 = .ok (.sipush (-1002), 3) := by decide +kernel
theorem dX7_ring_84 : decode cX7_ring 84 = .ok (.ireturn, 1) := by decide +kernel
theorem dX7_at_0 : decode cX7_at 0 = .ok (.iload_n 1, 1) := by decide +kernel
theorem dX7_at_1 : decode cX7_at 1 = .ok (.iload_n 2, 1) := by decide +kernel
theorem dX7_at_2 : decode cX7_at 2 = .ok (.invokestatic 62, 3) := by decide +kernel
theorem dX7_at_5 : decode cX7_at 5 = .ok (.ifCond .ne 7, 3) := by decide +kernel
theorem dX7_at_8 : decode cX7_at 8 = .ok (.sipush (-1001), 3) := by decide +kernel
theorem dX7_at_11 : decode cX7_at 11 = .ok (.ireturn, 1) := by decide +kernel
theorem dX7_at_12 : decode cX7_at 12 = .ok (.aload_n 0, 1) := by decide +kernel
theorem dX7_at_13 : decode cX7_at 13 = .ok (.getfield 10, 3) := by decide +kernel
theorem dX7_at_16 : decode cX7_at 16 = .ok (.iload_n 1, 1) := by decide +kernel
theorem dX7_at_17 : decode cX7_at 17 = .ok (.iload_n 2, 1) := by decide +kernel
theorem dX7_at_18 : decode cX7_at 18 = .ok (.invokevirtual 72, 3) := by decide +kernel
theorem dX7_at_21 : decode cX7_at 21 = .ok (.astore_n 3, 1) := by decide +kernel
theorem dX7_at_22 : decode cX7_at 22 = .ok (.aload_n 3, 1) := by decide +kernel
theorem dX7_at_23 : decode cX7_at 23 = .ok (.ifnonnull 9, 3) := by decide +kernel
theorem dX7_at_26 : decode cX7_at 26 = .ok (.sipush (-1006), 3) := by decide +kernel
theorem dX7_at_29 : decode cX7_at 29 = .ok (.goto 7, 3) := by decide +kernel
theorem dX7_at_32 : decode cX7_at 32 = .ok (.aload_n 3, 1) := by decide +kernel
theorem dX7_at_33 : decode cX7_at 33 = .ok (.getfield 163, 3) := by decide +kernel
theorem dX7_at_36 : decode cX7_at 36 = .ok (.ireturn, 1) := by decide +kernel
theorem dX7_score_0 : decode cX7_score 0 = .ok (.iload_n 1, 1) := by decide +kernel
theorem dX7_score_1 : decode cX7_score 1 = .ok (.invokestatic 166, 3) := by decide +kernel
theorem dX7_score_4 : decode cX7_score 4 = .ok (.ifCond .eq 14, 3) := by decide +kernel
theorem dX7_score_7 : decode cX7_score 7 = .ok (.aload_n 0, 1) := by decide +kernel
theorem dX7_score_8 : decode cX7_score 8 = .ok (.getfield 10, 3) := by decide +kernel
theorem dX7_score_11 : decode cX7_score 11 = .ok (.iload_n 1, 1) := by decide +kernel
theorem dX7_score_12 : decode cX7_score 12 = .ok (.invokevirtual 169, 3) := by decide +kernel
theorem dX7_score_15 : decode cX7_score 15 = .ok (.goto 6, 3) := by decide +kernel
theorem dX7_score_18 : decode cX7_score 18 = .ok (.sipush (-1001), 3) := by decide +kernel
theorem dX7_score_21 : decode cX7_score 21 = .ok (.ireturn, 1) := by decide +kernel
theorem dX7_leader_0 : decode cX7_leader 0 = .ok (.iconst 0, 1) := by decide +kernel
theorem dX7_leader_1 : decode cX7_leader 1 = .ok (.istore_n 1, 1) := by decide +kernel
theorem dX7_leader_2 : decode cX7_leader 2 = .ok (.iconst 1, 1) := by decide +kernel
theorem dX7_leader_3 : decode cX7_leader 3 = .ok (.istore_n 2, 1) := by decide +kernel
theorem dX7_leader_4 : decode cX7_leader 4 = .ok (.iload_n 2, 1) := by decide +kernel
theorem dX7_leader_5 : decode cX7_leader 5 = .ok (.iconst 3, 1) := by decide +kernel
theorem dX7_leader_6 : decode cX7_leader 6 = .ok (.if_icmp .ge 30, 3) := by decide +kernel
theorem dX7_leader_9 : decode cX7_leader 9 = .ok (.aload_n 0, 1) := by decide +kernel
theorem dX7_leader_10 : decode cX7_leader 10 = .ok (.getfield 10, 3) := by decide +kernel
theorem dX7_leader_13 : decode cX7_leader 13 = .ok (.iload_n 2, 1) := by decide +kernel
theorem dX7_leader_14 : decode cX7_leader 14 = .ok (.invokevirtual 169, 3) := by decide +kernel
theorem dX7_leader_17 : decode cX7_leader 17 = .ok (.aload_n 0, 1) := by decide +kernel
theorem dX7_leader_18 : decode cX7_leader 18 = .ok (.getfield 10, 3) := by decide +kernel
theorem dX7_leader_21 : decode cX7_leader 21 = .ok (.iload_n 1, 1) := by decide +kernel
theorem dX7_leader_22 : decode cX7_leader 22 = .ok (.invokevirtual 169, 3) := by decide +kernel
theorem dX7_leader_25 : decode cX7_leader 25 = .ok (.if_icmp .le 5, 3) := by decide +kernel
theorem dX7_leader_28 : decode cX7_leader 28 = .ok (.iload_n 2, 1) := by decide +kernel
theorem dX7_leader_29 : decode cX7_leader 29 = .ok (.istore_n 1, 1) := by decide +kernel
theorem dX7_leader_30 : decode cX7_leader 30 = .ok (.iinc 2 1, 3) := by decide +kernel
theorem dX7_leader_33 : decode cX7_leader 33 = .ok (.goto (-29), 3) := by decide +kernel
theorem dX7_leader_36 : decode cX7_leader 36 = .ok (.iload_n 1, 1) := by decide +kernel
theorem dX7_leader_37 : decode cX7_leader 37 = .ok (.ireturn, 1) := by decide +kernel
theorem dX7_ifFlicked_0 : decode cX7_ifFlicked 0 = .ok (.aload_n 0, 1) := by decide +kernel
theorem dX7_ifFlicked_1 : decode cX7_ifFlicked 1 = .ok (.getfield 10, 3) := by decide +kernel
theorem dX7_ifFlicked_4 : decode cX7_ifFlicked 4 = .ok (.iload_n 1, 1) := by decide +kernel
theorem dX7_ifFlicked_5 : decode cX7_ifFlicked 5 = .ok (.invokevirtual 58, 3) := by decide +kernel
theorem dX7_ifFlicked_8 : decode cX7_ifFlicked 8 = .ok (.astore 5, 2) := by decide +kernel
theorem dX7_ifFlicked_10 : decode cX7_ifFlicked 10 = .ok (.aload 5, 2) := by decide +kernel
theorem dX7_ifFlicked_12 : decode cX7_ifFlicked 12 = .ok (.ifnonnull 7, 3) := by decide +kernel
theorem dX7_ifFlicked_15 : decode cX7_ifFlicked 15 = .ok (.sipush (-1001), 3) := by decide +kernel
theorem dX7_ifFlicked_18 : decode cX7_ifFlicked 18 = .ok (.ireturn, 1) := by decide +kernel
theorem dX7_ifFlicked_19 : decode cX7_ifFlicked 19 = .ok (.iload_n 2, 1) := by decide +kernel
theorem dX7_ifFlicked_20 : decode cX7_ifFlicked 20 = .ok (.invokestatic 99, 3) := by decide +kernel
theorem dX7_ifFlicked_23 : decode cX7_ifFlicked 23 = .ok (.ifCond .eq 21, 3) := by decide +kernel
theorem dX7_ifFlicked_26 : decode cX7_ifFlicked 26 = .ok (.iload_n 3, 1) := by decide +kernel
theorem dX7_ifFlicked_27 : decode cX7_ifFlicked 27 = .ok (.invokestatic 103, 3) := by decide +kernel
theorem dX7_ifFlicked_30 : decode cX7_ifFlicked 30 = .ok (.ifCond .eq 14, 3) := by decide +kernel
theorem dX7_ifFlicked_33 : decode cX7_ifFlicked 33 = .ok (.iload 4, 2) := by decide +kernel
theorem dX7_ifFlicked_35 : decode cX7_ifFlicked 35 = .ok (.ifCond .lt 9, 3) := by decide +kernel
theorem dX7_ifFlicked_38 : decode cX7_ifFlicked 38 = .ok (.iload 4, 2) := by decide +kernel
theorem dX7_ifFlicked_40 : decode cX7_ifFlicked 40 = .ok (.iconst 5, 1) := by decide +kernel
theorem dX7_ifFlicked_41 : decode cX7_ifFlicked 41 = .ok (.if_icmp .lt 7, 3) := by decide +kernel
theorem dX7_ifFlicked_44 : decode cX7_ifFlicked 44 = .ok (.sipush (-1002), 3) := by decide +kernel
theorem dX7_ifFlicked_47 : decode cX7_ifFlicked 47 = .ok (.ireturn, 1) := by decide +kernel
theorem dX7_ifFlicked_48 : decode cX7_ifFlicked 48 = .ok (.aload 5, 2) := by decide +kernel
theorem dX7_ifFlicked_50 : decode cX7_ifFlicked 50 = .ok (.getfield 66, 3) := by decide +kernel
theorem dX7_ifFlicked_53 : decode cX7_ifFlicked 53 = .ok (.ifCond .ne 7, 3) := by decide +kernel
theorem dX7_ifFlicked_56 : decode cX7_ifFlicked 56 = .ok (.sipush (-1003), 3) := by decide +kernel
theorem dX7_ifFlicked_59 : decode cX7_ifFlicked 59 = .ok (.ireturn, 1) := by decide +kernel
theorem dX7_ifFlicked_60 : decode cX7_ifFlicked 60 = .ok (.aload_n 0, 1) := by decide +kernel
theorem dX7_ifFlicked_61 : decode cX7_ifFlicked 61 = .ok (.iload_n 1, 1) := by decide +kernel
theorem dX7_ifFlicked_62 : decode cX7_ifFlicked 62 = .ok (.iload_n 2, 1) := by decide +kernel
theorem dX7_ifFlicked_63 : decode cX7_ifFlicked 63 = .ok (.iload_n 3, 1) := by decide +kernel
theorem dX7_ifFlicked_64 : decode cX7_ifFlicked 64 = .ok (.invokevirtual 172, 3) := by decide +kernel
theorem dX7_ifFlicked_67 : decode cX7_ifFlicked 67 = .ok (.iload 4, 2) := by decide +kernel
theorem dX7_ifFlicked_69 : decode cX7_ifFlicked 69 = .ok (.tableswitch 63 0 3 #[31, 39, 47, 55], 31) := by decide +kernel
theorem dX7_ifFlicked_100 : decode cX7_ifFlicked 100 = .ok (.aload_n 0, 1) := by decide +kernel
theorem dX7_ifFlicked_101 : decode cX7_ifFlicked 101 = .ok (.getfield 22, 3) := by decide +kernel
theorem dX7_ifFlicked_104 : decode cX7_ifFlicked 104 = .ok (.getfield 116, 3) := by decide +kernel
theorem dX7_ifFlicked_107 : decode cX7_ifFlicked 107 = .ok (.ireturn, 1) := by decide +kernel
theorem dX7_ifFlicked_108 : decode cX7_ifFlicked 108 = .ok (.aload_n 0, 1) := by decide +kernel
theorem dX7_ifFlicked_109 : decode cX7_ifFlicked 109 = .ok (.getfield 22, 3) := by decide +kernel
theorem dX7_ifFlicked_112 : decode cX7_ifFlicked 112 = .ok (.getfield 176, 3) := by decide +kernel
theorem dX7_ifFlicked_115 : decode cX7_ifFlicked 115 = .ok (.ireturn, 1) := by decide +kernel
theorem dX7_ifFlicked_116 : decode cX7_ifFlicked 116 = .ok (.aload_n 0, 1) := by decide +kernel
theorem dX7_ifFlicked_117 : decode cX7_ifFlicked 117 = .ok (.getfield 22, 3) := by decide +kernel
theorem dX7_ifFlicked_120 : decode cX7_ifFlicked 120 = .ok (.getfield 179, 3) := by decide +kernel
theorem dX7_ifFlicked_123 : decode cX7_ifFlicked 123 = .ok (.ireturn, 1) := by decide +kernel
theorem dX7_ifFlicked_124 : decode cX7_ifFlicked 124 = .ok (.aload_n 0, 1) := by decide +kernel
theorem dX7_ifFlicked_125 : decode cX7_ifFlicked 125 = .ok (.getfield 22, 3) := by decide +kernel
theorem dX7_ifFlicked_128 : decode cX7_ifFlicked 128 = .ok (.getfield 180, 3) := by decide +kernel
theorem dX7_ifFlicked_131 : decode cX7_ifFlicked 131 = .ok (.ireturn, 1) := by decide +kernel
theorem dX7_ifFlicked_132 : decode cX7_ifFlicked 132 = .ok (.bipush 100, 2) := by decide +kernel
theorem dX7_ifFlicked_134 : decode cX7_ifFlicked 134 = .ok (.aload_n 0, 1) := by decide +kernel
theorem dX7_ifFlicked_135 : decode cX7_ifFlicked 135 = .ok (.getfield 22, 3) := by decide +kernel
theorem dX7_ifFlicked_138 : decode cX7_ifFlicked 138 = .ok (.getfield 183, 3) := by decide +kernel
theorem dX7_ifFlicked_141 : decode cX7_ifFlicked 141 = .ok (.imul, 1) := by decide +kernel
theorem dX7_ifFlicked_142 : decode cX7_ifFlicked 142 = .ok (.aload_n 0, 1) := by decide +kernel
theorem dX7_ifFlicked_143 : decode cX7_ifFlicked 143 = .ok (.getfield 22, 3) := by decide +kernel
theorem dX7_ifFlicked_146 : decode cX7_ifFlicked 146 = .ok (.getfield 186, 3) := by decide +kernel
theorem dX7_ifFlicked_149 : decode cX7_ifFlicked 149 = .ok (.iadd, 1) := by decide +kernel
theorem dX7_ifFlicked_150 : decode cX7_ifFlicked 150 = .ok (.ireturn, 1) := by decide +kernel
theorem dX7_bestFlick_0 : decode cX7_bestFlick 0 = .ok (.aload_n 0, 1) := by decide +kernel
theorem dX7_bestFlick_1 : decode cX7_bestFlick 1 = .ok (.getfield 10, 3) := by decide +kernel
theorem dX7_bestFlick_4 : decode cX7_bestFlick 4 = .ok (.iload_n 1, 1) := by decide +kernel
theorem dX7_bestFlick_5 : decode cX7_bestFlick 5 = .ok (.invokevirtual 58, 3) := by decide +kernel
theorem dX7_bestFlick_8 : decode cX7_bestFlick 8 = .ok (.astore_n 2, 1) := by decide +kernel
theorem dX7_bestFlick_9 : decode cX7_bestFlick 9 = .ok (.aload_n 2, 1) := by decide +kernel
theorem dX7_bestFlick_10 : decode cX7_bestFlick 10 = .ok (.ifnonnull 7, 3) := by decide +kernel
theorem dX7_bestFlick_13 : decode cX7_bestFlick 13 = .ok (.sipush (-1001), 3) := by decide +kernel
theorem dX7_bestFlick_16 : decode cX7_bestFlick 16 = .ok (.ireturn, 1) := by decide +kernel
theorem dX7_bestFlick_17 : decode cX7_bestFlick 17 = .ok (.aload_n 2, 1) := by decide +kernel
theorem dX7_bestFlick_18 : decode cX7_bestFlick 18 = .ok (.getfield 66, 3) := by decide +kernel
theorem dX7_bestFlick_21 : decode cX7_bestFlick 21 = .ok (.ifCond .ne 7, 3) := by decide +kernel
theorem dX7_bestFlick_24 : decode cX7_bestFlick 24 = .ok (.sipush (-1003), 3) := by decide +kernel
theorem dX7_bestFlick_27 : decode cX7_bestFlick 27 = .ok (.ireturn, 1) := by decide +kernel
theorem dX7_bestFlick_28 : decode cX7_bestFlick 28 = .ok (.iconst 0, 1) := by decide +kernel
theorem dX7_bestFlick_29 : decode cX7_bestFlick 29 = .ok (.istore_n 3, 1) := by decide +kernel
theorem dX7_bestFlick_30 : decode cX7_bestFlick 30 = .ok (.sipush (-1006), 3) := by decide +kernel
theorem dX7_bestFlick_33 : decode cX7_bestFlick 33 = .ok (.istore 4, 2) := by decide +kernel
theorem dX7_bestFlick_35 : decode cX7_bestFlick 35 = .ok (.iconst 1, 1) := by decide +kernel
theorem dX7_bestFlick_36 : decode cX7_bestFlick 36 = .ok (.istore 5, 2) := by decide +kernel
theorem dX7_bestFlick_38 : decode cX7_bestFlick 38 = .ok (.iload 5, 2) := by decide +kernel
theorem dX7_bestFlick_40 : decode cX7_bestFlick 40 = .ok (.bipush 40, 2) := by decide +kernel
theorem dX7_bestFlick_42 : decode cX7_bestFlick 42 = .ok (.if_icmp .gt 65, 3) := by decide +kernel
theorem dX7_bestFlick_45 : decode cX7_bestFlick 45 = .ok (.iconst 0, 1) := by decide +kernel
theorem dX7_bestFlick_46 : decode cX7_bestFlick 46 = .ok (.istore 6, 2) := by decide +kernel
theorem dX7_bestFlick_48 : decode cX7_bestFlick 48 = .ok (.iload 6, 2) := by decide +kernel
theorem dX7_bestFlick_50 : decode cX7_bestFlick 50 = .ok (.getstatic 189, 3) := by decide +kernel
theorem dX7_bestFlick_53 : decode cX7_bestFlick 53 = .ok (.arraylength, 1) := by decide +kernel
theorem dX7_bestFlick_54 : decode cX7_bestFlick 54 = .ok (.if_icmp .ge 47, 3) := by decide +kernel
theorem dX7_bestFlick_57 : decode cX7_bestFlick 57 = .ok (.aload_n 0, 1) := by decide +kernel
theorem dX7_bestFlick_58 : decode cX7_bestFlick 58 = .ok (.iload_n 1, 1) := by decide +kernel
theorem dX7_bestFlick_59 : decode cX7_bestFlick 59 = .ok (.iload 6, 2) := by decide +kernel
theorem dX7_bestFlick_61 : decode cX7_bestFlick 61 = .ok (.iload 5, 2) := by decide +kernel
theorem dX7_bestFlick_63 : decode cX7_bestFlick 63 = .ok (.invokevirtual 172, 3) := by decide +kernel
theorem dX7_bestFlick_66 : decode cX7_bestFlick 66 = .ok (.aload_n 0, 1) := by decide +kernel
theorem dX7_bestFlick_67 : decode cX7_bestFlick 67 = .ok (.getfield 22, 3) := by decide +kernel
theorem dX7_bestFlick_70 : decode cX7_bestFlick 70 = .ok (.getfield 176, 3) := by decide +kernel
theorem dX7_bestFlick_73 : decode cX7_bestFlick 73 = .ok (.iload_n 3, 1) := by decide +kernel
theorem dX7_bestFlick_74 : decode cX7_bestFlick 74 = .ok (.if_icmp .le 21, 3) := by decide +kernel
theorem dX7_bestFlick_77 : decode cX7_bestFlick 77 = .ok (.aload_n 0, 1) := by decide +kernel
theorem dX7_bestFlick_78 : decode cX7_bestFlick 78 = .ok (.getfield 22, 3) := by decide +kernel
theorem dX7_bestFlick_81 : decode cX7_bestFlick 81 = .ok (.getfield 176, 3) := by decide +kernel
theorem dX7_bestFlick_84 : decode cX7_bestFlick 84 = .ok (.istore_n 3, 1) := by decide +kernel
theorem dX7_bestFlick_85 : decode cX7_bestFlick 85 = .ok (.bipush 100, 2) := by decide +kernel
theorem dX7_bestFlick_87 : decode cX7_bestFlick 87 = .ok (.iload 6, 2) := by decide +kernel
theorem dX7_bestFlick_89 : decode cX7_bestFlick 89 = .ok (.imul, 1) := by decide +kernel
theorem dX7_bestFlick_90 : decode cX7_bestFlick 90 = .ok (.iload 5, 2) := by decide +kernel
theorem dX7_bestFlick_92 : decode cX7_bestFlick 92 = .ok (.iadd, 1) := by decide +kernel
theorem dX7_bestFlick_93 : decode cX7_bestFlick 93 = .ok (.istore 4, 2) := by decide +kernel
theorem dX7_bestFlick_95 : decode cX7_bestFlick 95 = .ok (.iinc 6 1, 3) := by decide +kernel
theorem dX7_bestFlick_98 : decode cX7_bestFlick 98 = .ok (.goto (-50), 3) := by decide +kernel
theorem dX7_bestFlick_101 : decode cX7_bestFlick 101 = .ok (.iinc 5 1, 3) := by decide +kernel
theorem dX7_bestFlick_104 : decode cX7_bestFlick 104 = .ok (.goto (-66), 3) := by decide +kernel
theorem dX7_bestFlick_107 : decode cX7_bestFlick 107 = .ok (.iload 4, 2) := by decide +kernel
theorem dX7_bestFlick_109 : decode cX7_bestFlick 109 = .ok (.ireturn, 1) := by decide +kernel
theorem dX7_wayOut_0 : decode cX7_wayOut 0 = .ok (.aload_n 0, 1) := by decide +kernel
theorem dX7_wayOut_1 : decode cX7_wayOut 1 = .ok (.getfield 10, 3) := by decide +kernel
theorem dX7_wayOut_4 : decode cX7_wayOut 4 = .ok (.iload_n 1, 1) := by decide +kernel
theorem dX7_wayOut_5 : decode cX7_wayOut 5 = .ok (.invokevirtual 58, 3) := by decide +kernel
theorem dX7_wayOut_8 : decode cX7_wayOut 8 = .ok (.astore_n 2, 1) := by decide +kernel
theorem dX7_wayOut_9 : decode cX7_wayOut 9 = .ok (.aload_n 2, 1) := by decide +kernel
theorem dX7_wayOut_10 : decode cX7_wayOut 10 = .ok (.ifnonnull 7, 3) := by decide +kernel
theorem dX7_wayOut_13 : decode cX7_wayOut 13 = .ok (.sipush (-1001), 3) := by decide +kernel
theorem dX7_wayOut_16 : decode cX7_wayOut 16 = .ok (.ireturn, 1) := by decide +kernel
theorem dX7_wayOut_17 : decode cX7_wayOut 17 = .ok (.aload_n 2, 1) := by decide +kernel
theorem dX7_wayOut_18 : decode cX7_wayOut 18 = .ok (.getfield 66, 3) := by decide +kernel
theorem dX7_wayOut_21 : decode cX7_wayOut 21 = .ok (.ifCond .ne 7, 3) := by decide +kernel
theorem dX7_wayOut_24 : decode cX7_wayOut 24 = .ok (.sipush (-1003), 3) := by decide +kernel
theorem dX7_wayOut_27 : decode cX7_wayOut 27 = .ok (.ireturn, 1) := by decide +kernel
theorem dX7_wayOut_28 : decode cX7_wayOut 28 = .ok (.iconst 0, 1) := by decide +kernel
theorem dX7_wayOut_29 : decode cX7_wayOut 29 = .ok (.istore_n 3, 1) := by decide +kernel
theorem dX7_wayOut_30 : decode cX7_wayOut 30 = .ok (.iload_n 3, 1) := by decide +kernel
theorem dX7_wayOut_31 : decode cX7_wayOut 31 = .ok (.bipush 30, 2) := by decide +kernel
theorem dX7_wayOut_33 : decode cX7_wayOut 33 = .ok (.if_icmp .gt 23, 3) := by decide +kernel
theorem dX7_wayOut_36 : decode cX7_wayOut 36 = .ok (.aload_n 0, 1) := by decide +kernel
theorem dX7_wayOut_37 : decode cX7_wayOut 37 = .ok (.getfield 10, 3) := by decide +kernel
theorem dX7_wayOut_40 : decode cX7_wayOut 40 = .ok (.aload_n 2, 1) := by decide +kernel
theorem dX7_wayOut_41 : decode cX7_wayOut 41 = .ok (.iload_n 3, 1) := by decide +kernel
theorem dX7_wayOut_42 : decode cX7_wayOut 42 = .ok (.invokevirtual 193, 3) := by decide +kernel
theorem dX7_wayOut_45 : decode cX7_wayOut 45 = .ok (.ifCond .eq 5, 3) := by decide +kernel
theorem dX7_wayOut_48 : decode cX7_wayOut 48 = .ok (.iload_n 3, 1) := by decide +kernel
theorem dX7_wayOut_49 : decode cX7_wayOut 49 = .ok (.ireturn, 1) := by decide +kernel
theorem dX7_wayOut_50 : decode cX7_wayOut 50 = .ok (.iinc 3 1, 3) := by decide +kernel
theorem dX7_wayOut_53 : decode cX7_wayOut 53 = .ok (.goto (-23), 3) := by decide +kernel
theorem dX7_wayOut_56 : decode cX7_wayOut 56 = .ok (.sipush (-1006), 3) := by decide +kernel
theorem dX7_wayOut_59 : decode cX7_wayOut 59 = .ok (.ireturn, 1) := by decide +kernel
theorem dX7_type_0 : decode cX7_type 0 = .ok (.iload_n 1, 1) := by decide +kernel
theorem dX7_type_1 : decode cX7_type 1 = .ok (.bipush 33, 2) := by decide +kernel
theorem dX7_type_3 : decode cX7_type 3 = .ok (.if_icmp .lt 9, 3) := by decide +kernel
theorem dX7_type_6 : decode cX7_type 6 = .ok (.iload_n 1, 1) := by decide +kernel
theorem dX7_type_7 : decode cX7_type 7 = .ok (.bipush 126, 2) := by decide +kernel
theorem dX7_type_9 : decode cX7_type 9 = .ok (.if_icmp .le 7, 3) := by decide +kernel
theorem dX7_type_12 : decode cX7_type 12 = .ok (.sipush (-1002), 3) := by decide +kernel
theorem dX7_type_15 : decode cX7_type 15 = .ok (.ireturn, 1) := by decide +kernel
theorem dX7_type_16 : decode cX7_type 16 = .ok (.aload_n 0, 1) := by decide +kernel
theorem dX7_type_17 : decode cX7_type 17 = .ok (.getfield 36, 3) := by decide +kernel
theorem dX7_type_20 : decode cX7_type 20 = .ok (.getfield 197, 3) := by decide +kernel
theorem dX7_type_23 : decode cX7_type 23 = .ok (.iload_n 1, 1) := by decide +kernel
theorem dX7_type_24 : decode cX7_type 24 = .ok (.i2c, 1) := by decide +kernel
theorem dX7_type_25 : decode cX7_type 25 = .ok (.invokevirtual 201, 3) := by decide +kernel
theorem dX7_type_28 : decode cX7_type 28 = .ok (.ifCond .eq 16, 3) := by decide +kernel
theorem dX7_type_31 : decode cX7_type 31 = .ok (.aload_n 0, 1) := by decide +kernel
theorem dX7_type_32 : decode cX7_type 32 = .ok (.getfield 36, 3) := by decide +kernel
theorem dX7_type_35 : decode cX7_type 35 = .ok (.getfield 197, 3) := by decide +kernel
theorem dX7_type_38 : decode cX7_type 38 = .ok (.getfield 207, 3) := by decide +kernel
theorem dX7_type_41 : decode cX7_type 41 = .ok (.goto 6, 3) := by decide +kernel
theorem dX7_type_44 : decode cX7_type 44 = .ok (.sipush (-1004), 3) := by decide +kernel
theorem dX7_type_47 : decode cX7_type 47 = .ok (.ireturn, 1) := by decide +kernel
theorem dX7_clearText_0 : decode cX7_clearText 0 = .ok (.aload_n 0, 1) := by decide +kernel
theorem dX7_clearText_1 : decode cX7_clearText 1 = .ok (.getfield 36, 3) := by decide +kernel
theorem dX7_clearText_4 : decode cX7_clearText 4 = .ok (.getfield 197, 3) := by decide +kernel
theorem dX7_clearText_7 : decode cX7_clearText 7 = .ok (.getfield 207, 3) := by decide +kernel
theorem dX7_clearText_10 : decode cX7_clearText 10 = .ok (.istore_n 1, 1) := by decide +kernel
theorem dX7_clearText_11 : decode cX7_clearText 11 = .ok (.aload_n 0, 1) := by decide +kernel
theorem dX7_clearText_12 : decode cX7_clearText 12 = .ok (.getfield 36, 3) := by decide +kernel
theorem dX7_clearText_15 : decode cX7_clearText 15 = .ok (.getfield 197, 3) := by decide +kernel
theorem dX7_clearText_18 : decode cX7_clearText 18 = .ok (.iconst 0, 1) := by decide +kernel
theorem dX7_clearText_19 : decode cX7_clearText 19 = .ok (.putfield 207, 3) := by decide +kernel
theorem dX7_clearText_22 : decode cX7_clearText 22 = .ok (.iload_n 1, 1) := by decide +kernel
theorem dX7_clearText_23 : decode cX7_clearText 23 = .ok (.ireturn, 1) := by decide +kernel
theorem dX7_syntaxError_0 : decode cX7_syntaxError 0 = .ok (.aload_n 0, 1) := by decide +kernel
theorem dX7_syntaxError_1 : decode cX7_syntaxError 1 = .ok (.getfield 36, 3) := by decide +kernel
theorem dX7_syntaxError_4 : decode cX7_syntaxError 4 = .ok (.invokevirtual 210, 3) := by decide +kernel
theorem dX7_syntaxError_7 : decode cX7_syntaxError 7 = .ok (.aload_n 0, 1) := by decide +kernel
theorem dX7_syntaxError_8 : decode cX7_syntaxError 8 = .ok (.getfield 36, 3) := by decide +kernel
theorem dX7_syntaxError_11 : decode cX7_syntaxError 11 = .ok (.invokevirtual 213, 3) := by decide +kernel
theorem dX7_syntaxError_14 : decode cX7_syntaxError 14 = .ok (.iconst 1, 1) := by decide +kernel
theorem dX7_syntaxError_15 : decode cX7_syntaxError 15 = .ok (.istore_n 1, 1) := by decide +kernel
theorem dX7_syntaxError_16 : decode cX7_syntaxError 16 = .ok (.iload_n 1, 1) := by decide +kernel
theorem dX7_syntaxError_17 : decode cX7_syntaxError 17 = .ok (.bipush 80, 2) := by decide +kernel
theorem dX7_syntaxError_19 : decode cX7_syntaxError 19 = .ok (.if_icmp .ge 26, 3) := by decide +kernel
theorem dX7_syntaxError_22 : decode cX7_syntaxError 22 = .ok (.aload_n 0, 1) := by decide +kernel
theorem dX7_syntaxError_23 : decode cX7_syntaxError 23 = .ok (.getfield 36, 3) := by decide +kernel
theorem dX7_syntaxError_26 : decode cX7_syntaxError 26 = .ok (.invokevirtual 216, 3) := by decide +kernel
theorem dX7_syntaxError_29 : decode cX7_syntaxError 29 = .ok (.ifCond .eq 16, 3) := by decide +kernel
theorem dX7_syntaxError_32 : decode cX7_syntaxError 32 = .ok (.aload_n 0, 1) := by decide +kernel
theorem dX7_syntaxError_33 : decode cX7_syntaxError 33 = .ok (.getfield 36, 3) := by decide +kernel
theorem dX7_syntaxError_36 : decode cX7_syntaxError 36 = .ok (.invokevirtual 213, 3) := by decide +kernel
theorem dX7_syntaxError_39 : decode cX7_syntaxError 39 = .ok (.iinc 1 1, 3) := by decide +kernel
theorem dX7_syntaxError_42 : decode cX7_syntaxError 42 = .ok (.goto (-26), 3) := by decide +kernel
theorem dX7_syntaxError_45 : decode cX7_syntaxError 45 = .ok (.aload_n 0, 1) := by decide +kernel
theorem dX7_syntaxError_46 : decode cX7_syntaxError 46 = .ok (.getfield 36, 3) := by decide +kernel
theorem dX7_syntaxError_49 : decode cX7_syntaxError 49 = .ok (.getfield 220, 3) := by decide +kernel
theorem dX7_syntaxError_52 : decode cX7_syntaxError 52 = .ok (.ifCond .eq 13, 3) := by decide +kernel
theorem dX7_syntaxError_55 : decode cX7_syntaxError 55 = .ok (.aload_n 0, 1) := by decide +kernel
theorem dX7_syntaxError_56 : decode cX7_syntaxError 56 = .ok (.getfield 36, 3) := by decide +kernel
theorem dX7_syntaxError_59 : decode cX7_syntaxError 59 = .ok (.getfield 223, 3) := by decide +kernel
theorem dX7_syntaxError_62 : decode cX7_syntaxError 62 = .ok (.goto 6, 3) := by decide +kernel
theorem dX7_syntaxError_65 : decode cX7_syntaxError 65 = .ok (.sipush (-1006), 3) := by decide +kernel
theorem dX7_syntaxError_68 : decode cX7_syntaxError 68 = .ok (.ireturn, 1) := by decide +kernel
theorem dX7_readItems_0 : decode cX7_readItems 0 = .ok (.aload_n 0, 1) := by decide +kernel
theorem dX7_readItems_1 : decode cX7_readItems 1 = .ok (.invokevirtual 226, 3) := by decide +kernel
theorem dX7_readItems_4 : decode cX7_readItems 4 = .ok (.sipush (-1006), 3) := by decide +kernel
theorem dX7_readItems_7 : decode cX7_readItems 7 = .ok (.if_icmp .eq 7, 3) := by decide +kernel
theorem dX7_readItems_10 : decode cX7_readItems 10 = .ok (.sipush (-1005), 3) := by decide +kernel
theorem dX7_readItems_13 : decode cX7_readItems 13 = .ok (.ireturn, 1) := by decide +kernel
theorem dX7_readItems_14 : decode cX7_readItems 14 = .ok (.aload_n 0, 1) := by decide +kernel
theorem dX7_readItems_15 : decode cX7_readItems 15 = .ok (.getfield 29, 3) := by decide +kernel
theorem dX7_readItems_18 : decode cX7_readItems 18 = .ok (.aload_n 0, 1) := by decide +kernel
theorem dX7_readItems_19 : decode cX7_readItems 19 = .ok (.getfield 10, 3) := by decide +kernel
theorem dX7_readItems_22 : decode cX7_readItems 22 = .ok (.invokevirtual 44, 3) := by decide +kernel
theorem dX7_readItems_25 : decode cX7_readItems 25 = .ok (.aload_n 0, 1) := by decide +kernel
theorem dX7_readItems_26 : decode cX7_readItems 26 = .ok (.getfield 36, 3) := by decide +kernel
theorem dX7_readItems_29 : decode cX7_readItems 29 = .ok (.invokevirtual 210, 3) := by decide +kernel
theorem dX7_readItems_32 : decode cX7_readItems 32 = .ok (.iconst 0, 1) := by decide +kernel
theorem dX7_readItems_33 : decode cX7_readItems 33 = .ok (.istore_n 1, 1) := by decide +kernel
theorem dX7_readItems_34 : decode cX7_readItems 34 = .ok (.iload_n 1, 1) := by decide +kernel
theorem dX7_readItems_35 : decode cX7_readItems 35 = .ok (.bipush 80, 2) := by decide +kernel
theorem dX7_readItems_37 : decode cX7_readItems 37 = .ok (.if_icmp .ge 36, 3) := by decide +kernel
theorem dX7_readItems_40 : decode cX7_readItems 40 = .ok (.aload_n 0, 1) := by decide +kernel
theorem dX7_readItems_41 : decode cX7_readItems 41 = .ok (.getfield 36, 3) := by decide +kernel
theorem dX7_readItems_44 : decode cX7_readItems 44 = .ok (.invokevirtual 216, 3) := by decide +kernel
theorem dX7_readItems_47 : decode cX7_readItems 47 = .ok (.ifCond .eq 26, 3) := by decide +kernel
theorem dX7_readItems_50 : decode cX7_readItems 50 = .ok (.aload_n 0, 1) := by decide +kernel
theorem dX7_readItems_51 : decode cX7_readItems 51 = .ok (.getfield 36, 3) := by decide +kernel
theorem dX7_readItems_54 : decode cX7_readItems 54 = .ok (.invokevirtual 213, 3) := by decide +kernel
theorem dX7_readItems_57 : decode cX7_readItems 57 = .ok (.aload_n 0, 1) := by decide +kernel
theorem dX7_readItems_58 : decode cX7_readItems 58 = .ok (.invokevirtual 229, 3) := by decide +kernel
theorem dX7_readItems_61 : decode cX7_readItems 61 = .ok (.ifCond .ne 6, 3) := by decide +kernel
theorem dX7_readItems_64 : decode cX7_readItems 64 = .ok (.goto 9, 3) := by decide +kernel
theorem dX7_readItems_67 : decode cX7_readItems 67 = .ok (.iinc 1 1, 3) := by decide +kernel
theorem dX7_readItems_70 : decode cX7_readItems 70 = .ok (.goto (-36), 3) := by decide +kernel
theorem dX7_readItems_73 : decode cX7_readItems 73 = .ok (.aload_n 0, 1) := by decide +kernel
theorem dX7_readItems_74 : decode cX7_readItems 74 = .ok (.getfield 36, 3) := by decide +kernel
theorem dX7_readItems_77 : decode cX7_readItems 77 = .ok (.getfield 197, 3) := by decide +kernel
theorem dX7_readItems_80 : decode cX7_readItems 80 = .ok (.iconst 0, 1) := by decide +kernel
theorem dX7_readItems_81 : decode cX7_readItems 81 = .ok (.putfield 207, 3) := by decide +kernel
theorem dX7_readItems_84 : decode cX7_readItems 84 = .ok (.iload_n 1, 1) := by decide +kernel
theorem dX7_readItems_85 : decode cX7_readItems 85 = .ok (.ireturn, 1) := by decide +kernel
theorem dX7_undo_0 : decode cX7_undo 0 = .ok (.aload_n 0, 1) := by decide +kernel
theorem dX7_undo_1 : decode cX7_undo 1 = .ok (.getfield 29, 3) := by decide +kernel
theorem dX7_undo_4 : decode cX7_undo 4 = .ok (.getfield 232, 3) := by decide +kernel
theorem dX7_undo_7 : decode cX7_undo 7 = .ok (.ifCond .ne 7, 3) := by decide +kernel
theorem dX7_undo_10 : decode cX7_undo 10 = .ok (.sipush (-1003), 3) := by decide +kernel
theorem dX7_undo_13 : decode cX7_undo 13 = .ok (.ireturn, 1) := by decide +kernel
theorem dX7_undo_14 : decode cX7_undo 14 = .ok (.aload_n 0, 1) := by decide +kernel
theorem dX7_undo_15 : decode cX7_undo 15 = .ok (.getfield 29, 3) := by decide +kernel
theorem dX7_undo_18 : decode cX7_undo 18 = .ok (.aload_n 0, 1) := by decide +kernel
theorem dX7_undo_19 : decode cX7_undo 19 = .ok (.getfield 10, 3) := by decide +kernel
theorem dX7_undo_22 : decode cX7_undo 22 = .ok (.invokevirtual 235, 3) := by decide +kernel
theorem dX7_undo_25 : decode cX7_undo 25 = .ok (.aload_n 0, 1) := by decide +kernel
theorem dX7_undo_26 : decode cX7_undo 26 = .ok (.getfield 29, 3) := by decide +kernel
theorem dX7_undo_29 : decode cX7_undo 29 = .ok (.getfield 232, 3) := by decide +kernel
theorem dX7_undo_32 : decode cX7_undo 32 = .ok (.ireturn, 1) := by decide +kernel
theorem dX7_digest_0 : decode cX7_digest 0 = .ok (.ldc2_w 238, 3) := by decide +kernel
theorem dX7_digest_3 : decode cX7_digest 3 = .ok (.lstore_n 1, 1) := by decide +kernel
theorem dX7_digest_4 : decode cX7_digest 4 = .ok (.iconst 0, 1) := by decide +kernel
theorem dX7_digest_5 : decode cX7_digest 5 = .ok (.istore_n 3, 1) := by decide +kernel
theorem dX7_digest_6 : decode cX7_digest 6 = .ok (.iload_n 3, 1) := by decide +kernel
theorem dX7_digest_7 : decode cX7_digest 7 = .ok (.bipush 8, 2) := by decide +kernel
theorem dX7_digest_9 : decode cX7_digest 9 = .ok (.if_icmp .ge 20, 3) := by decide +kernel
theorem dX7_digest_12 : decode cX7_digest 12 = .ok (.lload_n 1, 1) := by decide +kernel
theorem dX7_digest_13 : decode cX7_digest 13 = .ok (.aload_n 0, 1) := by decide +kernel
theorem dX7_digest_14 : decode cX7_digest 14 = .ok (.iload_n 3, 1) := by decide +kernel
theorem dX7_digest_15 : decode cX7_digest 15 = .ok (.invokevirtual 240, 3) := by decide +kernel
theorem dX7_digest_18 : decode cX7_digest 18 = .ok (.i2l, 1) := by decide +kernel
theorem dX7_digest_19 : decode cX7_digest 19 = .ok (.invokestatic 243, 3) := by decide +kernel
theorem dX7_digest_22 : decode cX7_digest 22 = .ok (.lstore_n 1, 1) := by decide +kernel
theorem dX7_digest_23 : decode cX7_digest 23 = .ok (.iinc 3 1, 3) := by decide +kernel
theorem dX7_digest_26 : decode cX7_digest 26 = .ok (.goto (-20), 3) := by decide +kernel
theorem dX7_digest_29 : decode cX7_digest 29 = .ok (.iconst 0, 1) := by decide +kernel
theorem dX7_digest_30 : decode cX7_digest 30 = .ok (.istore_n 3, 1) := by decide +kernel
theorem dX7_digest_31 : decode cX7_digest 31 = .ok (.iload_n 3, 1) := by decide +kernel
theorem dX7_digest_32 : decode cX7_digest 32 = .ok (.aload_n 0, 1) := by decide +kernel
theorem dX7_digest_33 : decode cX7_digest 33 = .ok (.getfield 10, 3) := by decide +kernel
theorem dX7_digest_36 : decode cX7_digest 36 = .ok (.getfield 93, 3) := by decide +kernel
theorem dX7_digest_39 : decode cX7_digest 39 = .ok (.if_icmp .ge 38, 3) := by decide +kernel
theorem dX7_digest_42 : decode cX7_digest 42 = .ok (.iconst 0, 1) := by decide +kernel
theorem dX7_digest_43 : decode cX7_digest 43 = .ok (.istore 4, 2) := by decide +kernel
theorem dX7_digest_45 : decode cX7_digest 45 = .ok (.iload 4, 2) := by decide +kernel
theorem dX7_digest_47 : decode cX7_digest 47 = .ok (.bipush 6, 2) := by decide +kernel
theorem dX7_digest_49 : decode cX7_digest 49 = .ok (.if_icmp .ge 22, 3) := by decide +kernel
theorem dX7_digest_52 : decode cX7_digest 52 = .ok (.lload_n 1, 1) := by decide +kernel
theorem dX7_digest_53 : decode cX7_digest 53 = .ok (.aload_n 0, 1) := by decide +kernel
theorem dX7_digest_54 : decode cX7_digest 54 = .ok (.iload_n 3, 1) := by decide +kernel
theorem dX7_digest_55 : decode cX7_digest 55 = .ok (.iload 4, 2) := by decide +kernel
theorem dX7_digest_57 : decode cX7_digest 57 = .ok (.invokevirtual 247, 3) := by decide +kernel
theorem dX7_digest_60 : decode cX7_digest 60 = .ok (.i2l, 1) := by decide +kernel
theorem dX7_digest_61 : decode cX7_digest 61 = .ok (.invokestatic 243, 3) := by decide +kernel
theorem dX7_digest_64 : decode cX7_digest 64 = .ok (.lstore_n 1, 1) := by decide +kernel
theorem dX7_digest_65 : decode cX7_digest 65 = .ok (.iinc 4 1, 3) := by decide +kernel
theorem dX7_digest_68 : decode cX7_digest 68 = .ok (.goto (-23), 3) := by decide +kernel
theorem dX7_digest_71 : decode cX7_digest 71 = .ok (.iinc 3 1, 3) := by decide +kernel
theorem dX7_digest_74 : decode cX7_digest 74 = .ok (.goto (-43), 3) := by decide +kernel
theorem dX7_digest_77 : decode cX7_digest 77 = .ok (.iconst 0, 1) := by decide +kernel
theorem dX7_digest_78 : decode cX7_digest 78 = .ok (.istore_n 3, 1) := by decide +kernel
theorem dX7_digest_79 : decode cX7_digest 79 = .ok (.iload_n 3, 1) := by decide +kernel
theorem dX7_digest_80 : decode cX7_digest 80 = .ok (.aload_n 0, 1) := by decide +kernel
theorem dX7_digest_81 : decode cX7_digest 81 = .ok (.getfield 10, 3) := by decide +kernel
theorem dX7_digest_84 : decode cX7_digest 84 = .ok (.getfield 122, 3) := by decide +kernel
theorem dX7_digest_87 : decode cX7_digest 87 = .ok (.if_icmp .ge 37, 3) := by decide +kernel
theorem dX7_digest_90 : decode cX7_digest 90 = .ok (.iconst 0, 1) := by decide +kernel
theorem dX7_digest_91 : decode cX7_digest 91 = .ok (.istore 4, 2) := by decide +kernel
theorem dX7_digest_93 : decode cX7_digest 93 = .ok (.iload 4, 2) := by decide +kernel
theorem dX7_digest_95 : decode cX7_digest 95 = .ok (.iconst 5, 1) := by decide +kernel
theorem dX7_digest_96 : decode cX7_digest 96 = .ok (.if_icmp .ge 22, 3) := by decide +kernel
theorem dX7_digest_99 : decode cX7_digest 99 = .ok (.lload_n 1, 1) := by decide +kernel
theorem dX7_digest_100 : decode cX7_digest 100 = .ok (.aload_n 0, 1) := by decide +kernel
theorem dX7_digest_101 : decode cX7_digest 101 = .ok (.iload_n 3, 1) := by decide +kernel
theorem dX7_digest_102 : decode cX7_digest 102 = .ok (.iload 4, 2) := by decide +kernel
theorem dX7_digest_104 : decode cX7_digest 104 = .ok (.invokevirtual 250, 3) := by decide +kernel
theorem dX7_digest_107 : decode cX7_digest 107 = .ok (.i2l, 1) := by decide +kernel
theorem dX7_digest_108 : decode cX7_digest 108 = .ok (.invokestatic 243, 3) := by decide +kernel
theorem dX7_digest_111 : decode cX7_digest 111 = .ok (.lstore_n 1, 1) := by decide +kernel
theorem dX7_digest_112 : decode cX7_digest 112 = .ok (.iinc 4 1, 3) := by decide +kernel
theorem dX7_digest_115 : decode cX7_digest 115 = .ok (.goto (-22), 3) := by decide +kernel
theorem dX7_digest_118 : decode cX7_digest 118 = .ok (.iinc 3 1, 3) := by decide +kernel
theorem dX7_digest_121 : decode cX7_digest 121 = .ok (.goto (-42), 3) := by decide +kernel
theorem dX7_digest_124 : decode cX7_digest 124 = .ok (.iconst 0, 1) := by decide +kernel
theorem dX7_digest_125 : decode cX7_digest 125 = .ok (.istore_n 3, 1) := by decide +kernel
theorem dX7_digest_126 : decode cX7_digest 126 = .ok (.iload_n 3, 1) := by decide +kernel
theorem dX7_digest_127 : decode cX7_digest 127 = .ok (.iconst 3, 1) := by decide +kernel
theorem dX7_digest_128 : decode cX7_digest 128 = .ok (.if_icmp .ge 20, 3) := by decide +kernel
theorem dX7_digest_131 : decode cX7_digest 131 = .ok (.lload_n 1, 1) := by decide +kernel
theorem dX7_digest_132 : decode cX7_digest 132 = .ok (.aload_n 0, 1) := by decide +kernel
theorem dX7_digest_133 : decode cX7_digest 133 = .ok (.iload_n 3, 1) := by decide +kernel
theorem dX7_digest_134 : decode cX7_digest 134 = .ok (.invokevirtual 253, 3) := by decide +kernel
theorem dX7_digest_137 : decode cX7_digest 137 = .ok (.i2l, 1) := by decide +kernel
theorem dX7_digest_138 : decode cX7_digest 138 = .ok (.invokestatic 243, 3) := by decide +kernel
theorem dX7_digest_141 : decode cX7_digest 141 = .ok (.lstore_n 1, 1) := by decide +kernel
theorem dX7_digest_142 : decode cX7_digest 142 = .ok (.iinc 3 1, 3) := by decide +kernel
theorem dX7_digest_145 : decode cX7_digest 145 = .ok (.goto (-19), 3) := by decide +kernel
theorem dX7_digest_148 : decode cX7_digest 148 = .ok (.lload_n 1, 1) := by decide +kernel
theorem dX7_digest_149 : decode cX7_digest 149 = .ok (.aload_n 0, 1) := by decide +kernel
theorem dX7_digest_150 : decode cX7_digest 150 = .ok (.invokevirtual 256, 3) := by decide +kernel
theorem dX7_digest_153 : decode cX7_digest 153 = .ok (.i2l, 1) := by decide +kernel
theorem dX7_digest_154 : decode cX7_digest 154 = .ok (.invokestatic 243, 3) := by decide +kernel
theorem dX7_digest_157 : decode cX7_digest 157 = .ok (.lstore_n 1, 1) := by decide +kernel
theorem dX7_digest_158 : decode cX7_digest 158 = .ok (.iconst 0, 1) := by decide +kernel
theorem dX7_digest_159 : decode cX7_digest 159 = .ok (.istore_n 3, 1) := by decide +kernel
theorem dX7_digest_160 : decode cX7_digest 160 = .ok (.iload_n 3, 1) := by decide +kernel
theorem dX7_digest_161 : decode cX7_digest 161 = .ok (.aload_n 0, 1) := by decide +kernel
theorem dX7_digest_162 : decode cX7_digest 162 = .ok (.getfield 10, 3) := by decide +kernel
theorem dX7_digest_165 : decode cX7_digest 165 = .ok (.getfield 93, 3) := by decide +kernel
theorem dX7_digest_168 : decode cX7_digest 168 = .ok (.if_icmp .ge 20, 3) := by decide +kernel
theorem dX7_digest_171 : decode cX7_digest 171 = .ok (.lload_n 1, 1) := by decide +kernel
theorem dX7_digest_172 : decode cX7_digest 172 = .ok (.aload_n 0, 1) := by decide +kernel
theorem dX7_digest_173 : decode cX7_digest 173 = .ok (.iload_n 3, 1) := by decide +kernel
theorem dX7_digest_174 : decode cX7_digest 174 = .ok (.invokevirtual 259, 3) := by decide +kernel
theorem dX7_digest_177 : decode cX7_digest 177 = .ok (.i2l, 1) := by decide +kernel
theorem dX7_digest_178 : decode cX7_digest 178 = .ok (.invokestatic 243, 3) := by decide +kernel
theorem dX7_digest_181 : decode cX7_digest 181 = .ok (.lstore_n 1, 1) := by decide +kernel
theorem dX7_digest_182 : decode cX7_digest 182 = .ok (.iinc 3 1, 3) := by decide +kernel
theorem dX7_digest_185 : decode cX7_digest 185 = .ok (.goto (-25), 3) := by decide +kernel
theorem dX7_digest_188 : decode cX7_digest 188 = .ok (.lload_n 1, 1) := by decide +kernel
theorem dX7_digest_189 : decode cX7_digest 189 = .ok (.lreturn, 1) := by decide +kernel
theorem dX7_tryFlick_0 : decode cX7_tryFlick 0 = .ok (.aload_n 0, 1) := by decide +kernel
theorem dX7_tryFlick_1 : decode cX7_tryFlick 1 = .ok (.getfield 16, 3) := by decide +kernel
theorem dX7_tryFlick_4 : decode cX7_tryFlick 4 = .ok (.aload_n 0, 1) := by decide +kernel
theorem dX7_tryFlick_5 : decode cX7_tryFlick 5 = .ok (.getfield 10, 3) := by decide +kernel
theorem dX7_tryFlick_8 : decode cX7_tryFlick 8 = .ok (.invokevirtual 262, 3) := by decide +kernel
theorem dX7_tryFlick_11 : decode cX7_tryFlick 11 = .ok (.aload_n 0, 1) := by decide +kernel
theorem dX7_tryFlick_12 : decode cX7_tryFlick 12 = .ok (.getfield 22, 3) := by decide +kernel
theorem dX7_tryFlick_15 : decode cX7_tryFlick 15 = .ok (.aload_n 0, 1) := by decide +kernel
theorem dX7_tryFlick_16 : decode cX7_tryFlick 16 = .ok (.getfield 16, 3) := by decide +kernel
theorem dX7_tryFlick_19 : decode cX7_tryFlick 19 = .ok (.iload_n 1, 1) := by decide +kernel
theorem dX7_tryFlick_20 : decode cX7_tryFlick 20 = .ok (.iload_n 2, 1) := by decide +kernel
theorem dX7_tryFlick_21 : decode cX7_tryFlick 21 = .ok (.iload_n 3, 1) := by decide +kernel
theorem dX7_tryFlick_22 : decode cX7_tryFlick 22 = .ok (.invokevirtual 112, 3) := by decide +kernel
theorem dX7_tryFlick_25 : decode cX7_tryFlick 25 = .ok (.return_, 1) := by decide +kernel
theorem dX7_addItemRead_0 : decode cX7_addItemRead 0 = .ok (.aload_n 0, 1) := by decide +kernel
theorem dX7_addItemRead_1 : decode cX7_addItemRead 1 = .ok (.getfield 36, 3) := by decide +kernel
theorem dX7_addItemRead_4 : decode cX7_addItemRead 4 = .ok (.getfield 265, 3) := by decide +kernel
theorem dX7_addItemRead_7 : decode cX7_addItemRead 7 = .ok (.ifCond .eq 71, 3) := by decide +kernel
theorem dX7_addItemRead_10 : decode cX7_addItemRead 10 = .ok (.aload_n 0, 1) := by decide +kernel
theorem dX7_addItemRead_11 : decode cX7_addItemRead 11 = .ok (.getfield 10, 3) := by decide +kernel
theorem dX7_addItemRead_14 : decode cX7_addItemRead 14 = .ok (.aload_n 0, 1) := by decide +kernel
theorem dX7_addItemRead_15 : decode cX7_addItemRead 15 = .ok (.getfield 36, 3) := by decide +kernel
theorem dX7_addItemRead_18 : decode cX7_addItemRead 18 = .ok (.getfield 268, 3) := by decide +kernel
theorem dX7_addItemRead_21 : decode cX7_addItemRead 21 = .ok (.aload_n 0, 1) := by decide +kernel
theorem dX7_addItemRead_22 : decode cX7_addItemRead 22 = .ok (.getfield 36, 3) := by decide +kernel
theorem dX7_addItemRead_25 : decode cX7_addItemRead 25 = .ok (.getfield 269, 3) := by decide +kernel
theorem dX7_addItemRead_28 : decode cX7_addItemRead 28 = .ok (.aload_n 0, 1) := by decide +kernel
theorem dX7_addItemRead_29 : decode cX7_addItemRead 29 = .ok (.getfield 36, 3) := by decide +kernel
theorem dX7_addItemRead_32 : decode cX7_addItemRead 32 = .ok (.getfield 270, 3) := by decide +kernel
theorem dX7_addItemRead_35 : decode cX7_addItemRead 35 = .ok (.invokevirtual 51, 3) := by decide +kernel
theorem dX7_addItemRead_38 : decode cX7_addItemRead 38 = .ok (.ifCond .ne 38, 3) := by decide +kernel
theorem dX7_addItemRead_41 : decode cX7_addItemRead 41 = .ok (.aload_n 0, 1) := by decide +kernel
theorem dX7_addItemRead_42 : decode cX7_addItemRead 42 = .ok (.getfield 10, 3) := by decide +kernel
theorem dX7_addItemRead_45 : decode cX7_addItemRead 45 = .ok (.aload_n 0, 1) := by decide +kernel
theorem dX7_addItemRead_46 : decode cX7_addItemRead 46 = .ok (.getfield 36, 3) := by decide +kernel
theorem dX7_addItemRead_49 : decode cX7_addItemRead 49 = .ok (.getfield 268, 3) := by decide +kernel
theorem dX7_addItemRead_52 : decode cX7_addItemRead 52 = .ok (.aload_n 0, 1) := by decide +kernel
theorem dX7_addItemRead_53 : decode cX7_addItemRead 53 = .ok (.getfield 36, 3) := by decide +kernel
theorem dX7_addItemRead_56 : decode cX7_addItemRead 56 = .ok (.getfield 269, 3) := by decide +kernel
theorem dX7_addItemRead_59 : decode cX7_addItemRead 59 = .ok (.aload_n 0, 1) := by decide +kernel
theorem dX7_addItemRead_60 : decode cX7_addItemRead 60 = .ok (.getfield 36, 3) := by decide +kernel
theorem dX7_addItemRead_63 : decode cX7_addItemRead 63 = .ok (.getfield 270, 3) := by decide +kernel
theorem dX7_addItemRead_66 : decode cX7_addItemRead 66 = .ok (.invokevirtual 55, 3) := by decide +kernel
theorem dX7_addItemRead_69 : decode cX7_addItemRead 69 = .ok (.ifCond .lt 7, 3) := by decide +kernel
theorem dX7_addItemRead_72 : decode cX7_addItemRead 72 = .ok (.iconst 1, 1) := by decide +kernel
theorem dX7_addItemRead_73 : decode cX7_addItemRead 73 = .ok (.goto 4, 3) := by decide +kernel
theorem dX7_addItemRead_76 : decode cX7_addItemRead 76 = .ok (.iconst 0, 1) := by decide +kernel
theorem dX7_addItemRead_77 : decode cX7_addItemRead 77 = .ok (.ireturn, 1) := by decide +kernel
theorem dX7_addItemRead_78 : decode cX7_addItemRead 78 = .ok (.aload_n 0, 1) := by decide +kernel
theorem dX7_addItemRead_79 : decode cX7_addItemRead 79 = .ok (.getfield 10, 3) := by decide +kernel
theorem dX7_addItemRead_82 : decode cX7_addItemRead 82 = .ok (.aload_n 0, 1) := by decide +kernel
theorem dX7_addItemRead_83 : decode cX7_addItemRead 83 = .ok (.getfield 36, 3) := by decide +kernel
theorem dX7_addItemRead_86 : decode cX7_addItemRead 86 = .ok (.getfield 268, 3) := by decide +kernel
theorem dX7_addItemRead_89 : decode cX7_addItemRead 89 = .ok (.aload_n 0, 1) := by decide +kernel
theorem dX7_addItemRead_90 : decode cX7_addItemRead 90 = .ok (.getfield 36, 3) := by decide +kernel
theorem dX7_addItemRead_93 : decode cX7_addItemRead 93 = .ok (.getfield 269, 3) := by decide +kernel
theorem dX7_addItemRead_96 : decode cX7_addItemRead 96 = .ok (.aload_n 0, 1) := by decide +kernel
theorem dX7_addItemRead_97 : decode cX7_addItemRead 97 = .ok (.getfield 36, 3) := by decide +kernel
theorem dX7_addItemRead_100 : decode cX7_addItemRead 100 = .ok (.getfield 271, 3) := by decide +kernel
theorem dX7_addItemRead_103 : decode cX7_addItemRead 103 = .ok (.aload_n 0, 1) := by decide +kernel
theorem dX7_addItemRead_104 : decode cX7_addItemRead 104 = .ok (.getfield 36, 3) := by decide +kernel
theorem dX7_addItemRead_107 : decode cX7_addItemRead 107 = .ok (.getfield 272, 3) := by decide +kernel
theorem dX7_addItemRead_110 : decode cX7_addItemRead 110 = .ok (.invokevirtual 40, 3) := by decide +kernel
theorem dX7_addItemRead_113 : decode cX7_addItemRead 113 = .ok (.ifCond .ne 45, 3) := by decide +kernel
theorem dX7_addItemRead_116 : decode cX7_addItemRead 116 = .ok (.aload_n 0, 1) := by decide +kernel
theorem dX7_addItemRead_117 : decode cX7_addItemRead 117 = .ok (.getfield 10, 3) := by decide +kernel
theorem dX7_addItemRead_120 : decode cX7_addItemRead 120 = .ok (.aload_n 0, 1) := by decide +kernel
theorem dX7_addItemRead_121 : decode cX7_addItemRead 121 = .ok (.getfield 36, 3) := by decide +kernel
theorem dX7_addItemRead_124 : decode cX7_addItemRead 124 = .ok (.getfield 268, 3) := by decide +kernel
theorem dX7_addItemRead_127 : decode cX7_addItemRead 127 = .ok (.aload_n 0, 1) := by decide +kernel
theorem dX7_addItemRead_128 : decode cX7_addItemRead 128 = .ok (.getfield 36, 3) := by decide +kernel
theorem dX7_addItemRead_131 : decode cX7_addItemRead 131 = .ok (.getfield 269, 3) := by decide +kernel
theorem dX7_addItemRead_134 : decode cX7_addItemRead 134 = .ok (.aload_n 0, 1) := by decide +kernel
theorem dX7_addItemRead_135 : decode cX7_addItemRead 135 = .ok (.getfield 36, 3) := by decide +kernel
theorem dX7_addItemRead_138 : decode cX7_addItemRead 138 = .ok (.getfield 271, 3) := by decide +kernel
theorem dX7_addItemRead_141 : decode cX7_addItemRead 141 = .ok (.aload_n 0, 1) := by decide +kernel
theorem dX7_addItemRead_142 : decode cX7_addItemRead 142 = .ok (.getfield 36, 3) := by decide +kernel
theorem dX7_addItemRead_145 : decode cX7_addItemRead 145 = .ok (.getfield 272, 3) := by decide +kernel
theorem dX7_addItemRead_148 : decode cX7_addItemRead 148 = .ok (.invokevirtual 48, 3) := by decide +kernel
theorem dX7_addItemRead_151 : decode cX7_addItemRead 151 = .ok (.ifCond .lt 7, 3) := by decide +kernel
theorem dX7_addItemRead_154 : decode cX7_addItemRead 154 = .ok (.iconst 1, 1) := by decide +kernel
theorem dX7_addItemRead_155 : decode cX7_addItemRead 155 = .ok (.goto 4, 3) := by decide +kernel
theorem dX7_addItemRead_158 : decode cX7_addItemRead 158 = .ok (.iconst 0, 1) := by decide +kernel
theorem dX7_addItemRead_159 : decode cX7_addItemRead 159 = .ok (.ireturn, 1) := by decide +kernel
theorem dX7_mix_0 : decode cX7_mix 0 = .ok (.ldc2_w 273, 3) := by decide +kernel
theorem dX7_mix_3 : decode cX7_mix 3 = .ok (.lload_n 0, 1) := by decide +kernel
theorem dX7_mix_4 : decode cX7_mix 4 = .ok (.lmul, 1) := by decide +kernel
theorem dX7_mix_5 : decode cX7_mix 5 = .ok (.lload_n 2, 1) := by decide +kernel
theorem dX7_mix_6 : decode cX7_mix 6 = .ok (.ladd, 1) := by decide +kernel
theorem dX7_mix_7 : decode cX7_mix 7 = .ok (.lreturn, 1) := by decide +kernel
theorem dX7_isPoint_0 : decode cX7_isPoint 0 = .ok (.iload_n 0, 1) := by decide +kernel
theorem dX7_isPoint_1 : decode cX7_isPoint 1 = .ok (.ifCond .lt 23, 3) := by decide +kernel
theorem dX7_isPoint_4 : decode cX7_isPoint 4 = .ok (.iload_n 0, 1) := by decide +kernel
theorem dX7_isPoint_5 : decode cX7_isPoint 5 = .ok (.bipush 30, 2) := by decide +kernel
theorem dX7_isPoint_7 : decode cX7_isPoint 7 = .ok (.if_icmp .gt 17, 3) := by decide +kernel
theorem dX7_isPoint_10 : decode cX7_isPoint 10 = .ok (.iload_n 1, 1) := by decide +kernel
theorem dX7_isPoint_11 : decode cX7_isPoint 11 = .ok (.ifCond .lt 13, 3) := by decide +kernel
theorem dX7_isPoint_14 : decode cX7_isPoint 14 = .ok (.iload_n 1, 1) := by decide +kernel
theorem dX7_isPoint_15 : decode cX7_isPoint 15 = .ok (.bipush 30, 2) := by decide +kernel
theorem dX7_isPoint_17 : decode cX7_isPoint 17 = .ok (.if_icmp .gt 7, 3) := by decide +kernel
theorem dX7_isPoint_20 : decode cX7_isPoint 20 = .ok (.iconst 1, 1) := by decide +kernel
theorem dX7_isPoint_21 : decode cX7_isPoint 21 = .ok (.goto 4, 3) := by decide +kernel
theorem dX7_isPoint_24 : decode cX7_isPoint 24 = .ok (.iconst 0, 1) := by decide +kernel
theorem dX7_isPoint_25 : decode cX7_isPoint 25 = .ok (.ireturn, 1) := by decide +kernel
theorem dX7_isPlayer_0 : decode cX7_isPlayer 0 = .ok (.iload_n 0, 1) := by decide +kernel
theorem dX7_isPlayer_1 : decode cX7_isPlayer 1 = .ok (.ifCond .lt 12, 3) := by decide +kernel
theorem dX7_isPlayer_4 : decode cX7_isPlayer 4 = .ok (.iload_n 0, 1) := by decide +kernel
theorem dX7_isPlayer_5 : decode cX7_isPlayer 5 = .ok (.iconst 3, 1) := by decide +kernel
theorem dX7_isPlayer_6 : decode cX7_isPlayer 6 = .ok (.if_icmp .ge 7, 3) := by decide +kernel
theorem dX7_isPlayer_9 : decode cX7_isPlayer 9 = .ok (.iconst 1, 1) := by decide +kernel
theorem dX7_isPlayer_10 : decode cX7_isPlayer 10 = .ok (.goto 4, 3) := by decide +kernel
theorem dX7_isPlayer_13 : decode cX7_isPlayer 13 = .ok (.iconst 0, 1) := by decide +kernel
theorem dX7_isPlayer_14 : decode cX7_isPlayer 14 = .ok (.ireturn, 1) := by decide +kernel
theorem dX7_isDirection_0 : decode cX7_isDirection 0 = .ok (.iload_n 0, 1) := by decide +kernel
theorem dX7_isDirection_1 : decode cX7_isDirection 1 = .ok (.ifCond .lt 23, 3) := by decide +kernel
theorem dX7_isDirection_4 : decode cX7_isDirection 4 = .ok (.iload_n 0, 1) := by decide +kernel
theorem dX7_isDirection_5 : decode cX7_isDirection 5 = .ok (.getstatic 189, 3) := by decide +kernel
theorem dX7_isDirection_8 : decode cX7_isDirection 8 = .ok (.arraylength, 1) := by decide +kernel
theorem dX7_isDirection_9 : decode cX7_isDirection 9 = .ok (.if_icmp .ge 15, 3) := by decide +kernel
theorem dX7_isDirection_12 : decode cX7_isDirection 12 = .ok (.iload_n 0, 1) := by decide +kernel
theorem dX7_isDirection_13 : decode cX7_isDirection 13 = .ok (.getstatic 275, 3) := by decide +kernel
theorem dX7_isDirection_16 : decode cX7_isDirection 16 = .ok (.arraylength, 1) := by decide +kernel
theorem dX7_isDirection_17 : decode cX7_isDirection 17 = .ok (.if_icmp .ge 7, 3) := by decide +kernel
theorem dX7_isDirection_20 : decode cX7_isDirection 20 = .ok (.iconst 1, 1) := by decide +kernel
theorem dX7_isDirection_21 : decode cX7_isDirection 21 = .ok (.goto 4, 3) := by decide +kernel
theorem dX7_isDirection_24 : decode cX7_isDirection 24 = .ok (.iconst 0, 1) := by decide +kernel
theorem dX7_isDirection_25 : decode cX7_isDirection 25 = .ok (.ireturn, 1) := by decide +kernel
theorem dX7_isStrength_0 : decode cX7_isStrength 0 = .ok (.iload_n 0, 1) := by decide +kernel
theorem dX7_isStrength_1 : decode cX7_isStrength 1 = .ok (.iconst 1, 1) := by decide +kernel
theorem dX7_isStrength_2 : decode cX7_isStrength 2 = .ok (.if_icmp .lt 13, 3) := by decide +kernel
theorem dX7_isStrength_5 : decode cX7_isStrength 5 = .ok (.iload_n 0, 1) := by decide +kernel
theorem dX7_isStrength_6 : decode cX7_isStrength 6 = .ok (.bipush 40, 2) := by decide +kernel
theorem dX7_isStrength_8 : decode cX7_isStrength 8 = .ok (.if_icmp .gt 7, 3) := by decide +kernel
theorem dX7_isStrength_11 : decode cX7_isStrength 11 = .ok (.iconst 1, 1) := by decide +kernel
theorem dX7_isStrength_12 : decode cX7_isStrength 12 = .ok (.goto 4, 3) := by decide +kernel
theorem dX7_isStrength_15 : decode cX7_isStrength 15 = .ok (.iconst 0, 1) := by decide +kernel
theorem dX7_isStrength_16 : decode cX7_isStrength 16 = .ok (.ireturn, 1) := by decide +kernel
theorem dX7_stepX_0 : decode cX7_stepX 0 = .ok (.iload_n 0, 1) := by decide +kernel
theorem dX7_stepX_1 : decode cX7_stepX 1 = .ok (.invokestatic 99, 3) := by decide +kernel
theorem dX7_stepX_4 : decode cX7_stepX 4 = .ok (.ifCond .eq 11, 3) := by decide +kernel
theorem dX7_stepX_7 : decode cX7_stepX 7 = .ok (.getstatic 189, 3) := by decide +kernel
theorem dX7_stepX_10 : decode cX7_stepX 10 = .ok (.iload_n 0, 1) := by decide +kernel
theorem dX7_stepX_11 : decode cX7_stepX 11 = .ok (.iaload, 1) := by decide +kernel
theorem dX7_stepX_12 : decode cX7_stepX 12 = .ok (.goto 4, 3) := by decide +kernel
theorem dX7_stepX_15 : decode cX7_stepX 15 = .ok (.iconst 0, 1) := by decide +kernel
theorem dX7_stepX_16 : decode cX7_stepX 16 = .ok (.ireturn, 1) := by decide +kernel
theorem dX7_stepY_0 : decode cX7_stepY 0 = .ok (.iload_n 0, 1) := by decide +kernel
theorem dX7_stepY_1 : decode cX7_stepY 1 = .ok (.invokestatic 99, 3) := by decide +kernel
theorem dX7_stepY_4 : decode cX7_stepY 4 = .ok (.ifCond .eq 11, 3) := by decide +kernel
theorem dX7_stepY_7 : decode cX7_stepY 7 = .ok (.getstatic 275, 3) := by decide +kernel
theorem dX7_stepY_10 : decode cX7_stepY 10 = .ok (.iload_n 0, 1) := by decide +kernel
theorem dX7_stepY_11 : decode cX7_stepY 11 = .ok (.iaload, 1) := by decide +kernel
theorem dX7_stepY_12 : decode cX7_stepY 12 = .ok (.goto 4, 3) := by decide +kernel
theorem dX7_stepY_15 : decode cX7_stepY 15 = .ok (.iconst 0, 1) := by decide +kernel
theorem dX7_stepY_16 : decode cX7_stepY 16 = .ok (.ireturn, 1) := by decide +kernel
theorem dX8_init_0 : decode cX8_init 0 = .ok (.aload_n 0, 1) := by decide +kernel
theorem dX8_init_1 : decode cX8_init 1 = .ok (.invokespecial 1, 3) := by decide +kernel
theorem dX8_init_4 : decode cX8_init 4 = .ok (.aload_n 0, 1) := by decide +kernel
theorem dX8_init_5 : decode cX8_init 5 = .ok (.bipush 80, 2) := by decide +kernel
theorem dX8_init_7 : decode cX8_init 7 = .ok (.newarray .int, 2) := by decide +kernel
theorem dX8_init_9 : decode cX8_init 9 = .ok (.putfield 7, 3) := by decide +kernel
theorem dX8_init_12 : decode cX8_init 12 = .ok (.aload_n 0, 1) := by decide +kernel
theorem dX8_init_13 : decode cX8_init 13 = .ok (.bipush 80, 2) := by decide +kernel
theorem dX8_init_15 : decode cX8_init 15 = .ok (.newarray .int, 2) := by decide +kernel
theorem dX8_init_17 : decode cX8_init 17 = .ok (.putfield 13, 3) := by decide +kernel
theorem dX8_init_20 : decode cX8_init 20 = .ok (.aload_n 0, 1) := by decide +kernel
theorem dX8_init_21 : decode cX8_init 21 = .ok (.sipush 480, 3) := by decide +kernel
theorem dX8_init_24 : decode cX8_init 24 = .ok (.newarray .int, 2) := by decide +kernel
theorem dX8_init_26 : decode cX8_init 26 = .ok (.putfield 16, 3) := by decide +kernel
theorem dX8_init_29 : decode cX8_init 29 = .ok (.aload_n 0, 1) := by decide +kernel
theorem dX8_init_30 : decode cX8_init 30 = .ok (.bipush 80, 2) := by decide +kernel
theorem dX8_init_32 : decode cX8_init 32 = .ok (.newarray .int, 2) := by decide +kernel
theorem dX8_init_34 : decode cX8_init 34 = .ok (.putfield 19, 3) := by decide +kernel
theorem dX8_init_37 : decode cX8_init 37 = .ok (.aload_n 0, 1) := by decide +kernel
theorem dX8_init_38 : decode cX8_init 38 = .ok (.bipush 8, 2) := by decide +kernel
theorem dX8_init_40 : decode cX8_init 40 = .ok (.newarray .int, 2) := by decide +kernel
theorem dX8_init_42 : decode cX8_init 42 = .ok (.dup, 1) := by decide +kernel
theorem dX8_init_43 : decode cX8_init 43 = .ok (.iconst 0, 1) := by decide +kernel
theorem dX8_init_44 : decode cX8_init 44 = .ok (.iconst 0, 1) := by decide +kernel
theorem dX8_init_45 : decode cX8_init 45 = .ok (.iastore, 1) := by decide +kernel
theorem dX8_init_46 : decode cX8_init 46 = .ok (.dup, 1) := by decide +kernel
theorem dX8_init_47 : decode cX8_init 47 = .ok (.iconst 1, 1) := by decide +kernel
theorem dX8_init_48 : decode cX8_init 48 = .ok (.iconst 1, 1) := by decide +kernel
theorem dX8_init_49 : decode cX8_init 49 = .ok (.iastore, 1) := by decide +kernel
theorem dX8_init_50 : decode cX8_init 50 = .ok (.dup, 1) := by decide +kernel
theorem dX8_init_51 : decode cX8_init 51 = .ok (.iconst 2, 1) := by decide +kernel
theorem dX8_init_52 : decode cX8_init 52 = .ok (.iconst 1, 1) := by decide +kernel
theorem dX8_init_53 : decode cX8_init 53 = .ok (.iastore, 1) := by decide +kernel
theorem dX8_init_54 : decode cX8_init 54 = .ok (.dup, 1) := by decide +kernel
theorem dX8_init_55 : decode cX8_init 55 = .ok (.iconst 3, 1) := by decide +kernel
theorem dX8_init_56 : decode cX8_init 56 = .ok (.iconst 1, 1) := by decide +kernel
theorem dX8_init_57 : decode cX8_init 57 = .ok (.iastore, 1) := by decide +kernel
theorem dX8_init_58 : decode cX8_init 58 = .ok (.dup, 1) := by decide +kernel
theorem dX8_init_59 : decode cX8_init 59 = .ok (.iconst 4, 1) := by decide +kernel
theorem dX8_init_60 : decode cX8_init 60 = .ok (.iconst 0, 1) := by decide +kernel
theorem dX8_init_61 : decode cX8_init 61 = .ok (.iastore, 1) := by decide +kernel
theorem dX8_init_62 : decode cX8_init 62 = .ok (.dup, 1) := by decide +kernel
theorem dX8_init_63 : decode cX8_init 63 = .ok (.iconst 5, 1) := by decide +kernel
theorem dX8_init_64 : decode cX8_init 64 = .ok (.iconst (-1), 1) := by decide +kernel
theorem dX8_init_65 : decode cX8_init 65 = .ok (.iastore, 1) := by decide +kernel
theorem dX8_init_66 : decode cX8_init 66 = .ok (.dup, 1) := by decide +kernel
theorem dX8_init_67 : decode cX8_init 67 = .ok (.bipush 6, 2) := by decide +kernel
theorem dX8_init_69 : decode cX8_init 69 = .ok (.iconst (-1), 1) := by decide +kernel
theorem dX8_init_70 : decode cX8_init 70 = .ok (.iastore, 1) := by decide +kernel
theorem dX8_init_71 : decode cX8_init 71 = .ok (.dup, 1) := by decide +kernel
theorem dX8_init_72 : decode cX8_init 72 = .ok (.bipush 7, 2) := by decide +kernel
theorem dX8_init_74 : decode cX8_init 74 = .ok (.iconst (-1), 1) := by decide +kernel
theorem dX8_init_75 : decode cX8_init 75 = .ok (.iastore, 1) := by decide +kernel
theorem dX8_init_76 : decode cX8_init 76 = .ok (.putfield 22, 3) := by decide +kernel
theorem dX8_init_79 : decode cX8_init 79 = .ok (.aload_n 0, 1) := by decide +kernel
theorem dX8_init_80 : decode cX8_init 80 = .ok (.bipush 8, 2) := by decide +kernel
theorem dX8_init_82 : decode cX8_init 82 = .ok (.newarray .int, 2) := by decide +kernel
theorem dX8_init_84 : decode cX8_init 84 = .ok (.dup, 1) := by decide +kernel
theorem dX8_init_85 : decode cX8_init 85 = .ok (.iconst 0, 1) := by decide +kernel
theorem dX8_init_86 : decode cX8_init 86 = .ok (.iconst (-1), 1) := by decide +kernel
theorem dX8_init_87 : decode cX8_init 87 = .ok (.iastore, 1) := by decide +kernel
theorem dX8_init_88 : decode cX8_init 88 = .ok (.dup, 1) := by decide +kernel
theorem dX8_init_89 : decode cX8_init 89 = .ok (.iconst 1, 1) := by decide +kernel
theorem dX8_init_90 : decode cX8_init 90 = .ok (.iconst (-1), 1) := by decide +kernel
theorem dX8_init_91 : decode cX8_init 91 = .ok (.iastore, 1) := by decide +kernel
theorem dX8_init_92 : decode cX8_init 92 = .ok (.dup, 1) := by decide +kernel
theorem dX8_init_93 : decode cX8_init 93 = .ok (.iconst 2, 1) := by decide +kernel
theorem dX8_init_94 : decode cX8_init 94 = .ok (.iconst 0, 1) := by decide +kernel
theorem dX8_init_95 : decode cX8_init 95 = .ok (.iastore, 1) := by decide +kernel
theorem dX8_init_96 : decode cX8_init 96 = .ok (.dup, 1) := by decide +kernel
theorem dX8_init_97 : decode cX8_init 97 = .ok (.iconst 3, 1) := by decide +kernel
theorem dX8_init_98 : decode cX8_init 98 = .ok (.iconst 1, 1) := by decide +kernel
theorem dX8_init_99 : decode cX8_init 99 = .ok (.iastore, 1) := by decide +kernel
theorem dX8_init_100 : decode cX8_init 100 = .ok (.dup, 1) := by decide +kernel
theorem dX8_init_101 : decode cX8_init 101 = .ok (.iconst 4, 1) := by decide +kernel
theorem dX8_init_102 : decode cX8_init 102 = .ok (.iconst 1, 1) := by decide +kernel
theorem dX8_init_103 : decode cX8_init 103 = .ok (.iastore, 1) := by decide +kernel
theorem dX8_init_104 : decode cX8_init 104 = .ok (.dup, 1) := by decide +kernel
theorem dX8_init_105 : decode cX8_init 105 = .ok (.iconst 5, 1) := by decide +kernel
theorem dX8_init_106 : decode cX8_init 106 = .ok (.iconst 1, 1) := by decide +kernel
theorem dX8_init_107 : decode cX8_init 107 = .ok (.iastore, 1) := by decide +kernel
theorem dX8_init_108 : decode cX8_init 108 = .ok (.dup, 1) := by decide +kernel
theorem dX8_init_109 : decode cX8_init 109 = .ok (.bipush 6, 2) := by decide +kernel
theorem dX8_init_111 : decode cX8_init 111 = .ok (.iconst 0, 1) := by decide +kernel
theorem dX8_init_112 : decode cX8_init 112 = .ok (.iastore, 1) := by decide +kernel
theorem dX8_init_113 : decode cX8_init 113 = .ok (.dup, 1) := by decide +kernel
theorem dX8_init_114 : decode cX8_init 114 = .ok (.bipush 7, 2) := by decide +kernel
theorem dX8_init_116 : decode cX8_init 116 = .ok (.iconst (-1), 1) := by decide +kernel
theorem dX8_init_117 : decode cX8_init 117 = .ok (.iastore, 1) := by decide +kernel
theorem dX8_init_118 : decode cX8_init 118 = .ok (.putfield 25, 3) := by decide +kernel
theorem dX8_init_121 : decode cX8_init 121 = .ok (.aload_n 0, 1) := by decide +kernel
theorem dX8_init_122 : decode cX8_init 122 = .ok (.bipush 12, 2) := by decide +kernel
theorem dX8_init_124 : decode cX8_init 124 = .ok (.newarray .int, 2) := by decide +kernel
theorem dX8_init_126 : decode cX8_init 126 = .ok (.putfield 28, 3) := by decide +kernel
theorem dX8_init_129 : decode cX8_init 129 = .ok (.return_, 1) := by decide +kernel
theorem dX8_within_0 : decode cX8_within 0 = .ok (.iload_n 0, 1) := by decide +kernel
theorem dX8_within_1 : decode cX8_within 1 = .ok (.iload_n 1, 1) := by decide +kernel
theorem dX8_within_2 : decode cX8_within 2 = .ok (.if_icmp .lt 12, 3) := by decide +kernel
theorem dX8_within_5 : decode cX8_within 5 = .ok (.iload_n 0, 1) := by decide +kernel
theorem dX8_within_6 : decode cX8_within 6 = .ok (.iload_n 2, 1) := by decide +kernel
theorem dX8_within_7 : decode cX8_within 7 = .ok (.if_icmp .gt 7, 3) := by decide +kernel
theorem dX8_within_10 : decode cX8_within 10 = .ok (.iconst 1, 1) := by decide +kernel
theorem dX8_within_11 : decode cX8_within 11 = .ok (.goto 4, 3) := by decide +kernel
theorem dX8_within_14 : decode cX8_within 14 = .ok (.iconst 0, 1) := by decide +kernel
theorem dX8_within_15 : decode cX8_within 15 = .ok (.ireturn, 1) := by decide +kernel
theorem dX8_copies_0 : decode cX8_copies 0 = .ok (.iconst 0, 1) := by decide +kernel
theorem dX8_copies_1 : decode cX8_copies 1 = .ok (.istore 4, 2) := by decide +kernel
theorem dX8_copies_3 : decode cX8_copies 3 = .ok (.iload 4, 2) := by decide +kernel
theorem dX8_copies_5 : decode cX8_copies 5 = .ok (.bipush 80, 2) := by decide +kernel
theorem dX8_copies_7 : decode cX8_copies 7 = .ok (.if_icmp .ge 21, 3) := by decide +kernel
theorem dX8_copies_10 : decode cX8_copies 10 = .ok (.aload_n 2, 1) := by decide +kernel
theorem dX8_copies_11 : decode cX8_copies 11 = .ok (.iload_n 3, 1) := by decide +kernel
theorem dX8_copies_12 : decode cX8_copies 12 = .ok (.iload 4, 2) := by decide +kernel
theorem dX8_copies_14 : decode cX8_copies 14 = .ok (.iadd, 1) := by decide +kernel
theorem dX8_copies_15 : decode cX8_copies 15 = .ok (.aload_n 0, 1) := by decide +kernel
theorem dX8_copies_16 : decode cX8_copies 16 = .ok (.iload_n 1, 1) := by decide +kernel
theorem dX8_copies_17 : decode cX8_copies 17 = .ok (.iload 4, 2) := by decide +kernel
theorem dX8_copies_19 : decode cX8_copies 19 = .ok (.iadd, 1) := by decide +kernel
theorem dX8_copies_20 : decode cX8_copies 20 = .ok (.iaload, 1) := by decide +kernel
theorem dX8_copies_21 : decode cX8_copies 21 = .ok (.iastore, 1) := by decide +kernel
theorem dX8_copies_22 : decode cX8_copies 22 = .ok (.iinc 4 1, 3) := by decide +kernel
theorem dX8_copies_25 : decode cX8_copies 25 = .ok (.goto (-22), 3) := by decide +kernel
theorem dX8_copies_28 : decode cX8_copies 28 = .ok (.return_, 1) := by decide +kernel
theorem dX8_record_0 : decode cX8_record 0 = .ok (.aload_n 0, 1) := by decide +kernel
theorem dX8_record_1 : decode cX8_record 1 = .ok (.getfield 31, 3) := by decide +kernel
theorem dX8_record_4 : decode cX8_record 4 = .ok (.bipush 6, 2) := by decide +kernel
theorem dX8_record_6 : decode cX8_record 6 = .ok (.if_icmp .ne 43, 3) := by decide +kernel
theorem dX8_record_9 : decode cX8_record 9 = .ok (.iconst 0, 1) := by decide +kernel
theorem dX8_record_10 : decode cX8_record 10 = .ok (.istore_n 1, 1) := by decide +kernel
theorem dX8_record_11 : decode cX8_record 11 = .ok (.iload_n 1, 1) := by decide +kernel
theorem dX8_record_12 : decode cX8_record 12 = .ok (.sipush 400, 3) := by decide +kernel
theorem dX8_record_15 : decode cX8_record 15 = .ok (.if_icmp .ge 24, 3) := by decide +kernel
theorem dX8_record_18 : decode cX8_record 18 = .ok (.aload_n 0, 1) := by decide +kernel
theorem dX8_record_19 : decode cX8_record 19 = .ok (.getfield 16, 3) := by decide +kernel
theorem dX8_record_22 : decode cX8_record 22 = .ok (.iload_n 1, 1) := by decide +kernel
theorem dX8_record_23 : decode cX8_record 23 = .ok (.aload_n 0, 1) := by decide +kernel
theorem dX8_record_24 : decode cX8_record 24 = .ok (.getfield 16, 3) := by decide +kernel
theorem dX8_record_27 : decode cX8_record 27 = .ok (.iload_n 1, 1) := by decide +kernel
theorem dX8_record_28 : decode cX8_record 28 = .ok (.bipush 80, 2) := by decide +kernel
theorem dX8_record_30 : decode cX8_record 30 = .ok (.iadd, 1) := by decide +kernel
theorem dX8_record_31 : decode cX8_record 31 = .ok (.iaload, 1) := by decide +kernel
theorem dX8_record_32 : decode cX8_record 32 = .ok (.iastore, 1) := by decide +kernel
theorem dX8_record_33 : decode cX8_record 33 = .ok (.iinc 1 1, 3) := by decide +kernel
theorem dX8_record_36 : decode cX8_record 36 = .ok (.goto (-25), 3) := by decide +kernel
theorem dX8_record_39 : decode cX8_record 39 = .ok (.aload_n 0, 1) := by decide +kernel
theorem dX8_record_40 : decode cX8_record 40 = .ok (.dup, 1) := by decide +kernel
theorem dX8_record_41 : decode cX8_record 41 = .ok (.getfield 31, 3) := by decide +kernel
theorem dX8_record_44 : decode cX8_record 44 = .ok (.iconst 1, 1) := by decide +kernel
theorem dX8_record_45 : decode cX8_record 45 = .ok (.isub, 1) := by decide +kernel
theorem dX8_record_46 : decode cX8_record 46 = .ok (.putfield 31, 3) := by decide +kernel
theorem dX8_record_49 : decode cX8_record 49 = .ok (.aload_n 0, 1) := by decide +kernel
theorem dX8_record_50 : decode cX8_record 50 = .ok (.getfield 7, 3) := by decide +kernel
theorem dX8_record_53 : decode cX8_record 53 = .ok (.iconst 0, 1) := by decide +kernel
theorem dX8_record_54 : decode cX8_record 54 = .ok (.aload_n 0, 1) := by decide +kernel
theorem dX8_record_55 : decode cX8_record 55 = .ok (.getfield 16, 3) := by decide +kernel
theorem dX8_record_58 : decode cX8_record 58 = .ok (.aload_n 0, 1) := by decide +kernel
theorem dX8_record_59 : decode cX8_record 59 = .ok (.getfield 31, 3) := by decide +kernel
theorem dX8_record_62 : decode cX8_record 62 = .ok (.bipush 80, 2) := by decide +kernel
theorem dX8_record_64 : decode cX8_record 64 = .ok (.imul, 1) := by decide +kernel
theorem dX8_record_65 : decode cX8_record 65 = .ok (.invokestatic 35, 3) := by decide +kernel
theorem dX8_record_68 : decode cX8_record 68 = .ok (.aload_n 0, 1) := by decide +kernel
theorem dX8_record_69 : decode cX8_record 69 = .ok (.dup, 1) := by decide +kernel
theorem dX8_record_70 : decode cX8_record 70 = .ok (.getfield 31, 3) := by decide +kernel
theorem dX8_record_73 : decode cX8_record 73 = .ok (.iconst 1, 1) := by decide +kernel
theorem dX8_record_74 : decode cX8_record 74 = .ok (.iadd, 1) := by decide +kernel
theorem dX8_record_75 : decode cX8_record 75 = .ok (.putfield 31, 3) := by decide +kernel
theorem dX8_record_78 : decode cX8_record 78 = .ok (.return_, 1) := by decide +kernel
theorem dX8_isPoint_0 : decode cX8_isPoint 0 = .ok (.iload_n 0, 1) := by decide +kernel
theorem dX8_isPoint_1 : decode cX8_isPoint 1 = .ok (.iconst 0, 1) := by decide +kernel
theorem dX8_isPoint_2 : decode cX8_isPoint 2 = .ok (.bipush 30, 2) := by decide +kernel
theorem dX8_isPoint_4 : decode cX8_isPoint 4 = .ok (.invokestatic 39, 3) := by decide +kernel
theorem dX8_isPoint_7 : decode cX8_isPoint 7 = .ok (.ifCond .eq 17, 3) := by decide +kernel
theorem dX8_isPoint_10 : decode cX8_isPoint 10 = .ok (.iload_n 1, 1) := by decide +kernel
theorem dX8_isPoint_11 : decode cX8_isPoint 11 = .ok (.iconst 0, 1) := by decide +kernel
theorem dX8_isPoint_12 : decode cX8_isPoint 12 = .ok (.bipush 30, 2) := by decide +kernel
theorem dX8_isPoint_14 : decode cX8_isPoint 14 = .ok (.invokestatic 39, 3) := by decide +kernel
theorem dX8_isPoint_17 : decode cX8_isPoint 17 = .ok (.ifCond .eq 7, 3) := by decide +kernel
theorem dX8_isPoint_20 : decode cX8_isPoint 20 = .ok (.iconst 1, 1) := by decide +kernel
theorem dX8_isPoint_21 : decode cX8_isPoint 21 = .ok (.goto 4, 3) := by decide +kernel
theorem dX8_isPoint_24 : decode cX8_isPoint 24 = .ok (.iconst 0, 1) := by decide +kernel
theorem dX8_isPoint_25 : decode cX8_isPoint 25 = .ok (.ireturn, 1) := by decide +kernel
theorem dX8_isMarble_0 : decode cX8_isMarble 0 = .ok (.iload_n 1, 1) := by decide +kernel
theorem dX8_isMarble_1 : decode cX8_isMarble 1 = .ok (.iconst 0, 1) := by decide +kernel
theorem dX8_isMarble_2 : decode cX8_isMarble 2 = .ok (.aload_n 0, 1) := by decide +kernel
theorem dX8_isMarble_3 : decode cX8_isMarble 3 = .ok (.getfield 7, 3) := by decide +kernel
theorem dX8_isMarble_6 : decode cX8_isMarble 6 = .ok (.iconst 0, 1) := by decide +kernel
theorem dX8_isMarble_7 : decode cX8_isMarble 7 = .ok (.iaload, 1) := by decide +kernel
theorem dX8_isMarble_8 : decode cX8_isMarble 8 = .ok (.iconst 1, 1) := by decide +kernel
theorem dX8_isMarble_9 : decode cX8_isMarble 9 = .ok (.isub, 1) := by decide +kernel
theorem dX8_isMarble_10 : decode cX8_isMarble 10 = .ok (.invokestatic 39, 3) := by decide +kernel
theorem dX8_isMarble_13 : decode cX8_isMarble 13 = .ok (.ireturn, 1) := by decide +kernel
theorem dX8_part_0 : decode cX8_part 0 = .ok (.aload_n 0, 1) := by decide +kernel
theorem dX8_part_1 : decode cX8_part 1 = .ok (.getfield 7, 3) := by decide +kernel
theorem dX8_part_4 : decode cX8_part 4 = .ok (.bipush 8, 2) := by decide +kernel
theorem dX8_part_6 : decode cX8_part 6 = .ok (.iconst 5, 1) := by decide +kernel
theorem dX8_part_7 : decode cX8_part 7 = .ok (.iload_n 1, 1) := by decide +kernel
theorem dX8_part_8 : decode cX8_part 8 = .ok (.imul, 1) := by decide +kernel
theorem dX8_part_9 : decode cX8_part 9 = .ok (.iadd, 1) := by decide +kernel
theorem dX8_part_10 : decode cX8_part 10 = .ok (.iload_n 2, 1) := by decide +kernel
theorem dX8_part_11 : decode cX8_part 11 = .ok (.iadd, 1) := by decide +kernel
theorem dX8_part_12 : decode cX8_part 12 = .ok (.iaload, 1) := by decide +kernel
theorem dX8_part_13 : decode cX8_part 13 = .ok (.ireturn, 1) := by decide +kernel
theorem dX8_setPart_0 : decode cX8_setPart 0 = .ok (.aload_n 0, 1) := by decide +kernel
theorem dX8_setPart_1 : decode cX8_setPart 1 = .ok (.getfield 7, 3) := by decide +kernel
theorem dX8_setPart_4 : decode cX8_setPart 4 = .ok (.bipush 8, 2) := by decide +kernel
theorem dX8_setPart_6 : decode cX8_setPart 6 = .ok (.iconst 5, 1) := by decide +kernel
theorem dX8_setPart_7 : decode cX8_setPart 7 = .ok (.iload_n 1, 1) := by decide +kernel
theorem dX8_setPart_8 : decode cX8_setPart 8 = .ok (.imul, 1) := by decide +kernel
theorem dX8_setPart_9 : decode cX8_setPart 9 = .ok (.iadd, 1) := by decide +kernel
theorem dX8_setPart_10 : decode cX8_setPart 10 = .ok (.iload_n 2, 1) := by decide +kernel
theorem dX8_setPart_11 : decode cX8_setPart 11 = .ok (.iadd, 1) := by decide +kernel
theorem dX8_setPart_12 : decode cX8_setPart 12 = .ok (.iload_n 3, 1) := by decide +kernel
theorem dX8_setPart_13 : decode cX8_setPart 13 = .ok (.iastore, 1) := by decide +kernel
theorem dX8_setPart_14 : decode cX8_setPart 14 = .ok (.return_, 1) := by decide +kernel
theorem dX8_isThere_0 : decode cX8_isThere 0 = .ok (.aload_n 0, 1) := by decide +kernel
theorem dX8_isThere_1 : decode cX8_isThere 1 = .ok (.iload_n 1, 1) := by decide +kernel
theorem dX8_isThere_2 : decode cX8_isThere 2 = .ok (.iconst 4, 1) := by decide +kernel
theorem dX8_isThere_3 : decode cX8_isThere 3 = .ok (.invokevirtual 43, 3) := by decide +kernel
theorem dX8_isThere_6 : decode cX8_isThere 6 = .ok (.sipush (-1006), 3) := by decide +kernel
theorem dX8_isThere_9 : decode cX8_isThere 9 = .ok (.if_icmp .ne 7, 3) := by decide +kernel
theorem dX8_isThere_12 : decode cX8_isThere 12 = .ok (.iconst 1, 1) := by decide +kernel
theorem dX8_isThere_13 : decode cX8_isThere 13 = .ok (.goto 4, 3) := by decide +kernel
theorem dX8_isThere_16 : decode cX8_isThere 16 = .ok (.iconst 0, 1) := by decide +kernel
theorem dX8_isThere_17 : decode cX8_isThere 17 = .ok (.ireturn, 1) := by decide +kernel
theorem dX8_ringPart_0 : decode cX8_ringPart 0 = .ok (.aload_n 0, 1) := by decide +kernel
theorem dX8_ringPart_1 : decode cX8_ringPart 1 = .ok (.getfield 7, 3) := by decide +kernel
theorem dX8_ringPart_4 : decode cX8_ringPart 4 = .ok (.bipush 68, 2) := by decide +kernel
theorem dX8_ringPart_6 : decode cX8_ringPart 6 = .ok (.iconst 3, 1) := by decide +kernel
theorem dX8_ringPart_7 : decode cX8_ringPart 7 = .ok (.iload_n 1, 1) := by decide +kernel
theorem dX8_ringPart_8 : decode cX8_ringPart 8 = .ok (.imul, 1) := by decide +kernel
theorem dX8_ringPart_9 : decode cX8_ringPart 9 = .ok (.iadd, 1) := by decide +kernel
theorem dX8_ringPart_10 : decode cX8_ringPart 10 = .ok (.iload_n 2, 1) := by decide +kernel
theorem dX8_ringPart_11 : decode cX8_ringPart 11 = .ok (.iadd, 1) := by decide +kernel
theorem dX8_ringPart_12 : decode cX8_ringPart 12 = .ok (.iaload, 1) := by decide +kernel
theorem dX8_ringPart_13 : decode cX8_ringPart 13 = .ok (.ireturn, 1) := by decide +kernel
theorem dX8_isIn_0 : decode cX8_isIn 0 = .ok (.iload_n 2, 1) := by decide +kernel
theorem dX8_isIn_1 : decode cX8_isIn 1 = .ok (.aload_n 0, 1) := by decide +kernel
theorem dX8_isIn_2 : decode cX8_isIn 2 = .ok (.iload_n 1, 1) := by decide +kernel
theorem dX8_isIn_3 : decode cX8_isIn 3 = .ok (.iconst 0, 1) := by decide +kernel
theorem dX8_isIn_4 : decode cX8_isIn 4 = .ok (.invokevirtual 47, 3) := by decide +kernel
theorem dX8_isIn_7 : decode cX8_isIn 7 = .ok (.isub, 1) := by decide +kernel
theorem dX8_isIn_8 : decode cX8_isIn 8 = .ok (.istore 4, 2) := by decide +kernel
theorem dX8_isIn_10 : decode cX8_isIn 10 = .ok (.iload_n 3, 1) := by decide +kernel
theorem dX8_isIn_11 : decode cX8_isIn 11 = .ok (.aload_n 0, 1) := by decide +kernel
theorem dX8_isIn_12 : decode cX8_isIn 12 = .ok (.iload_n 1, 1) := by decide +kernel
theorem dX8_isIn_13 : decode cX8_isIn 13 = .ok (.iconst 1, 1) := by decide +kernel
theorem dX8_isIn_14 : decode cX8_isIn 14 = .ok (.invokevirtual 47, 3) := by decide +kernel
theorem dX8_isIn_17 : decode cX8_isIn 17 = .ok (.isub, 1) := by decide +kernel
theorem dX8_isIn_18 : decode cX8_isIn 18 = .ok (.istore 5, 2) := by decide +kernel
theorem dX8_isIn_20 : decode cX8_isIn 20 = .ok (.iload 4, 2) := by decide +kernel
theorem dX8_isIn_22 : decode cX8_isIn 22 = .ok (.iload 4, 2) := by decide +kernel
theorem dX8_isIn_24 : decode cX8_isIn 24 = .ok (.imul, 1) := by decide +kernel
theorem dX8_isIn_25 : decode cX8_isIn 25 = .ok (.iload 5, 2) := by decide +kernel
theorem dX8_isIn_27 : decode cX8_isIn 27 = .ok (.iload 5, 2) := by decide +kernel
theorem dX8_isIn_29 : decode cX8_isIn 29 = .ok (.imul, 1) := by decide +kernel
theorem dX8_isIn_30 : decode cX8_isIn 30 = .ok (.iadd, 1) := by decide +kernel
theorem dX8_isIn_31 : decode cX8_isIn 31 = .ok (.aload_n 0, 1) := by decide +kernel
theorem dX8_isIn_32 : decode cX8_isIn 32 = .ok (.iload_n 1, 1) := by decide +kernel
theorem dX8_isIn_33 : decode cX8_isIn 33 = .ok (.iconst 2, 1) := by decide +kernel
theorem dX8_isIn_34 : decode cX8_isIn 34 = .ok (.invokevirtual 47, 3) := by decide +kernel
theorem dX8_isIn_37 : decode cX8_isIn 37 = .ok (.aload_n 0, 1) := by decide +kernel
theorem dX8_isIn_38 : decode cX8_isIn 38 = .ok (.iload_n 1, 1) := by decide +kernel
theorem dX8_isIn_39 : decode cX8_isIn 39 = .ok (.iconst 2, 1) := by decide +kernel
theorem dX8_isIn_40 : decode cX8_isIn 40 = .ok (.invokevirtual 47, 3) := by decide +kernel
theorem dX8_isIn_43 : decode cX8_isIn 43 = .ok (.imul, 1) := by decide +kernel
theorem dX8_isIn_44 : decode cX8_isIn 44 = .ok (.if_icmp .gt 7, 3) := by decide +kernel
theorem dX8_isIn_47 : decode cX8_isIn 47 = .ok (.iconst 1, 1) := by decide +kernel
theorem dX8_isIn_48 : decode cX8_isIn 48 = .ok (.goto 4, 3) := by decide +kernel
theorem dX8_isIn_51 : decode cX8_isIn 51 = .ok (.iconst 0, 1) := by decide +kernel
theorem dX8_isIn_52 : decode cX8_isIn 52 = .ok (.ireturn, 1) := by decide +kernel
theorem dX8_ringsOf_0 : decode cX8_ringsOf 0 = .ok (.iconst 0, 1) := by decide +kernel
theorem dX8_ringsOf_1 : decode cX8_ringsOf 1 = .ok (.istore_n 3, 1) := by decide +kernel
theorem dX8_ringsOf_2 : decode cX8_ringsOf 2 = .ok (.iconst 0, 1) := by decide +kernel
theorem dX8_ringsOf_3 : decode cX8_ringsOf 3 = .ok (.istore 4, 2) := by decide +kernel
theorem dX8_ringsOf_5 : decode cX8_ringsOf 5 = .ok (.iload 4, 2) := by decide +kernel
theorem dX8_ringsOf_7 : decode cX8_ringsOf 7 = .ok (.aload_n 0, 1) := by decide +kernel
theorem dX8_ringsOf_8 : decode cX8_ringsOf 8 = .ok (.getfield 7, 3) := by decide +kernel
theorem dX8_ringsOf_11 : decode cX8_ringsOf 11 = .ok (.iconst 1, 1) := by decide +kernel
theorem dX8_ringsOf_12 : decode cX8_ringsOf 12 = .ok (.iaload, 1) := by decide +kernel
theorem dX8_ringsOf_13 : decode cX8_ringsOf 13 = .ok (.if_icmp .ge 31, 3) := by decide +kernel
theorem dX8_ringsOf_16 : decode cX8_ringsOf 16 = .ok (.iload_n 3, 1) := by decide +kernel
theorem dX8_ringsOf_17 : decode cX8_ringsOf 17 = .ok (.aload_n 0, 1) := by decide +kernel
theorem dX8_ringsOf_18 : decode cX8_ringsOf 18 = .ok (.iload 4, 2) := by decide +kernel
theorem dX8_ringsOf_20 : decode cX8_ringsOf 20 = .ok (.iload_n 1, 1) := by decide +kernel
theorem dX8_ringsOf_21 : decode cX8_ringsOf 21 = .ok (.iload_n 2, 1) := by decide +kernel
theorem dX8_ringsOf_22 : decode cX8_ringsOf 22 = .ok (.invokevirtual 50, 3) := by decide +kernel
theorem dX8_ringsOf_25 : decode cX8_ringsOf 25 = .ok (.ifCond .eq 10, 3) := by decide +kernel
theorem dX8_ringsOf_28 : decode cX8_ringsOf 28 = .ok (.iconst 1, 1) := by decide +kernel
theorem dX8_ringsOf_29 : decode cX8_ringsOf 29 = .ok (.iload 4, 2) := by decide +kernel
theorem dX8_ringsOf_31 : decode cX8_ringsOf 31 = .ok (.ishl, 1) := by decide +kernel
theorem dX8_ringsOf_32 : decode cX8_ringsOf 32 = .ok (.goto 4, 3) := by decide +kernel
theorem dX8_ringsOf_35 : decode cX8_ringsOf 35 = .ok (.iconst 0, 1) := by decide +kernel
theorem dX8_ringsOf_36 : decode cX8_ringsOf 36 = .ok (.ior, 1) := by decide +kernel
theorem dX8_ringsOf_37 : decode cX8_ringsOf 37 = .ok (.istore_n 3, 1) := by decide +kernel
theorem dX8_ringsOf_38 : decode cX8_ringsOf 38 = .ok (.iinc 4 1, 3) := by decide +kernel
theorem dX8_ringsOf_41 : decode cX8_ringsOf 41 = .ok (.goto (-36), 3) := by decide +kernel
theorem dX8_ringsOf_44 : decode cX8_ringsOf 44 = .ok (.iload_n 3, 1) := by decide +kernel
theorem dX8_ringsOf_45 : decode cX8_ringsOf 45 = .ok (.ireturn, 1) := by decide +kernel
theorem dX8_ringsOfMarble_0 : decode cX8_ringsOfMarble 0 = .ok (.aload_n 0, 1) := by decide +kernel
theorem dX8_ringsOfMarble_1 : decode cX8_ringsOfMarble 1 = .ok (.aload_n 0, 1) := by decide +kernel
theorem dX8_ringsOfMarble_2 : decode cX8_ringsOfMarble 2 = .ok (.iload_n 1, 1) := by decide +kernel
theorem dX8_ringsOfMarble_3 : decode cX8_ringsOfMarble 3 = .ok (.iconst 0, 1) := by decide +kernel
theorem dX8_ringsOfMarble_4 : decode cX8_ringsOfMarble 4 = .ok (.invokevirtual 43, 3) := by decide +kernel
theorem dX8_ringsOfMarble_7 : decode cX8_ringsOfMarble 7 = .ok (.aload_n 0, 1) := by decide +kernel
theorem dX8_ringsOfMarble_8 : decode cX8_ringsOfMarble 8 = .ok (.iload_n 1, 1) := by decide +kernel
theorem dX8_ringsOfMarble_9 : decode cX8_ringsOfMarble 9 = .ok (.iconst 1, 1) := by decide +kernel
theorem dX8_ringsOfMarble_10 : decode cX8_ringsOfMarble 10 = .ok (.invokevirtual 43, 3) := by decide +kernel
theorem dX8_ringsOfMarble_13 : decode cX8_ringsOfMarble 13 = .ok (.invokevirtual 53, 3) := by decide +kernel
theorem dX8_ringsOfMarble_16 : decode cX8_ringsOfMarble 16 = .ok (.ireturn, 1) := by decide +kernel
theorem dX8_ones_0 : decode cX8_ones 0 = .ok (.iconst 0, 1) := by decide +kernel
theorem dX8_ones_1 : decode cX8_ones 1 = .ok (.istore_n 1, 1) := by decide +kernel
theorem dX8_ones_2 : decode cX8_ones 2 = .ok (.iconst 0, 1) := by decide +kernel
theorem dX8_ones_3 : decode cX8_ones 3 = .ok (.istore_n 2, 1) := by decide +kernel
theorem dX8_ones_4 : decode cX8_ones 4 = .ok (.iload_n 2, 1) := by decide +kernel
theorem dX8_ones_5 : decode cX8_ones 5 = .ok (.iconst 4, 1) := by decide +kernel
theorem dX8_ones_6 : decode cX8_ones 6 = .ok (.if_icmp .ge 17, 3) := by decide +kernel
theorem dX8_ones_9 : decode cX8_ones 9 = .ok (.iload_n 1, 1) := by decide +kernel
theorem dX8_ones_10 : decode cX8_ones 10 = .ok (.iload_n 0, 1) := by decide +kernel
theorem dX8_ones_11 : decode cX8_ones 11 = .ok (.iload_n 2, 1) := by decide +kernel
theorem dX8_ones_12 : decode cX8_ones 12 = .ok (.ishr, 1) := by decide +kernel
theorem dX8_ones_13 : decode cX8_ones 13 = .ok (.iconst 1, 1) := by decide +kernel
theorem dX8_ones_14 : decode cX8_ones 14 = .ok (.iand, 1) := by decide +kernel
theorem dX8_ones_15 : decode cX8_ones 15 = .ok (.iadd, 1) := by decide +kernel
theorem dX8_ones_16 : decode cX8_ones 16 = .ok (.istore_n 1, 1) := by decide +kernel
theorem dX8_ones_17 : decode cX8_ones 17 = .ok (.iinc 2 1, 3) := by decide +kernel
theorem dX8_ones_20 : decode cX8_ones 20 = .ok (.goto (-16), 3) := by decide +kernel
theorem dX8_ones_23 : decode cX8_ones 23 = .ok (.iload_n 1, 1) := by decide +kernel
theorem dX8_ones_24 : decode cX8_ones 24 = .ok (.ireturn, 1) := by decide +kernel
theorem dX8_marbleAt_0 : decode cX8_marbleAt 0 = .ok (.sipush (-1006), 3) := by decide +kernel
theorem dX8_marbleAt_3 : decode cX8_marbleAt 3 = .ok (.istore_n 3, 1) := by decide +kernel
theorem dX8_marbleAt_4 : decode cX8_marbleAt 4 = .ok (.iconst 0, 1) := by decide +kernel
theorem dX8_marbleAt_5 : decode cX8_marbleAt 5 = .ok (.istore 4, 2) := by decide +kernel
theorem dX8_marbleAt_7 : decode cX8_marbleAt 7 = .ok (.iload 4, 2) := by decide +kernel
theorem dX8_marbleAt_9 : decode cX8_marbleAt 9 = .ok (.aload_n 0, 1) := by decide +kernel
theorem dX8_marbleAt_10 : decode cX8_marbleAt 10 = .ok (.getfield 7, 3) := by decide +kernel
theorem dX8_marbleAt_13 : decode cX8_marbleAt 13 = .ok (.iconst 0, 1) := by decide +kernel
theorem dX8_marbleAt_14 : decode cX8_marbleAt 14 = .ok (.iaload, 1) := by decide +kernel
theorem dX8_marbleAt_15 : decode cX8_marbleAt 15 = .ok (.if_icmp .ge 47, 3) := by decide +kernel
theorem dX8_marbleAt_18 : decode cX8_marbleAt 18 = .ok (.aload_n 0, 1) := by decide +kernel
theorem dX8_marbleAt_19 : decode cX8_marbleAt 19 = .ok (.iload 4, 2) := by decide +kernel
theorem dX8_marbleAt_21 : decode cX8_marbleAt 21 = .ok (.invokevirtual 56, 3) := by decide +kernel
theorem dX8_marbleAt_24 : decode cX8_marbleAt 24 = .ok (.ifCond .eq 30, 3) := by decide +kernel
theorem dX8_marbleAt_27 : decode cX8_marbleAt 27 = .ok (.aload_n 0, 1) := by decide +kernel
theorem dX8_marbleAt_28 : decode cX8_marbleAt 28 = .ok (.iload 4, 2) := by decide +kernel
theorem dX8_marbleAt_30 : decode cX8_marbleAt 30 = .ok (.iconst 0, 1) := by decide +kernel
theorem dX8_marbleAt_31 : decode cX8_marbleAt 31 = .ok (.invokevirtual 43, 3) := by decide +kernel
theorem dX8_marbleAt_34 : decode cX8_marbleAt 34 = .ok (.iload_n 1, 1) := by decide +kernel
theorem dX8_marbleAt_35 : decode cX8_marbleAt 35 = .ok (.if_icmp .ne 19, 3) := by decide +kernel
theorem dX8_marbleAt_38 : decode cX8_marbleAt 38 = .ok (.aload_n 0, 1) := by decide +kernel
theorem dX8_marbleAt_39 : decode cX8_marbleAt 39 = .ok (.iload 4, 2) := by decide +kernel
theorem dX8_marbleAt_41 : decode cX8_marbleAt 41 = .ok (.iconst 1, 1) := by decide +kernel
theorem dX8_marbleAt_42 : decode cX8_marbleAt 42 = .ok (.invokevirtual 43, 3) := by decide +kernel
theorem dX8_marbleAt_45 : decode cX8_marbleAt 45 = .ok (.iload_n 2, 1) := by decide +kernel
theorem dX8_marbleAt_46 : decode cX8_marbleAt 46 = .ok (.if_icmp .ne 8, 3) := by decide +kernel
theorem dX8_marbleAt_49 : decode cX8_marbleAt 49 = .ok (.iload 4, 2) := by decide +kernel
theorem dX8_marbleAt_51 : decode cX8_marbleAt 51 = .ok (.goto 4, 3) := by decide +kernel
theorem dX8_marbleAt_54 : decode cX8_marbleAt 54 = .ok (.iload_n 3, 1) := by decide +kernel
theorem dX8_marbleAt_55 : decode cX8_marbleAt 55 = .ok (.istore_n 3, 1) := by decide +kernel
theorem dX8_marbleAt_56 : decode cX8_marbleAt 56 = .ok (.iinc 4 1, 3) := by decide +kernel
theorem dX8_marbleAt_59 : decode cX8_marbleAt 59 = .ok (.goto (-52), 3) := by decide +kernel
theorem dX8_marbleAt_62 : decode cX8_marbleAt 62 = .ok (.iload_n 3, 1) := by decide +kernel
theorem dX8_marbleAt_63 : decode cX8_marbleAt 63 = .ok (.ireturn, 1) := by decide +kernel
theorem dX8_rolls_0 : decode cX8_rolls 0 = .ok (.iload_n 1, 1) := by decide +kernel
theorem dX8_rolls_1 : decode cX8_rolls 1 = .ok (.istore 4, 2) := by decide +kernel
theorem dX8_rolls_3 : decode cX8_rolls 3 = .ok (.aload_n 0, 1) := by decide +kernel
theorem dX8_rolls_4 : decode cX8_rolls 4 = .ok (.getfield 22, 3) := by decide +kernel
theorem dX8_rolls_7 : decode cX8_rolls 7 = .ok (.iload_n 2, 1) := by decide +kernel
theorem dX8_rolls_8 : decode cX8_rolls 8 = .ok (.iaload, 1) := by decide +kernel
theorem dX8_rolls_9 : decode cX8_rolls 9 = .ok (.istore 5, 2) := by decide +kernel
theorem dX8_rolls_11 : decode cX8_rolls 11 = .ok (.aload_n 0, 1) := by decide +kernel
theorem dX8_rolls_12 : decode cX8_rolls 12 = .ok (.getfield 25, 3) := by decide +kernel
theorem dX8_rolls_15 : decode cX8_rolls 15 = .ok (.iload_n 2, 1) := by decide +kernel
theorem dX8_rolls_16 : decode cX8_rolls 16 = .ok (.iaload, 1) := by decide +kernel
theorem dX8_rolls_17 : decode cX8_rolls 17 = .ok (.istore 6, 2) := by decide +kernel
theorem dX8_rolls_19 : decode cX8_rolls 19 = .ok (.iload_n 3, 1) := by decide +kernel
theorem dX8_rolls_20 : decode cX8_rolls 20 = .ok (.istore 7, 2) := by decide +kernel
theorem dX8_rolls_22 : decode cX8_rolls 22 = .ok (.iconst 0, 1) := by decide +kernel
theorem dX8_rolls_23 : decode cX8_rolls 23 = .ok (.istore 8, 2) := by decide +kernel
theorem dX8_rolls_25 : decode cX8_rolls 25 = .ok (.aload_n 0, 1) := by decide +kernel
theorem dX8_rolls_26 : decode cX8_rolls 26 = .ok (.iconst 0, 1) := by decide +kernel
theorem dX8_rolls_27 : decode cX8_rolls 27 = .ok (.putfield 60, 3) := by decide +kernel
theorem dX8_rolls_30 : decode cX8_rolls 30 = .ok (.iload 7, 2) := by decide +kernel
theorem dX8_rolls_32 : decode cX8_rolls 32 = .ok (.ifCond .le 245, 3) := by decide +kernel
theorem dX8_rolls_35 : decode cX8_rolls 35 = .ok (.aload_n 0, 1) := by decide +kernel
theorem dX8_rolls_36 : decode cX8_rolls 36 = .ok (.iload 4, 2) := by decide +kernel
theorem dX8_rolls_38 : decode cX8_rolls 38 = .ok (.iconst 0, 1) := by decide +kernel
theorem dX8_rolls_39 : decode cX8_rolls 39 = .ok (.invokevirtual 43, 3) := by decide +kernel
theorem dX8_rolls_42 : decode cX8_rolls 42 = .ok (.iload 5, 2) := by decide +kernel
theorem dX8_rolls_44 : decode cX8_rolls 44 = .ok (.iadd, 1) := by decide +kernel
theorem dX8_rolls_45 : decode cX8_rolls 45 = .ok (.iconst 0, 1) := by decide +kernel
theorem dX8_rolls_46 : decode cX8_rolls 46 = .ok (.bipush 30, 2) := by decide +kernel
theorem dX8_rolls_48 : decode cX8_rolls 48 = .ok (.invokestatic 39, 3) := by decide +kernel
theorem dX8_rolls_51 : decode cX8_rolls 51 = .ok (.ifCond .ne 19, 3) := by decide +kernel
theorem dX8_rolls_54 : decode cX8_rolls 54 = .ok (.iload 5, 2) := by decide +kernel
theorem dX8_rolls_56 : decode cX8_rolls 56 = .ok (.ineg, 1) := by decide +kernel
theorem dX8_rolls_57 : decode cX8_rolls 57 = .ok (.istore 5, 2) := by decide +kernel
theorem dX8_rolls_59 : decode cX8_rolls 59 = .ok (.aload_n 0, 1) := by decide +kernel
theorem dX8_rolls_60 : decode cX8_rolls 60 = .ok (.getfield 7, 3) := by decide +kernel
theorem dX8_rolls_63 : decode cX8_rolls 63 = .ok (.bipush 7, 2) := by decide +kernel
theorem dX8_rolls_65 : decode cX8_rolls 65 = .ok (.dup2, 1) := by decide +kernel
theorem dX8_rolls_66 : decode cX8_rolls 66 = .ok (.iaload, 1) := by decide +kernel
theorem dX8_rolls_67 : decode cX8_rolls 67 = .ok (.iconst 1, 1) := by decide +kernel
theorem dX8_rolls_68 : decode cX8_rolls 68 = .ok (.iadd, 1) := by decide +kernel
theorem dX8_rolls_69 : decode cX8_rolls 69 = .ok (.iastore, 1) := by decide +kernel
theorem dX8_rolls_70 : decode cX8_rolls 70 = .ok (.aload_n 0, 1) := by decide +kernel
theorem dX8_rolls_71 : decode cX8_rolls 71 = .ok (.iload 4, 2) := by decide +kernel
theorem dX8_rolls_73 : decode cX8_rolls 73 = .ok (.iconst 1, 1) := by decide +kernel
theorem dX8_rolls_74 : decode cX8_rolls 74 = .ok (.invokevirtual 43, 3) := by decide +kernel
theorem dX8_rolls_77 : decode cX8_rolls 77 = .ok (.iload 6, 2) := by decide +kernel
theorem dX8_rolls_79 : decode cX8_rolls 79 = .ok (.iadd, 1) := by decide +kernel
theorem dX8_rolls_80 : decode cX8_rolls 80 = .ok (.iconst 0, 1) := by decide +kernel
theorem dX8_rolls_81 : decode cX8_rolls 81 = .ok (.bipush 30, 2) := by decide +kernel
theorem dX8_rolls_83 : decode cX8_rolls 83 = .ok (.invokestatic 39, 3) := by decide +kernel
theorem dX8_rolls_86 : decode cX8_rolls 86 = .ok (.ifCond .ne 19, 3) := by decide +kernel
theorem dX8_rolls_89 : decode cX8_rolls 89 = .ok (.iload 6, 2) := by decide +kernel
theorem dX8_rolls_91 : decode cX8_rolls 91 = .ok (.ineg, 1) := by decide +kernel
theorem dX8_rolls_92 : decode cX8_rolls 92 = .ok (.istore 6, 2) := by decide +kernel
theorem dX8_rolls_94 : decode cX8_rolls 94 = .ok (.aload_n 0, 1) := by decide +kernel
theorem dX8_rolls_95 : decode cX8_rolls 95 = .ok (.getfield 7, 3) := by decide +kernel
theorem dX8_rolls_98 : decode cX8_rolls 98 = .ok (.bipush 7, 2) := by decide +kernel
theorem dX8_rolls_100 : decode cX8_rolls 100 = .ok (.dup2, 1) := by decide +kernel
theorem dX8_rolls_101 : decode cX8_rolls 101 = .ok (.iaload, 1) := by decide +kernel
theorem dX8_rolls_102 : decode cX8_rolls 102 = .ok (.iconst 1, 1) := by decide +kernel
theorem dX8_rolls_103 : decode cX8_rolls 103 = .ok (.iadd, 1) := by decide +kernel
theorem dX8_rolls_104 : decode cX8_rolls 104 = .ok (.iastore, 1) := by decide +kernel
theorem dX8_rolls_105 : decode cX8_rolls 105 = .ok (.aload_n 0, 1) := by decide +kernel
theorem dX8_rolls_106 : decode cX8_rolls 106 = .ok (.iload 4, 2) := by decide +kernel
theorem dX8_rolls_108 : decode cX8_rolls 108 = .ok (.iconst 0, 1) := by decide +kernel
theorem dX8_rolls_109 : decode cX8_rolls 109 = .ok (.invokevirtual 43, 3) := by decide +kernel
theorem dX8_rolls_112 : decode cX8_rolls 112 = .ok (.iload 5, 2) := by decide +kernel
theorem dX8_rolls_114 : decode cX8_rolls 114 = .ok (.iadd, 1) := by decide +kernel
theorem dX8_rolls_115 : decode cX8_rolls 115 = .ok (.istore 9, 2) := by decide +kernel
theorem dX8_rolls_117 : decode cX8_rolls 117 = .ok (.aload_n 0, 1) := by decide +kernel
theorem dX8_rolls_118 : decode cX8_rolls 118 = .ok (.iload 4, 2) := by decide +kernel
theorem dX8_rolls_120 : decode cX8_rolls 120 = .ok (.iconst 1, 1) := by decide +kernel
theorem dX8_rolls_121 : decode cX8_rolls 121 = .ok (.invokevirtual 43, 3) := by decide +kernel
theorem dX8_rolls_124 : decode cX8_rolls 124 = .ok (.iload 6, 2) := by decide +kernel
theorem dX8_rolls_126 : decode cX8_rolls 126 = .ok (.iadd, 1) := by decide +kernel
theorem dX8_rolls_127 : decode cX8_rolls 127 = .ok (.istore 10, 2) := by decide +kernel
theorem dX8_rolls_129 : decode cX8_rolls 129 = .ok (.aload_n 0, 1) := by decide +kernel
theorem dX8_rolls_130 : decode cX8_rolls 130 = .ok (.iload 9, 2) := by decide +kernel
theorem dX8_rolls_132 : decode cX8_rolls 132 = .ok (.iload 10, 2) := by decide +kernel
theorem dX8_rolls_134 : decode cX8_rolls 134 = .ok (.invokevirtual 63, 3) := by decide +kernel
theorem dX8_rolls_137 : decode cX8_rolls 137 = .ok (.istore 11, 2) := by decide +kernel
theorem dX8_rolls_139 : decode cX8_rolls 139 = .ok (.iload 11, 2) := by decide +kernel
theorem dX8_rolls_141 : decode cX8_rolls 141 = .ok (.sipush (-1006), 3) := by decide +kernel
theorem dX8_rolls_144 : decode cX8_rolls 144 = .ok (.if_icmp .ne 49, 3) := by decide +kernel
theorem dX8_rolls_147 : decode cX8_rolls 147 = .ok (.iload 7, 2) := by decide +kernel
theorem dX8_rolls_149 : decode cX8_rolls 149 = .ok (.iconst 1, 1) := by decide +kernel
theorem dX8_rolls_150 : decode cX8_rolls 150 = .ok (.aload_n 0, 1) := by decide +kernel
theorem dX8_rolls_151 : decode cX8_rolls 151 = .ok (.iload 4, 2) := by decide +kernel
theorem dX8_rolls_153 : decode cX8_rolls 153 = .ok (.invokevirtual 66, 3) := by decide +kernel
theorem dX8_rolls_156 : decode cX8_rolls 156 = .ok (.aload_n 0, 1) := by decide +kernel
theorem dX8_rolls_157 : decode cX8_rolls 157 = .ok (.iload 9, 2) := by decide +kernel
theorem dX8_rolls_159 : decode cX8_rolls 159 = .ok (.iload 10, 2) := by decide +kernel
theorem dX8_rolls_161 : decode cX8_rolls 161 = .ok (.invokevirtual 53, 3) := by decide +kernel
theorem dX8_rolls_164 : decode cX8_rolls 164 = .ok (.ixor, 1) := by decide +kernel
theorem dX8_rolls_165 : decode cX8_rolls 165 = .ok (.invokestatic 70, 3) := by decide +kernel
theorem dX8_rolls_168 : decode cX8_rolls 168 = .ok (.iadd, 1) := by decide +kernel
theorem dX8_rolls_169 : decode cX8_rolls 169 = .ok (.isub, 1) := by decide +kernel
theorem dX8_rolls_170 : decode cX8_rolls 170 = .ok (.istore 7, 2) := by decide +kernel
theorem dX8_rolls_172 : decode cX8_rolls 172 = .ok (.aload_n 0, 1) := by decide +kernel
theorem dX8_rolls_173 : decode cX8_rolls 173 = .ok (.iload 4, 2) := by decide +kernel
theorem dX8_rolls_175 : decode cX8_rolls 175 = .ok (.iconst 0, 1) := by decide +kernel
theorem dX8_rolls_176 : decode cX8_rolls 176 = .ok (.iload 9, 2) := by decide +kernel
theorem dX8_rolls_178 : decode cX8_rolls 178 = .ok (.invokevirtual 73, 3) := by decide +kernel
theorem dX8_rolls_181 : decode cX8_rolls 181 = .ok (.aload_n 0, 1) := by decide +kernel
theorem dX8_rolls_182 : decode cX8_rolls 182 = .ok (.iload 4, 2) := by decide +kernel
theorem dX8_rolls_184 : decode cX8_rolls 184 = .ok (.iconst 1, 1) := by decide +kernel
theorem dX8_rolls_185 : decode cX8_rolls 185 = .ok (.iload 10, 2) := by decide +kernel
theorem dX8_rolls_187 : decode cX8_rolls 187 = .ok (.invokevirtual 73, 3) := by decide +kernel
theorem dX8_rolls_190 : decode cX8_rolls 190 = .ok (.goto 84, 3) := by decide +kernel
theorem dX8_rolls_193 : decode cX8_rolls 193 = .ok (.iload 7, 2) := by decide +kernel
theorem dX8_rolls_195 : decode cX8_rolls 195 = .ok (.aload_n 0, 1) := by decide +kernel
theorem dX8_rolls_196 : decode cX8_rolls 196 = .ok (.iload 4, 2) := by decide +kernel
theorem dX8_rolls_198 : decode cX8_rolls 198 = .ok (.iconst 2, 1) := by decide +kernel
theorem dX8_rolls_199 : decode cX8_rolls 199 = .ok (.invokevirtual 43, 3) := by decide +kernel
theorem dX8_rolls_202 : decode cX8_rolls 202 = .ok (.imul, 1) := by decide +kernel
theorem dX8_rolls_203 : decode cX8_rolls 203 = .ok (.aload_n 0, 1) := by decide +kernel
theorem dX8_rolls_204 : decode cX8_rolls 204 = .ok (.iload 11, 2) := by decide +kernel
theorem dX8_rolls_206 : decode cX8_rolls 206 = .ok (.iconst 2, 1) := by decide +kernel
theorem dX8_rolls_207 : decode cX8_rolls 207 = .ok (.invokevirtual 43, 3) := by decide +kernel
theorem dX8_rolls_210 : decode cX8_rolls 210 = .ok (.idiv, 1) := by decide +kernel
theorem dX8_rolls_211 : decode cX8_rolls 211 = .ok (.istore 7, 2) := by decide +kernel
theorem dX8_rolls_213 : decode cX8_rolls 213 = .ok (.iload 7, 2) := by decide +kernel
theorem dX8_rolls_215 : decode cX8_rolls 215 = .ok (.bipush 40, 2) := by decide +kernel
theorem dX8_rolls_217 : decode cX8_rolls 217 = .ok (.if_icmp .le 8, 3) := by decide +kernel
theorem dX8_rolls_220 : decode cX8_rolls 220 = .ok (.bipush 40, 2) := by decide +kernel
theorem dX8_rolls_222 : decode cX8_rolls 222 = .ok (.goto 5, 3) := by decide +kernel
theorem dX8_rolls_225 : decode cX8_rolls 225 = .ok (.iload 7, 2) := by decide +kernel
theorem dX8_rolls_227 : decode cX8_rolls 227 = .ok (.istore 7, 2) := by decide +kernel
theorem dX8_rolls_229 : decode cX8_rolls 229 = .ok (.iload 11, 2) := by decide +kernel
theorem dX8_rolls_231 : decode cX8_rolls 231 = .ok (.istore 4, 2) := by decide +kernel
theorem dX8_rolls_233 : decode cX8_rolls 233 = .ok (.aload_n 0, 1) := by decide +kernel
theorem dX8_rolls_234 : decode cX8_rolls 234 = .ok (.dup, 1) := by decide +kernel
theorem dX8_rolls_235 : decode cX8_rolls 235 = .ok (.getfield 60, 3) := by decide +kernel
theorem dX8_rolls_238 : decode cX8_rolls 238 = .ok (.iconst 1, 1) := by decide +kernel
theorem dX8_rolls_239 : decode cX8_rolls 239 = .ok (.iload 4, 2) := by decide +kernel
theorem dX8_rolls_241 : decode cX8_rolls 241 = .ok (.ishl, 1) := by decide +kernel
theorem dX8_rolls_242 : decode cX8_rolls 242 = .ok (.ior, 1) := by decide +kernel
theorem dX8_rolls_243 : decode cX8_rolls 243 = .ok (.putfield 60, 3) := by decide +kernel
theorem dX8_rolls_246 : decode cX8_rolls 246 = .ok (.iinc 8 1, 3) := by decide +kernel
theorem dX8_rolls_249 : decode cX8_rolls 249 = .ok (.aload_n 0, 1) := by decide +kernel
theorem dX8_rolls_250 : decode cX8_rolls 250 = .ok (.getfield 7, 3) := by decide +kernel
theorem dX8_rolls_253 : decode cX8_rolls 253 = .ok (.iconst 4, 1) := by decide +kernel
theorem dX8_rolls_254 : decode cX8_rolls 254 = .ok (.dup2, 1) := by decide +kernel
theorem dX8_rolls_255 : decode cX8_rolls 255 = .ok (.iaload, 1) := by decide +kernel
theorem dX8_rolls_256 : decode cX8_rolls 256 = .ok (.iconst 1, 1) := by decide +kernel
theorem dX8_rolls_257 : decode cX8_rolls 257 = .ok (.iadd, 1) := by decide +kernel
theorem dX8_rolls_258 : decode cX8_rolls 258 = .ok (.iastore, 1) := by decide +kernel
theorem dX8_rolls_259 : decode cX8_rolls 259 = .ok (.iload 8, 2) := by decide +kernel
theorem dX8_rolls_261 : decode cX8_rolls 261 = .ok (.bipush 60, 2) := by decide +kernel
theorem dX8_rolls_263 : decode cX8_rolls 263 = .ok (.if_icmp .ne 7, 3) := by decide +kernel
theorem dX8_rolls_266 : decode cX8_rolls 266 = .ok (.iconst 0, 1) := by decide +kernel
theorem dX8_rolls_267 : decode cX8_rolls 267 = .ok (.goto 5, 3) := by decide +kernel
theorem dX8_rolls_270 : decode cX8_rolls 270 = .ok (.iload 7, 2) := by decide +kernel
theorem dX8_rolls_272 : decode cX8_rolls 272 = .ok (.istore 7, 2) := by decide +kernel
theorem dX8_rolls_274 : decode cX8_rolls 274 = .ok (.goto (-244), 3) := by decide +kernel
theorem dX8_rolls_277 : decode cX8_rolls 277 = .ok (.aload_n 0, 1) := by decide +kernel
theorem dX8_rolls_278 : decode cX8_rolls 278 = .ok (.iload 4, 2) := by decide +kernel
theorem dX8_rolls_280 : decode cX8_rolls 280 = .ok (.putfield 77, 3) := by decide +kernel
theorem dX8_rolls_283 : decode cX8_rolls 283 = .ok (.aload_n 0, 1) := by decide +kernel
theorem dX8_rolls_284 : decode cX8_rolls 284 = .ok (.aload_n 0, 1) := by decide +kernel
theorem dX8_rolls_285 : decode cX8_rolls 285 = .ok (.iload 4, 2) := by decide +kernel
theorem dX8_rolls_287 : decode cX8_rolls 287 = .ok (.iconst 0, 1) := by decide +kernel
theorem dX8_rolls_288 : decode cX8_rolls 288 = .ok (.invokevirtual 43, 3) := by decide +kernel
theorem dX8_rolls_291 : decode cX8_rolls 291 = .ok (.putfield 80, 3) := by decide +kernel
theorem dX8_rolls_294 : decode cX8_rolls 294 = .ok (.aload_n 0, 1) := by decide +kernel
theorem dX8_rolls_295 : decode cX8_rolls 295 = .ok (.aload_n 0, 1) := by decide +kernel
theorem dX8_rolls_296 : decode cX8_rolls 296 = .ok (.iload 4, 2) := by decide +kernel
theorem dX8_rolls_298 : decode cX8_rolls 298 = .ok (.iconst 1, 1) := by decide +kernel
theorem dX8_rolls_299 : decode cX8_rolls 299 = .ok (.invokevirtual 43, 3) := by decide +kernel
theorem dX8_rolls_302 : decode cX8_rolls 302 = .ok (.putfield 83, 3) := by decide +kernel
theorem dX8_rolls_305 : decode cX8_rolls 305 = .ok (.return_, 1) := by decide +kernel
theorem dX8_flicks_0 : decode cX8_flicks 0 = .ok (.iconst 0, 1) := by decide +kernel
theorem dX8_flicks_1 : decode cX8_flicks 1 = .ok (.istore 5, 2) := by decide +kernel
theorem dX8_flicks_3 : decode cX8_flicks 3 = .ok (.iload 5, 2) := by decide +kernel
theorem dX8_flicks_5 : decode cX8_flicks 5 = .ok (.aload_n 0, 1) := by decide +kernel
theorem dX8_flicks_6 : decode cX8_flicks 6 = .ok (.getfield 7, 3) := by decide +kernel
theorem dX8_flicks_9 : decode cX8_flicks 9 = .ok (.iconst 0, 1) := by decide +kernel
theorem dX8_flicks_10 : decode cX8_flicks 10 = .ok (.iaload, 1) := by decide +kernel
theorem dX8_flicks_11 : decode cX8_flicks 11 = .ok (.if_icmp .ge 35, 3) := by decide +kernel
theorem dX8_flicks_14 : decode cX8_flicks 14 = .ok (.aload_n 0, 1) := by decide +kernel
theorem dX8_flicks_15 : decode cX8_flicks 15 = .ok (.getfield 28, 3) := by decide +kernel
theorem dX8_flicks_18 : decode cX8_flicks 18 = .ok (.iload 5, 2) := by decide +kernel
theorem dX8_flicks_20 : decode cX8_flicks 20 = .ok (.aload_n 0, 1) := by decide +kernel
theorem dX8_flicks_21 : decode cX8_flicks 21 = .ok (.iload 5, 2) := by decide +kernel
theorem dX8_flicks_23 : decode cX8_flicks 23 = .ok (.invokevirtual 56, 3) := by decide +kernel
theorem dX8_flicks_26 : decode cX8_flicks 26 = .ok (.ifCond .eq 12, 3) := by decide +kernel
theorem dX8_flicks_29 : decode cX8_flicks 29 = .ok (.aload_n 0, 1) := by decide +kernel
theorem dX8_flicks_30 : decode cX8_flicks 30 = .ok (.iload 5, 2) := by decide +kernel
theorem dX8_flicks_32 : decode cX8_flicks 32 = .ok (.invokevirtual 66, 3) := by decide +kernel
theorem dX8_flicks_35 : decode cX8_flicks 35 = .ok (.goto 4, 3) := by decide +kernel
theorem dX8_flicks_38 : decode cX8_flicks 38 = .ok (.iconst 0, 1) := by decide +kernel
theorem dX8_flicks_39 : decode cX8_flicks 39 = .ok (.iastore, 1) := by decide +kernel
theorem dX8_flicks_40 : decode cX8_flicks 40 = .ok (.iinc 5 1, 3) := by decide +kernel
theorem dX8_flicks_43 : decode cX8_flicks 43 = .ok (.goto (-40), 3) := by decide +kernel
theorem dX8_flicks_46 : decode cX8_flicks 46 = .ok (.aload_n 0, 1) := by decide +kernel
theorem dX8_flicks_47 : decode cX8_flicks 47 = .ok (.iload_n 2, 1) := by decide +kernel
theorem dX8_flicks_48 : decode cX8_flicks 48 = .ok (.iload_n 3, 1) := by decide +kernel
theorem dX8_flicks_49 : decode cX8_flicks 49 = .ok (.iload 4, 2) := by decide +kernel
theorem dX8_flicks_51 : decode cX8_flicks 51 = .ok (.invokevirtual 86, 3) := by decide +kernel
theorem dX8_flicks_54 : decode cX8_flicks 54 = .ok (.aload_n 0, 1) := by decide +kernel
theorem dX8_flicks_55 : decode cX8_flicks 55 = .ok (.getfield 7, 3) := by decide +kernel
theorem dX8_flicks_58 : decode cX8_flicks 58 = .ok (.iconst 3, 1) := by decide +kernel
theorem dX8_flicks_59 : decode cX8_flicks 59 = .ok (.dup2, 1) := by decide +kernel
theorem dX8_flicks_60 : decode cX8_flicks 60 = .ok (.iaload, 1) := by decide +kernel
theorem dX8_flicks_61 : decode cX8_flicks 61 = .ok (.iconst 1, 1) := by decide +kernel
theorem dX8_flicks_62 : decode cX8_flicks 62 = .ok (.iadd, 1) := by decide +kernel
theorem dX8_flicks_63 : decode cX8_flicks 63 = .ok (.iastore, 1) := by decide +kernel
theorem dX8_flicks_64 : decode cX8_flicks 64 = .ok (.aload_n 0, 1) := by decide +kernel
theorem dX8_flicks_65 : decode cX8_flicks 65 = .ok (.iconst 0, 1) := by decide +kernel
theorem dX8_flicks_66 : decode cX8_flicks 66 = .ok (.putfield 89, 3) := by decide +kernel
theorem dX8_flicks_69 : decode cX8_flicks 69 = .ok (.aload_n 0, 1) := by decide +kernel
theorem dX8_flicks_70 : decode cX8_flicks 70 = .ok (.iconst 0, 1) := by decide +kernel
theorem dX8_flicks_71 : decode cX8_flicks 71 = .ok (.putfield 92, 3) := by decide +kernel
theorem dX8_flicks_74 : decode cX8_flicks 74 = .ok (.iconst 0, 1) := by decide +kernel
theorem dX8_flicks_75 : decode cX8_flicks 75 = .ok (.istore 5, 2) := by decide +kernel
theorem dX8_flicks_77 : decode cX8_flicks 77 = .ok (.iconst 0, 1) := by decide +kernel
theorem dX8_flicks_78 : decode cX8_flicks 78 = .ok (.istore 6, 2) := by decide +kernel
theorem dX8_flicks_80 : decode cX8_flicks 80 = .ok (.iload 6, 2) := by decide +kernel
theorem dX8_flicks_82 : decode cX8_flicks 82 = .ok (.aload_n 0, 1) := by decide +kernel
theorem dX8_flicks_83 : decode cX8_flicks 83 = .ok (.getfield 7, 3) := by decide +kernel
theorem dX8_flicks_86 : decode cX8_flicks 86 = .ok (.iconst 0, 1) := by decide +kernel
theorem dX8_flicks_87 : decode cX8_flicks 87 = .ok (.iaload, 1) := by decide +kernel
theorem dX8_flicks_88 : decode cX8_flicks 88 = .ok (.if_icmp .ge 110, 3) := by decide +kernel
theorem dX8_flicks_91 : decode cX8_flicks 91 = .ok (.aload_n 0, 1) := by decide +kernel
theorem dX8_flicks_92 : decode cX8_flicks 92 = .ok (.getfield 60, 3) := by decide +kernel
theorem dX8_flicks_95 : decode cX8_flicks 95 = .ok (.iload 6, 2) := by decide +kernel
theorem dX8_flicks_97 : decode cX8_flicks 97 = .ok (.ishr, 1) := by decide +kernel
theorem dX8_flicks_98 : decode cX8_flicks 98 = .ok (.iconst 1, 1) := by decide +kernel
theorem dX8_flicks_99 : decode cX8_flicks 99 = .ok (.iand, 1) := by decide +kernel
theorem dX8_flicks_100 : decode cX8_flicks 100 = .ok (.iconst 1, 1) := by decide +kernel
theorem dX8_flicks_101 : decode cX8_flicks 101 = .ok (.if_icmp .ne 37, 3) := by decide +kernel
theorem dX8_flicks_104 : decode cX8_flicks 104 = .ok (.aload_n 0, 1) := by decide +kernel
theorem dX8_flicks_105 : decode cX8_flicks 105 = .ok (.iload 6, 2) := by decide +kernel
theorem dX8_flicks_107 : decode cX8_flicks 107 = .ok (.iconst 3, 1) := by decide +kernel
theorem dX8_flicks_108 : decode cX8_flicks 108 = .ok (.invokevirtual 43, 3) := by decide +kernel
theorem dX8_flicks_111 : decode cX8_flicks 111 = .ok (.iload_n 1, 1) := by decide +kernel
theorem dX8_flicks_112 : decode cX8_flicks 112 = .ok (.if_icmp .eq 26, 3) := by decide +kernel
theorem dX8_flicks_115 : decode cX8_flicks 115 = .ok (.aload_n 0, 1) := by decide +kernel
theorem dX8_flicks_116 : decode cX8_flicks 116 = .ok (.getfield 28, 3) := by decide +kernel
theorem dX8_flicks_119 : decode cX8_flicks 119 = .ok (.iload 6, 2) := by decide +kernel
theorem dX8_flicks_121 : decode cX8_flicks 121 = .ok (.iaload, 1) := by decide +kernel
theorem dX8_flicks_122 : decode cX8_flicks 122 = .ok (.ifCond .eq 16, 3) := by decide +kernel
theorem dX8_flicks_125 : decode cX8_flicks 125 = .ok (.aload_n 0, 1) := by decide +kernel
theorem dX8_flicks_126 : decode cX8_flicks 126 = .ok (.iload 6, 2) := by decide +kernel
theorem dX8_flicks_128 : decode cX8_flicks 128 = .ok (.invokevirtual 66, 3) := by decide +kernel
theorem dX8_flicks_131 : decode cX8_flicks 131 = .ok (.ifCond .ne 7, 3) := by decide +kernel
theorem dX8_flicks_134 : decode cX8_flicks 134 = .ok (.iconst 1, 1) := by decide +kernel
theorem dX8_flicks_135 : decode cX8_flicks 135 = .ok (.goto 4, 3) := by decide +kernel
theorem dX8_flicks_138 : decode cX8_flicks 138 = .ok (.iconst 0, 1) := by decide +kernel
theorem dX8_flicks_139 : decode cX8_flicks 139 = .ok (.istore 7, 2) := by decide +kernel
theorem dX8_flicks_141 : decode cX8_flicks 141 = .ok (.iload 7, 2) := by decide +kernel
theorem dX8_flicks_143 : decode cX8_flicks 143 = .ok (.ifCond .eq 49, 3) := by decide +kernel
theorem dX8_flicks_146 : decode cX8_flicks 146 = .ok (.aload_n 0, 1) := by decide +kernel
theorem dX8_flicks_147 : decode cX8_flicks 147 = .ok (.iload 6, 2) := by decide +kernel
theorem dX8_flicks_149 : decode cX8_flicks 149 = .ok (.iconst 4, 1) := by decide +kernel
theorem dX8_flicks_150 : decode cX8_flicks 150 = .ok (.iload_n 1, 1) := by decide +kernel
theorem dX8_flicks_151 : decode cX8_flicks 151 = .ok (.invokevirtual 73, 3) := by decide +kernel
theorem dX8_flicks_154 : decode cX8_flicks 154 = .ok (.aload_n 0, 1) := by decide +kernel
theorem dX8_flicks_155 : decode cX8_flicks 155 = .ok (.dup, 1) := by decide +kernel
theorem dX8_flicks_156 : decode cX8_flicks 156 = .ok (.getfield 89, 3) := by decide +kernel
theorem dX8_flicks_159 : decode cX8_flicks 159 = .ok (.iconst 1, 1) := by decide +kernel
theorem dX8_flicks_160 : decode cX8_flicks 160 = .ok (.iadd, 1) := by decide +kernel
theorem dX8_flicks_161 : decode cX8_flicks 161 = .ok (.putfield 89, 3) := by decide +kernel
theorem dX8_flicks_164 : decode cX8_flicks 164 = .ok (.aload_n 0, 1) := by decide +kernel
theorem dX8_flicks_165 : decode cX8_flicks 165 = .ok (.dup, 1) := by decide +kernel
theorem dX8_flicks_166 : decode cX8_flicks 166 = .ok (.getfield 92, 3) := by decide +kernel
theorem dX8_flicks_169 : decode cX8_flicks 169 = .ok (.aload_n 0, 1) := by decide +kernel
theorem dX8_flicks_170 : decode cX8_flicks 170 = .ok (.iload 6, 2) := by decide +kernel
theorem dX8_flicks_172 : decode cX8_flicks 172 = .ok (.iconst 2, 1) := by decide +kernel
theorem dX8_flicks_173 : decode cX8_flicks 173 = .ok (.invokevirtual 43, 3) := by decide +kernel
theorem dX8_flicks_176 : decode cX8_flicks 176 = .ok (.iadd, 1) := by decide +kernel
theorem dX8_flicks_177 : decode cX8_flicks 177 = .ok (.putfield 92, 3) := by decide +kernel
theorem dX8_flicks_180 : decode cX8_flicks 180 = .ok (.iload 5, 2) := by decide +kernel
theorem dX8_flicks_182 : decode cX8_flicks 182 = .ok (.aload_n 0, 1) := by decide +kernel
theorem dX8_flicks_183 : decode cX8_flicks 183 = .ok (.getfield 28, 3) := by decide +kernel
theorem dX8_flicks_186 : decode cX8_flicks 186 = .ok (.iload 6, 2) := by decide +kernel
theorem dX8_flicks_188 : decode cX8_flicks 188 = .ok (.iaload, 1) := by decide +kernel
theorem dX8_flicks_189 : decode cX8_flicks 189 = .ok (.ior, 1) := by decide +kernel
theorem dX8_flicks_190 : decode cX8_flicks 190 = .ok (.istore 5, 2) := by decide +kernel
theorem dX8_flicks_192 : decode cX8_flicks 192 = .ok (.iinc 6 1, 3) := by decide +kernel
theorem dX8_flicks_195 : decode cX8_flicks 195 = .ok (.goto (-115), 3) := by decide +kernel
theorem dX8_flicks_198 : decode cX8_flicks 198 = .ok (.aload_n 0, 1) := by decide +kernel
theorem dX8_flicks_199 : decode cX8_flicks 199 = .ok (.getfield 7, 3) := by decide +kernel
theorem dX8_flicks_202 : decode cX8_flicks 202 = .ok (.iconst 5, 1) := by decide +kernel
theorem dX8_flicks_203 : decode cX8_flicks 203 = .ok (.dup2, 1) := by decide +kernel
theorem dX8_flicks_204 : decode cX8_flicks 204 = .ok (.iaload, 1) := by decide +kernel
theorem dX8_flicks_205 : decode cX8_flicks 205 = .ok (.aload_n 0, 1) := by decide +kernel
theorem dX8_flicks_206 : decode cX8_flicks 206 = .ok (.getfield 89, 3) := by decide +kernel
theorem dX8_flicks_209 : decode cX8_flicks 209 = .ok (.iadd, 1) := by decide +kernel
theorem dX8_flicks_210 : decode cX8_flicks 210 = .ok (.iastore, 1) := by decide +kernel
theorem dX8_flicks_211 : decode cX8_flicks 211 = .ok (.iconst 0, 1) := by decide +kernel
theorem dX8_flicks_212 : decode cX8_flicks 212 = .ok (.istore 6, 2) := by decide +kernel
theorem dX8_flicks_214 : decode cX8_flicks 214 = .ok (.iload 6, 2) := by decide +kernel
theorem dX8_flicks_216 : decode cX8_flicks 216 = .ok (.aload_n 0, 1) := by decide +kernel
theorem dX8_flicks_217 : decode cX8_flicks 217 = .ok (.getfield 7, 3) := by decide +kernel
theorem dX8_flicks_220 : decode cX8_flicks 220 = .ok (.iconst 1, 1) := by decide +kernel
theorem dX8_flicks_221 : decode cX8_flicks 221 = .ok (.iaload, 1) := by decide +kernel
theorem dX8_flicks_222 : decode cX8_flicks 222 = .ok (.if_icmp .ge 61, 3) := by decide +kernel
theorem dX8_flicks_225 : decode cX8_flicks 225 = .ok (.iload 5, 2) := by decide +kernel
theorem dX8_flicks_227 : decode cX8_flicks 227 = .ok (.iload 6, 2) := by decide +kernel
theorem dX8_flicks_229 : decode cX8_flicks 229 = .ok (.ishr, 1) := by decide +kernel
theorem dX8_flicks_230 : decode cX8_flicks 230 = .ok (.iconst 1, 1) := by decide +kernel
theorem dX8_flicks_231 : decode cX8_flicks 231 = .ok (.iand, 1) := by decide +kernel
theorem dX8_flicks_232 : decode cX8_flicks 232 = .ok (.iconst 1, 1) := by decide +kernel
theorem dX8_flicks_233 : decode cX8_flicks 233 = .ok (.if_icmp .ne 44, 3) := by decide +kernel
theorem dX8_flicks_236 : decode cX8_flicks 236 = .ok (.aload_n 0, 1) := by decide +kernel
theorem dX8_flicks_237 : decode cX8_flicks 237 = .ok (.iload 6, 2) := by decide +kernel
theorem dX8_flicks_239 : decode cX8_flicks 239 = .ok (.iconst 2, 1) := by decide +kernel
theorem dX8_flicks_240 : decode cX8_flicks 240 = .ok (.invokevirtual 47, 3) := by decide +kernel
theorem dX8_flicks_243 : decode cX8_flicks 243 = .ok (.bipush 15, 2) := by decide +kernel
theorem dX8_flicks_245 : decode cX8_flicks 245 = .ok (.if_icmp .ge 32, 3) := by decide +kernel
theorem dX8_flicks_248 : decode cX8_flicks 248 = .ok (.aload_n 0, 1) := by decide +kernel
theorem dX8_flicks_249 : decode cX8_flicks 249 = .ok (.getfield 7, 3) := by decide +kernel
theorem dX8_flicks_252 : decode cX8_flicks 252 = .ok (.bipush 68, 2) := by decide +kernel
theorem dX8_flicks_254 : decode cX8_flicks 254 = .ok (.iconst 3, 1) := by decide +kernel
theorem dX8_flicks_255 : decode cX8_flicks 255 = .ok (.iload 6, 2) := by decide +kernel
theorem dX8_flicks_257 : decode cX8_flicks 257 = .ok (.imul, 1) := by decide +kernel
theorem dX8_flicks_258 : decode cX8_flicks 258 = .ok (.iadd, 1) := by decide +kernel
theorem dX8_flicks_259 : decode cX8_flicks 259 = .ok (.iconst 2, 1) := by decide +kernel
theorem dX8_flicks_260 : decode cX8_flicks 260 = .ok (.iadd, 1) := by decide +kernel
theorem dX8_flicks_261 : decode cX8_flicks 261 = .ok (.dup2, 1) := by decide +kernel
theorem dX8_flicks_262 : decode cX8_flicks 262 = .ok (.iaload, 1) := by decide +kernel
theorem dX8_flicks_263 : decode cX8_flicks 263 = .ok (.iconst 1, 1) := by decide +kernel
theorem dX8_flicks_264 : decode cX8_flicks 264 = .ok (.iadd, 1) := by decide +kernel
theorem dX8_flicks_265 : decode cX8_flicks 265 = .ok (.iastore, 1) := by decide +kernel
theorem dX8_flicks_266 : decode cX8_flicks 266 = .ok (.aload_n 0, 1) := by decide +kernel
theorem dX8_flicks_267 : decode cX8_flicks 267 = .ok (.getfield 7, 3) := by decide +kernel
theorem dX8_flicks_270 : decode cX8_flicks 270 = .ok (.bipush 6, 2) := by decide +kernel
theorem dX8_flicks_272 : decode cX8_flicks 272 = .ok (.dup2, 1) := by decide +kernel
theorem dX8_flicks_273 : decode cX8_flicks 273 = .ok (.iaload, 1) := by decide +kernel
theorem dX8_flicks_274 : decode cX8_flicks 274 = .ok (.iconst 1, 1) := by decide +kernel
theorem dX8_flicks_275 : decode cX8_flicks 275 = .ok (.iadd, 1) := by decide +kernel
theorem dX8_flicks_276 : decode cX8_flicks 276 = .ok (.iastore, 1) := by decide +kernel
theorem dX8_flicks_277 : decode cX8_flicks 277 = .ok (.iinc 6 1, 3) := by decide +kernel
theorem dX8_flicks_280 : decode cX8_flicks 280 = .ok (.goto (-66), 3) := by decide +kernel
theorem dX8_flicks_283 : decode cX8_flicks 283 = .ok (.return_, 1) := by decide +kernel
theorem dX8_isFlick_0 : decode cX8_isFlick 0 = .ok (.iload_n 0, 1) := by decide +kernel
theorem dX8_isFlick_1 : decode cX8_isFlick 1 = .ok (.iconst 0, 1) := by decide +kernel
theorem dX8_isFlick_2 : decode cX8_isFlick 2 = .ok (.bipush 7, 2) := by decide +kernel
theorem dX8_isFlick_4 : decode cX8_isFlick 4 = .ok (.invokestatic 39, 3) := by decide +kernel
theorem dX8_isFlick_7 : decode cX8_isFlick 7 = .ok (.ifCond .eq 17, 3) := by decide +kernel
theorem dX8_isFlick_10 : decode cX8_isFlick 10 = .ok (.iload_n 1, 1) := by decide +kernel
theorem dX8_isFlick_11 : decode cX8_isFlick 11 = .ok (.iconst 1, 1) := by decide +kernel
theorem dX8_isFlick_12 : decode cX8_isFlick 12 = .ok (.bipush 40, 2) := by decide +kernel
theorem dX8_isFlick_14 : decode cX8_isFlick 14 = .ok (.invokestatic 39, 3) := by decide +kernel
theorem dX8_isFlick_17 : decode cX8_isFlick 17 = .ok (.ifCond .eq 7, 3) := by decide +kernel
theorem dX8_isFlick_20 : decode cX8_isFlick 20 = .ok (.iconst 1, 1) := by decide +kernel
theorem dX8_isFlick_21 : decode cX8_isFlick 21 = .ok (.goto 4, 3) := by decide +kernel
theorem dX8_isFlick_24 : decode cX8_isFlick 24 = .ok (.iconst 0, 1) := by decide +kernel
theorem dX8_isFlick_25 : decode cX8_isFlick 25 = .ok (.ireturn, 1) := by decide +kernel
theorem dX8_goesOn_0 : decode cX8_goesOn 0 = .ok (.aload_n 0, 1) := by decide +kernel
theorem dX8_goesOn_1 : decode cX8_goesOn 1 = .ok (.getfield 7, 3) := by decide +kernel
theorem dX8_goesOn_4 : decode cX8_goesOn 4 = .ok (.iconst 2, 1) := by decide +kernel
theorem dX8_goesOn_5 : decode cX8_goesOn 5 = .ok (.aload_n 0, 1) := by decide +kernel
theorem dX8_goesOn_6 : decode cX8_goesOn 6 = .ok (.getfield 7, 3) := by decide +kernel
theorem dX8_goesOn_9 : decode cX8_goesOn 9 = .ok (.iconst 2, 1) := by decide +kernel
theorem dX8_goesOn_10 : decode cX8_goesOn 10 = .ok (.iaload, 1) := by decide +kernel
theorem dX8_goesOn_11 : decode cX8_goesOn 11 = .ok (.iconst 1, 1) := by decide +kernel
theorem dX8_goesOn_12 : decode cX8_goesOn 12 = .ok (.iadd, 1) := by decide +kernel
theorem dX8_goesOn_13 : decode cX8_goesOn 13 = .ok (.iconst 3, 1) := by decide +kernel
theorem dX8_goesOn_14 : decode cX8_goesOn 14 = .ok (.irem, 1) := by decide +kernel
theorem dX8_goesOn_15 : decode cX8_goesOn 15 = .ok (.iastore, 1) := by decide +kernel
theorem dX8_goesOn_16 : decode cX8_goesOn 16 = .ok (.return_, 1) := by decide +kernel
theorem dX8_flick_0 : decode cX8_flick 0 = .ok (.aload_n 0, 1) := by decide +kernel
theorem dX8_flick_1 : decode cX8_flick 1 = .ok (.iload_n 1, 1) := by decide +kernel
theorem dX8_flick_2 : decode cX8_flick 2 = .ok (.invokevirtual 95, 3) := by decide +kernel
theorem dX8_flick_5 : decode cX8_flick 5 = .ok (.ifCond .ne 7, 3) := by decide +kernel
theorem dX8_flick_8 : decode cX8_flick 8 = .ok (.sipush (-1001), 3) := by decide +kernel
theorem dX8_flick_11 : decode cX8_flick 11 = .ok (.ireturn, 1) := by decide +kernel
theorem dX8_flick_12 : decode cX8_flick 12 = .ok (.iload_n 2, 1) := by decide +kernel
theorem dX8_flick_13 : decode cX8_flick 13 = .ok (.iload_n 3, 1) := by decide +kernel
theorem dX8_flick_14 : decode cX8_flick 14 = .ok (.invokestatic 98, 3) := by decide +kernel
theorem dX8_flick_17 : decode cX8_flick 17 = .ok (.ifCond .ne 7, 3) := by decide +kernel
theorem dX8_flick_20 : decode cX8_flick 20 = .ok (.sipush (-1002), 3) := by decide +kernel
theorem dX8_flick_23 : decode cX8_flick 23 = .ok (.ireturn, 1) := by decide +kernel
theorem dX8_flick_24 : decode cX8_flick 24 = .ok (.aload_n 0, 1) := by decide +kernel
theorem dX8_flick_25 : decode cX8_flick 25 = .ok (.iload_n 1, 1) := by decide +kernel
theorem dX8_flick_26 : decode cX8_flick 26 = .ok (.invokevirtual 56, 3) := by decide +kernel
theorem dX8_flick_29 : decode cX8_flick 29 = .ok (.ifCond .eq 18, 3) := by decide +kernel
theorem dX8_flick_32 : decode cX8_flick 32 = .ok (.aload_n 0, 1) := by decide +kernel
theorem dX8_flick_33 : decode cX8_flick 33 = .ok (.iload_n 1, 1) := by decide +kernel
theorem dX8_flick_34 : decode cX8_flick 34 = .ok (.iconst 3, 1) := by decide +kernel
theorem dX8_flick_35 : decode cX8_flick 35 = .ok (.invokevirtual 43, 3) := by decide +kernel
theorem dX8_flick_38 : decode cX8_flick 38 = .ok (.aload_n 0, 1) := by decide +kernel
theorem dX8_flick_39 : decode cX8_flick 39 = .ok (.getfield 7, 3) := by decide +kernel
theorem dX8_flick_42 : decode cX8_flick 42 = .ok (.iconst 2, 1) := by decide +kernel
theorem dX8_flick_43 : decode cX8_flick 43 = .ok (.iaload, 1) := by decide +kernel
theorem dX8_flick_44 : decode cX8_flick 44 = .ok (.if_icmp .eq 7, 3) := by decide +kernel
theorem dX8_flick_47 : decode cX8_flick 47 = .ok (.sipush (-1003), 3) := by decide +kernel
theorem dX8_flick_50 : decode cX8_flick 50 = .ok (.ireturn, 1) := by decide +kernel
theorem dX8_flick_51 : decode cX8_flick 51 = .ok (.aload_n 0, 1) := by decide +kernel
theorem dX8_flick_52 : decode cX8_flick 52 = .ok (.invokevirtual 102, 3) := by decide +kernel
theorem dX8_flick_55 : decode cX8_flick 55 = .ok (.aload_n 0, 1) := by decide +kernel
theorem dX8_flick_56 : decode cX8_flick 56 = .ok (.aload_n 0, 1) := by decide +kernel
theorem dX8_flick_57 : decode cX8_flick 57 = .ok (.getfield 7, 3) := by decide +kernel
theorem dX8_flick_60 : decode cX8_flick 60 = .ok (.iconst 2, 1) := by decide +kernel
theorem dX8_flick_61 : decode cX8_flick 61 = .ok (.iaload, 1) := by decide +kernel
theorem dX8_flick_62 : decode cX8_flick 62 = .ok (.iload_n 1, 1) := by decide +kernel
theorem dX8_flick_63 : decode cX8_flick 63 = .ok (.iload_n 2, 1) := by decide +kernel
theorem dX8_flick_64 : decode cX8_flick 64 = .ok (.iload_n 3, 1) := by decide +kernel
theorem dX8_flick_65 : decode cX8_flick 65 = .ok (.invokevirtual 105, 3) := by decide +kernel
theorem dX8_flick_68 : decode cX8_flick 68 = .ok (.aload_n 0, 1) := by decide +kernel
theorem dX8_flick_69 : decode cX8_flick 69 = .ok (.getfield 89, 3) := by decide +kernel
theorem dX8_flick_72 : decode cX8_flick 72 = .ok (.ifCond .ne 7, 3) := by decide +kernel
theorem dX8_flick_75 : decode cX8_flick 75 = .ok (.aload_n 0, 1) := by decide +kernel
theorem dX8_flick_76 : decode cX8_flick 76 = .ok (.invokevirtual 109, 3) := by decide +kernel
theorem dX8_flick_79 : decode cX8_flick 79 = .ok (.aload_n 0, 1) := by decide +kernel
theorem dX8_flick_80 : decode cX8_flick 80 = .ok (.getfield 89, 3) := by decide +kernel
theorem dX8_flick_83 : decode cX8_flick 83 = .ok (.ireturn, 1) := by decide +kernel
theorem dX8_pass_0 : decode cX8_pass 0 = .ok (.aload_n 0, 1) := by decide +kernel
theorem dX8_pass_1 : decode cX8_pass 1 = .ok (.invokevirtual 102, 3) := by decide +kernel
theorem dX8_pass_4 : decode cX8_pass 4 = .ok (.aload_n 0, 1) := by decide +kernel
theorem dX8_pass_5 : decode cX8_pass 5 = .ok (.invokevirtual 109, 3) := by decide +kernel
theorem dX8_pass_8 : decode cX8_pass 8 = .ok (.aload_n 0, 1) := by decide +kernel
theorem dX8_pass_9 : decode cX8_pass 9 = .ok (.getfield 7, 3) := by decide +kernel
theorem dX8_pass_12 : decode cX8_pass 12 = .ok (.iconst 2, 1) := by decide +kernel
theorem dX8_pass_13 : decode cX8_pass 13 = .ok (.iaload, 1) := by decide +kernel
theorem dX8_pass_14 : decode cX8_pass 14 = .ok (.ireturn, 1) := by decide +kernel
theorem dX8_whyNotPut_0 : decode cX8_whyNotPut 0 = .ok (.iload_n 1, 1) := by decide +kernel
theorem dX8_whyNotPut_1 : decode cX8_whyNotPut 1 = .ok (.iload_n 2, 1) := by decide +kernel
theorem dX8_whyNotPut_2 : decode cX8_whyNotPut 2 = .ok (.invokestatic 112, 3) := by decide +kernel
theorem dX8_whyNotPut_5 : decode cX8_whyNotPut 5 = .ok (.ifCond .eq 13, 3) := by decide +kernel
theorem dX8_whyNotPut_8 : decode cX8_whyNotPut 8 = .ok (.iload 4, 2) := by decide +kernel
theorem dX8_whyNotPut_10 : decode cX8_whyNotPut 10 = .ok (.iconst 0, 1) := by decide +kernel
theorem dX8_whyNotPut_11 : decode cX8_whyNotPut 11 = .ok (.iconst 2, 1) := by decide +kernel
theorem dX8_whyNotPut_12 : decode cX8_whyNotPut 12 = .ok (.invokestatic 39, 3) := by decide +kernel
theorem dX8_whyNotPut_15 : decode cX8_whyNotPut 15 = .ok (.ifCond .ne 7, 3) := by decide +kernel
theorem dX8_whyNotPut_18 : decode cX8_whyNotPut 18 = .ok (.sipush (-1001), 3) := by decide +kernel
theorem dX8_whyNotPut_21 : decode cX8_whyNotPut 21 = .ok (.ireturn, 1) := by decide +kernel
theorem dX8_whyNotPut_22 : decode cX8_whyNotPut 22 = .ok (.iload_n 3, 1) := by decide +kernel
theorem dX8_whyNotPut_23 : decode cX8_whyNotPut 23 = .ok (.iconst 1, 1) := by decide +kernel
theorem dX8_whyNotPut_24 : decode cX8_whyNotPut 24 = .ok (.iconst 3, 1) := by decide +kernel
theorem dX8_whyNotPut_25 : decode cX8_whyNotPut 25 = .ok (.invokestatic 39, 3) := by decide +kernel
theorem dX8_whyNotPut_28 : decode cX8_whyNotPut 28 = .ok (.ifCond .ne 7, 3) := by decide +kernel
theorem dX8_whyNotPut_31 : decode cX8_whyNotPut 31 = .ok (.sipush (-1002), 3) := by decide +kernel
theorem dX8_whyNotPut_34 : decode cX8_whyNotPut 34 = .ok (.ireturn, 1) := by decide +kernel
theorem dX8_whyNotPut_35 : decode cX8_whyNotPut 35 = .ok (.aload_n 0, 1) := by decide +kernel
theorem dX8_whyNotPut_36 : decode cX8_whyNotPut 36 = .ok (.iload_n 1, 1) := by decide +kernel
theorem dX8_whyNotPut_37 : decode cX8_whyNotPut 37 = .ok (.iload_n 2, 1) := by decide +kernel
theorem dX8_whyNotPut_38 : decode cX8_whyNotPut 38 = .ok (.invokevirtual 63, 3) := by decide +kernel
theorem dX8_whyNotPut_41 : decode cX8_whyNotPut 41 = .ok (.sipush (-1006), 3) := by decide +kernel
theorem dX8_whyNotPut_44 : decode cX8_whyNotPut 44 = .ok (.if_icmp .eq 9, 3) := by decide +kernel
theorem dX8_whyNotPut_47 : decode cX8_whyNotPut 47 = .ok (.sipush (-1003), 3) := by decide +kernel
theorem dX8_whyNotPut_50 : decode cX8_whyNotPut 50 = .ok (.goto 21, 3) := by decide +kernel
theorem dX8_whyNotPut_53 : decode cX8_whyNotPut 53 = .ok (.aload_n 0, 1) := by decide +kernel
theorem dX8_whyNotPut_54 : decode cX8_whyNotPut 54 = .ok (.getfield 7, 3) := by decide +kernel
theorem dX8_whyNotPut_57 : decode cX8_whyNotPut 57 = .ok (.iconst 0, 1) := by decide +kernel
theorem dX8_whyNotPut_58 : decode cX8_whyNotPut 58 = .ok (.iaload, 1) := by decide +kernel
theorem dX8_whyNotPut_59 : decode cX8_whyNotPut 59 = .ok (.bipush 12, 2) := by decide +kernel
theorem dX8_whyNotPut_61 : decode cX8_whyNotPut 61 = .ok (.if_icmp .ne 9, 3) := by decide +kernel
theorem dX8_whyNotPut_64 : decode cX8_whyNotPut 64 = .ok (.sipush (-1004), 3) := by decide +kernel
theorem dX8_whyNotPut_67 : decode cX8_whyNotPut 67 = .ok (.goto 4, 3) := by decide +kernel
theorem dX8_whyNotPut_70 : decode cX8_whyNotPut 70 = .ok (.iconst 0, 1) := by decide +kernel
theorem dX8_whyNotPut_71 : decode cX8_whyNotPut 71 = .ok (.ireturn, 1) := by decide +kernel
theorem dX8_puts_0 : decode cX8_puts 0 = .ok (.aload_n 0, 1) := by decide +kernel
theorem dX8_puts_1 : decode cX8_puts 1 = .ok (.getfield 7, 3) := by decide +kernel
theorem dX8_puts_4 : decode cX8_puts 4 = .ok (.iconst 0, 1) := by decide +kernel
theorem dX8_puts_5 : decode cX8_puts 5 = .ok (.iaload, 1) := by decide +kernel
theorem dX8_puts_6 : decode cX8_puts 6 = .ok (.istore 5, 2) := by decide +kernel
theorem dX8_puts_8 : decode cX8_puts 8 = .ok (.aload_n 0, 1) := by decide +kernel
theorem dX8_puts_9 : decode cX8_puts 9 = .ok (.getfield 7, 3) := by decide +kernel
theorem dX8_puts_12 : decode cX8_puts 12 = .ok (.iconst 0, 1) := by decide +kernel
theorem dX8_puts_13 : decode cX8_puts 13 = .ok (.dup2, 1) := by decide +kernel
theorem dX8_puts_14 : decode cX8_puts 14 = .ok (.iaload, 1) := by decide +kernel
theorem dX8_puts_15 : decode cX8_puts 15 = .ok (.iconst 1, 1) := by decide +kernel
theorem dX8_puts_16 : decode cX8_puts 16 = .ok (.iadd, 1) := by decide +kernel
theorem dX8_puts_17 : decode cX8_puts 17 = .ok (.iastore, 1) := by decide +kernel
theorem dX8_puts_18 : decode cX8_puts 18 = .ok (.aload_n 0, 1) := by decide +kernel
theorem dX8_puts_19 : decode cX8_puts 19 = .ok (.iload 5, 2) := by decide +kernel
theorem dX8_puts_21 : decode cX8_puts 21 = .ok (.iconst 0, 1) := by decide +kernel
theorem dX8_puts_22 : decode cX8_puts 22 = .ok (.iload_n 1, 1) := by decide +kernel
theorem dX8_puts_23 : decode cX8_puts 23 = .ok (.invokevirtual 73, 3) := by decide +kernel
theorem dX8_puts_26 : decode cX8_puts 26 = .ok (.aload_n 0, 1) := by decide +kernel
theorem dX8_puts_27 : decode cX8_puts 27 = .ok (.iload 5, 2) := by decide +kernel
theorem dX8_puts_29 : decode cX8_puts 29 = .ok (.iconst 1, 1) := by decide +kernel
theorem dX8_puts_30 : decode cX8_puts 30 = .ok (.iload_n 2, 1) := by decide +kernel
theorem dX8_puts_31 : decode cX8_puts 31 = .ok (.invokevirtual 73, 3) := by decide +kernel
theorem dX8_puts_34 : decode cX8_puts 34 = .ok (.aload_n 0, 1) := by decide +kernel
theorem dX8_puts_35 : decode cX8_puts 35 = .ok (.iload 5, 2) := by decide +kernel
theorem dX8_puts_37 : decode cX8_puts 37 = .ok (.iconst 2, 1) := by decide +kernel
theorem dX8_puts_38 : decode cX8_puts 38 = .ok (.iload_n 3, 1) := by decide +kernel
theorem dX8_puts_39 : decode cX8_puts 39 = .ok (.invokevirtual 73, 3) := by decide +kernel
theorem dX8_puts_42 : decode cX8_puts 42 = .ok (.aload_n 0, 1) := by decide +kernel
theorem dX8_puts_43 : decode cX8_puts 43 = .ok (.iload 5, 2) := by decide +kernel
theorem dX8_puts_45 : decode cX8_puts 45 = .ok (.iconst 3, 1) := by decide +kernel
theorem dX8_puts_46 : decode cX8_puts 46 = .ok (.iload 4, 2) := by decide +kernel
theorem dX8_puts_48 : decode cX8_puts 48 = .ok (.invokevirtual 73, 3) := by decide +kernel
theorem dX8_puts_51 : decode cX8_puts 51 = .ok (.aload_n 0, 1) := by decide +kernel
theorem dX8_puts_52 : decode cX8_puts 52 = .ok (.iload 5, 2) := by decide +kernel
theorem dX8_puts_54 : decode cX8_puts 54 = .ok (.iconst 4, 1) := by decide +kernel
theorem dX8_puts_55 : decode cX8_puts 55 = .ok (.sipush (-1006), 3) := by decide +kernel
theorem dX8_puts_58 : decode cX8_puts 58 = .ok (.invokevirtual 73, 3) := by decide +kernel
theorem dX8_puts_61 : decode cX8_puts 61 = .ok (.iload 5, 2) := by decide +kernel
theorem dX8_puts_63 : decode cX8_puts 63 = .ok (.ireturn, 1) := by decide +kernel
theorem dX8_putMarble_0 : decode cX8_putMarble 0 = .ok (.aload_n 0, 1) := by decide +kernel
theorem dX8_putMarble_1 : decode cX8_putMarble 1 = .ok (.iload_n 1, 1) := by decide +kernel
theorem dX8_putMarble_2 : decode cX8_putMarble 2 = .ok (.iload_n 2, 1) := by decide +kernel
theorem dX8_putMarble_3 : decode cX8_putMarble 3 = .ok (.iload_n 3, 1) := by decide +kernel
theorem dX8_putMarble_4 : decode cX8_putMarble 4 = .ok (.iload 4, 2) := by decide +kernel
theorem dX8_putMarble_6 : decode cX8_putMarble 6 = .ok (.invokevirtual 115, 3) := by decide +kernel
theorem dX8_putMarble_9 : decode cX8_putMarble 9 = .ok (.istore 5, 2) := by decide +kernel
theorem dX8_putMarble_11 : decode cX8_putMarble 11 = .ok (.iload 5, 2) := by decide +kernel
theorem dX8_putMarble_13 : decode cX8_putMarble 13 = .ok (.ifCond .ge 6, 3) := by decide +kernel
theorem dX8_putMarble_16 : decode cX8_putMarble 16 = .ok (.iload 5, 2) := by decide +kernel
theorem dX8_putMarble_18 : decode cX8_putMarble 18 = .ok (.ireturn, 1) := by decide +kernel
theorem dX8_putMarble_19 : decode cX8_putMarble 19 = .ok (.aload_n 0, 1) := by decide +kernel
theorem dX8_putMarble_20 : decode cX8_putMarble 20 = .ok (.invokevirtual 102, 3) := by decide +kernel
theorem dX8_putMarble_23 : decode cX8_putMarble 23 = .ok (.aload_n 0, 1) := by decide +kernel
theorem dX8_putMarble_24 : decode cX8_putMarble 24 = .ok (.iload_n 1, 1) := by decide +kernel
theorem dX8_putMarble_25 : decode cX8_putMarble 25 = .ok (.iload_n 2, 1) := by decide +kernel
theorem dX8_putMarble_26 : decode cX8_putMarble 26 = .ok (.iload_n 3, 1) := by decide +kernel
theorem dX8_putMarble_27 : decode cX8_putMarble 27 = .ok (.iload 4, 2) := by decide +kernel
theorem dX8_putMarble_29 : decode cX8_putMarble 29 = .ok (.invokevirtual 119, 3) := by decide +kernel
theorem dX8_putMarble_32 : decode cX8_putMarble 32 = .ok (.ireturn, 1) := by decide +kernel
theorem dX8_whyNotDrawn_0 : decode cX8_whyNotDrawn 0 = .ok (.iload_n 1, 1) := by decide +kernel
theorem dX8_whyNotDrawn_1 : decode cX8_whyNotDrawn 1 = .ok (.iload_n 2, 1) := by decide +kernel
theorem dX8_whyNotDrawn_2 : decode cX8_whyNotDrawn 2 = .ok (.invokestatic 112, 3) := by decide +kernel
theorem dX8_whyNotDrawn_5 : decode cX8_whyNotDrawn 5 = .ok (.ifCond .ne 9, 3) := by decide +kernel
theorem dX8_whyNotDrawn_8 : decode cX8_whyNotDrawn 8 = .ok (.sipush (-1001), 3) := by decide +kernel
theorem dX8_whyNotDrawn_11 : decode cX8_whyNotDrawn 11 = .ok (.goto 36, 3) := by decide +kernel
theorem dX8_whyNotDrawn_14 : decode cX8_whyNotDrawn 14 = .ok (.iload_n 3, 1) := by decide +kernel
theorem dX8_whyNotDrawn_15 : decode cX8_whyNotDrawn 15 = .ok (.iconst 1, 1) := by decide +kernel
theorem dX8_whyNotDrawn_16 : decode cX8_whyNotDrawn 16 = .ok (.bipush 15, 2) := by decide +kernel
theorem dX8_whyNotDrawn_18 : decode cX8_whyNotDrawn 18 = .ok (.invokestatic 39, 3) := by decide +kernel
theorem dX8_whyNotDrawn_21 : decode cX8_whyNotDrawn 21 = .ok (.ifCond .ne 9, 3) := by decide +kernel
theorem dX8_whyNotDrawn_24 : decode cX8_whyNotDrawn 24 = .ok (.sipush (-1002), 3) := by decide +kernel
theorem dX8_whyNotDrawn_27 : decode cX8_whyNotDrawn 27 = .ok (.goto 20, 3) := by decide +kernel
theorem dX8_whyNotDrawn_30 : decode cX8_whyNotDrawn 30 = .ok (.aload_n 0, 1) := by decide +kernel
theorem dX8_whyNotDrawn_31 : decode cX8_whyNotDrawn 31 = .ok (.getfield 7, 3) := by decide +kernel
theorem dX8_whyNotDrawn_34 : decode cX8_whyNotDrawn 34 = .ok (.iconst 1, 1) := by decide +kernel
theorem dX8_whyNotDrawn_35 : decode cX8_whyNotDrawn 35 = .ok (.iaload, 1) := by decide +kernel
theorem dX8_whyNotDrawn_36 : decode cX8_whyNotDrawn 36 = .ok (.iconst 4, 1) := by decide +kernel
theorem dX8_whyNotDrawn_37 : decode cX8_whyNotDrawn 37 = .ok (.if_icmp .ne 9, 3) := by decide +kernel
theorem dX8_whyNotDrawn_40 : decode cX8_whyNotDrawn 40 = .ok (.sipush (-1004), 3) := by decide +kernel
theorem dX8_whyNotDrawn_43 : decode cX8_whyNotDrawn 43 = .ok (.goto 4, 3) := by decide +kernel
theorem dX8_whyNotDrawn_46 : decode cX8_whyNotDrawn 46 = .ok (.iconst 0, 1) := by decide +kernel
theorem dX8_whyNotDrawn_47 : decode cX8_whyNotDrawn 47 = .ok (.ireturn, 1) := by decide +kernel
theorem dX8_draws_0 : decode cX8_draws 0 = .ok (.bipush 68, 2) := by decide +kernel
theorem dX8_draws_2 : decode cX8_draws 2 = .ok (.iconst 3, 1) := by decide +kernel
theorem dX8_draws_3 : decode cX8_draws 3 = .ok (.aload_n 0, 1) := by decide +kernel
theorem dX8_draws_4 : decode cX8_draws 4 = .ok (.getfield 7, 3) := by decide +kernel
theorem dX8_draws_7 : decode cX8_draws 7 = .ok (.iconst 1, 1) := by decide +kernel
theorem dX8_draws_8 : decode cX8_draws 8 = .ok (.iaload, 1) := by decide +kernel
theorem dX8_draws_9 : decode cX8_draws 9 = .ok (.imul, 1) := by decide +kernel
theorem dX8_draws_10 : decode cX8_draws 10 = .ok (.iadd, 1) := by decide +kernel
theorem dX8_draws_11 : decode cX8_draws 11 = .ok (.istore 4, 2) := by decide +kernel
theorem dX8_draws_13 : decode cX8_draws 13 = .ok (.aload_n 0, 1) := by decide +kernel
theorem dX8_draws_14 : decode cX8_draws 14 = .ok (.getfield 7, 3) := by decide +kernel
theorem dX8_draws_17 : decode cX8_draws 17 = .ok (.iload 4, 2) := by decide +kernel
theorem dX8_draws_19 : decode cX8_draws 19 = .ok (.iconst 0, 1) := by decide +kernel
theorem dX8_draws_20 : decode cX8_draws 20 = .ok (.iadd, 1) := by decide +kernel
theorem dX8_draws_21 : decode cX8_draws 21 = .ok (.iload_n 1, 1) := by decide +kernel
theorem dX8_draws_22 : decode cX8_draws 22 = .ok (.iastore, 1) := by decide +kernel
theorem dX8_draws_23 : decode cX8_draws 23 = .ok (.aload_n 0, 1) := by decide +kernel
theorem dX8_draws_24 : decode cX8_draws 24 = .ok (.getfield 7, 3) := by decide +kernel
theorem dX8_draws_27 : decode cX8_draws 27 = .ok (.iload 4, 2) := by decide +kernel
theorem dX8_draws_29 : decode cX8_draws 29 = .ok (.iconst 1, 1) := by decide +kernel
theorem dX8_draws_30 : decode cX8_draws 30 = .ok (.iadd, 1) := by decide +kernel
theorem dX8_draws_31 : decode cX8_draws 31 = .ok (.iload_n 2, 1) := by decide +kernel
theorem dX8_draws_32 : decode cX8_draws 32 = .ok (.iastore, 1) := by decide +kernel
theorem dX8_draws_33 : decode cX8_draws 33 = .ok (.aload_n 0, 1) := by decide +kernel
theorem dX8_draws_34 : decode cX8_draws 34 = .ok (.getfield 7, 3) := by decide +kernel
theorem dX8_draws_37 : decode cX8_draws 37 = .ok (.iload 4, 2) := by decide +kernel
theorem dX8_draws_39 : decode cX8_draws 39 = .ok (.iconst 2, 1) := by decide +kernel
theorem dX8_draws_40 : decode cX8_draws 40 = .ok (.iadd, 1) := by decide +kernel
theorem dX8_draws_41 : decode cX8_draws 41 = .ok (.iload_n 3, 1) := by decide +kernel
theorem dX8_draws_42 : decode cX8_draws 42 = .ok (.iastore, 1) := by decide +kernel
theorem dX8_draws_43 : decode cX8_draws 43 = .ok (.aload_n 0, 1) := by decide +kernel
theorem dX8_draws_44 : decode cX8_draws 44 = .ok (.getfield 7, 3) := by decide +kernel
theorem dX8_draws_47 : decode cX8_draws 47 = .ok (.iconst 1, 1) := by decide +kernel
theorem dX8_draws_48 : decode cX8_draws 48 = .ok (.dup2, 1) := by decide +kernel
theorem dX8_draws_49 : decode cX8_draws 49 = .ok (.iaload, 1) := by decide +kernel
theorem dX8_draws_50 : decode cX8_draws 50 = .ok (.iconst 1, 1) := by decide +kernel
theorem dX8_draws_51 : decode cX8_draws 51 = .ok (.iadd, 1) := by decide +kernel
theorem dX8_draws_52 : decode cX8_draws 52 = .ok (.iastore, 1) := by decide +kernel
theorem dX8_draws_53 : decode cX8_draws 53 = .ok (.aload_n 0, 1) := by decide +kernel
theorem dX8_draws_54 : decode cX8_draws 54 = .ok (.getfield 7, 3) := by decide +kernel
theorem dX8_draws_57 : decode cX8_draws 57 = .ok (.iconst 1, 1) := by decide +kernel
theorem dX8_draws_58 : decode cX8_draws 58 = .ok (.iaload, 1) := by decide +kernel
theorem dX8_draws_59 : decode cX8_draws 59 = .ok (.iconst 1, 1) := by decide +kernel
theorem dX8_draws_60 : decode cX8_draws 60 = .ok (.isub, 1) := by decide +kernel
theorem dX8_draws_61 : decode cX8_draws 61 = .ok (.ireturn, 1) := by decide +kernel
theorem dX8_drawRing_0 : decode cX8_drawRing 0 = .ok (.aload_n 0, 1) := by decide +kernel
theorem dX8_drawRing_1 : decode cX8_drawRing 1 = .ok (.iload_n 1, 1) := by decide +kernel
theorem dX8_drawRing_2 : decode cX8_drawRing 2 = .ok (.iload_n 2, 1) := by decide +kernel
theorem dX8_drawRing_3 : decode cX8_drawRing 3 = .ok (.iload_n 3, 1) := by decide +kernel
theorem dX8_drawRing_4 : decode cX8_drawRing 4 = .ok (.invokevirtual 122, 3) := by decide +kernel
theorem dX8_drawRing_7 : decode cX8_drawRing 7 = .ok (.istore 4, 2) := by decide +kernel
theorem dX8_drawRing_9 : decode cX8_drawRing 9 = .ok (.iload 4, 2) := by decide +kernel
theorem dX8_drawRing_11 : decode cX8_drawRing 11 = .ok (.ifCond .ge 6, 3) := by decide +kernel
theorem dX8_drawRing_14 : decode cX8_drawRing 14 = .ok (.iload 4, 2) := by decide +kernel
theorem dX8_drawRing_16 : decode cX8_drawRing 16 = .ok (.ireturn, 1) := by decide +kernel
theorem dX8_drawRing_17 : decode cX8_drawRing 17 = .ok (.aload_n 0, 1) := by decide +kernel
theorem dX8_drawRing_18 : decode cX8_drawRing 18 = .ok (.invokevirtual 102, 3) := by decide +kernel
theorem dX8_drawRing_21 : decode cX8_drawRing 21 = .ok (.aload_n 0, 1) := by decide +kernel
theorem dX8_drawRing_22 : decode cX8_drawRing 22 = .ok (.iload_n 1, 1) := by decide +kernel
theorem dX8_drawRing_23 : decode cX8_drawRing 23 = .ok (.iload_n 2, 1) := by decide +kernel
theorem dX8_drawRing_24 : decode cX8_drawRing 24 = .ok (.iload_n 3, 1) := by decide +kernel
theorem dX8_drawRing_25 : decode cX8_drawRing 25 = .ok (.invokevirtual 126, 3) := by decide +kernel
theorem dX8_drawRing_28 : decode cX8_drawRing 28 = .ok (.ireturn, 1) := by decide +kernel
theorem dX8_move_0 : decode cX8_move 0 = .ok (.aload_n 0, 1) := by decide +kernel
theorem dX8_move_1 : decode cX8_move 1 = .ok (.iload_n 1, 1) := by decide +kernel
theorem dX8_move_2 : decode cX8_move 2 = .ok (.invokevirtual 95, 3) := by decide +kernel
theorem dX8_move_5 : decode cX8_move 5 = .ok (.ifCond .eq 11, 3) := by decide +kernel
theorem dX8_move_8 : decode cX8_move 8 = .ok (.iload_n 2, 1) := by decide +kernel
theorem dX8_move_9 : decode cX8_move 9 = .ok (.iload_n 3, 1) := by decide +kernel
theorem dX8_move_10 : decode cX8_move 10 = .ok (.invokestatic 112, 3) := by decide +kernel
theorem dX8_move_13 : decode cX8_move 13 = .ok (.ifCond .ne 7, 3) := by decide +kernel
theorem dX8_move_16 : decode cX8_move 16 = .ok (.sipush (-1001), 3) := by decide +kernel
theorem dX8_move_19 : decode cX8_move 19 = .ok (.ireturn, 1) := by decide +kernel
theorem dX8_move_20 : decode cX8_move 20 = .ok (.aload_n 0, 1) := by decide +kernel
theorem dX8_move_21 : decode cX8_move 21 = .ok (.iload_n 1, 1) := by decide +kernel
theorem dX8_move_22 : decode cX8_move 22 = .ok (.invokevirtual 56, 3) := by decide +kernel
theorem dX8_move_25 : decode cX8_move 25 = .ok (.ifCond .eq 15, 3) := by decide +kernel
theorem dX8_move_28 : decode cX8_move 28 = .ok (.aload_n 0, 1) := by decide +kernel
theorem dX8_move_29 : decode cX8_move 29 = .ok (.iload_n 2, 1) := by decide +kernel
theorem dX8_move_30 : decode cX8_move 30 = .ok (.iload_n 3, 1) := by decide +kernel
theorem dX8_move_31 : decode cX8_move 31 = .ok (.invokevirtual 63, 3) := by decide +kernel
theorem dX8_move_34 : decode cX8_move 34 = .ok (.sipush (-1006), 3) := by decide +kernel
theorem dX8_move_37 : decode cX8_move 37 = .ok (.if_icmp .eq 7, 3) := by decide +kernel
theorem dX8_move_40 : decode cX8_move 40 = .ok (.sipush (-1003), 3) := by decide +kernel
theorem dX8_move_43 : decode cX8_move 43 = .ok (.ireturn, 1) := by decide +kernel
theorem dX8_move_44 : decode cX8_move 44 = .ok (.aload_n 0, 1) := by decide +kernel
theorem dX8_move_45 : decode cX8_move 45 = .ok (.invokevirtual 102, 3) := by decide +kernel
theorem dX8_move_48 : decode cX8_move 48 = .ok (.aload_n 0, 1) := by decide +kernel
theorem dX8_move_49 : decode cX8_move 49 = .ok (.iload_n 1, 1) := by decide +kernel
theorem dX8_move_50 : decode cX8_move 50 = .ok (.iconst 0, 1) := by decide +kernel
theorem dX8_move_51 : decode cX8_move 51 = .ok (.iload_n 2, 1) := by decide +kernel
theorem dX8_move_52 : decode cX8_move 52 = .ok (.invokevirtual 73, 3) := by decide +kernel
theorem dX8_move_55 : decode cX8_move 55 = .ok (.aload_n 0, 1) := by decide +kernel
theorem dX8_move_56 : decode cX8_move 56 = .ok (.iload_n 1, 1) := by decide +kernel
theorem dX8_move_57 : decode cX8_move 57 = .ok (.iconst 1, 1) := by decide +kernel
theorem dX8_move_58 : decode cX8_move 58 = .ok (.iload_n 3, 1) := by decide +kernel
theorem dX8_move_59 : decode cX8_move 59 = .ok (.invokevirtual 73, 3) := by decide +kernel
theorem dX8_move_62 : decode cX8_move 62 = .ok (.aload_n 0, 1) := by decide +kernel
theorem dX8_move_63 : decode cX8_move 63 = .ok (.iload_n 2, 1) := by decide +kernel
theorem dX8_move_64 : decode cX8_move 64 = .ok (.iload_n 3, 1) := by decide +kernel
theorem dX8_move_65 : decode cX8_move 65 = .ok (.invokevirtual 53, 3) := by decide +kernel
theorem dX8_move_68 : decode cX8_move 68 = .ok (.invokestatic 70, 3) := by decide +kernel
theorem dX8_move_71 : decode cX8_move 71 = .ok (.ireturn, 1) := by decide +kernel
theorem dX8_clear_0 : decode cX8_clear 0 = .ok (.aload_n 0, 1) := by decide +kernel
theorem dX8_clear_1 : decode cX8_clear 1 = .ok (.invokevirtual 102, 3) := by decide +kernel
theorem dX8_clear_4 : decode cX8_clear 4 = .ok (.aload_n 0, 1) := by decide +kernel
theorem dX8_clear_5 : decode cX8_clear 5 = .ok (.getfield 7, 3) := by decide +kernel
theorem dX8_clear_8 : decode cX8_clear 8 = .ok (.iconst 0, 1) := by decide +kernel
theorem dX8_clear_9 : decode cX8_clear 9 = .ok (.iaload, 1) := by decide +kernel
theorem dX8_clear_10 : decode cX8_clear 10 = .ok (.istore_n 1, 1) := by decide +kernel
theorem dX8_clear_11 : decode cX8_clear 11 = .ok (.iconst 0, 1) := by decide +kernel
theorem dX8_clear_12 : decode cX8_clear 12 = .ok (.istore_n 2, 1) := by decide +kernel
theorem dX8_clear_13 : decode cX8_clear 13 = .ok (.iload_n 2, 1) := by decide +kernel
theorem dX8_clear_14 : decode cX8_clear 14 = .ok (.bipush 80, 2) := by decide +kernel
theorem dX8_clear_16 : decode cX8_clear 16 = .ok (.if_icmp .ge 16, 3) := by decide +kernel
theorem dX8_clear_19 : decode cX8_clear 19 = .ok (.aload_n 0, 1) := by decide +kernel
theorem dX8_clear_20 : decode cX8_clear 20 = .ok (.getfield 7, 3) := by decide +kernel
theorem dX8_clear_23 : decode cX8_clear 23 = .ok (.iload_n 2, 1) := by decide +kernel
theorem dX8_clear_24 : decode cX8_clear 24 = .ok (.iconst 0, 1) := by decide +kernel
theorem dX8_clear_25 : decode cX8_clear 25 = .ok (.iastore, 1) := by decide +kernel
theorem dX8_clear_26 : decode cX8_clear 26 = .ok (.iinc 2 1, 3) := by decide +kernel
theorem dX8_clear_29 : decode cX8_clear 29 = .ok (.goto (-16), 3) := by decide +kernel
theorem dX8_clear_32 : decode cX8_clear 32 = .ok (.iload_n 1, 1) := by decide +kernel
theorem dX8_clear_33 : decode cX8_clear 33 = .ok (.ireturn, 1) := by decide +kernel
theorem dX8_count_0 : decode cX8_count 0 = .ok (.iload_n 1, 1) := by decide +kernel
theorem dX8_count_1 : decode cX8_count 1 = .ok (.iconst 0, 1) := by decide +kernel
theorem dX8_count_2 : decode cX8_count 2 = .ok (.bipush 7, 2) := by decide +kernel
theorem dX8_count_4 : decode cX8_count 4 = .ok (.invokestatic 39, 3) := by decide +kernel
theorem dX8_count_7 : decode cX8_count 7 = .ok (.ifCond .eq 12, 3) := by decide +kernel
theorem dX8_count_10 : decode cX8_count 10 = .ok (.aload_n 0, 1) := by decide +kernel
theorem dX8_count_11 : decode cX8_count 11 = .ok (.getfield 7, 3) := by decide +kernel
theorem dX8_count_14 : decode cX8_count 14 = .ok (.iload_n 1, 1) := by decide +kernel
theorem dX8_count_15 : decode cX8_count 15 = .ok (.iaload, 1) := by decide +kernel
theorem dX8_count_16 : decode cX8_count 16 = .ok (.goto 6, 3) := by decide +kernel
theorem dX8_count_19 : decode cX8_count 19 = .ok (.sipush (-1002), 3) := by decide +kernel
theorem dX8_count_22 : decode cX8_count 22 = .ok (.ireturn, 1) := by decide +kernel
theorem dX8_ofMarble_0 : decode cX8_ofMarble 0 = .ok (.iload_n 2, 1) := by decide +kernel
theorem dX8_ofMarble_1 : decode cX8_ofMarble 1 = .ok (.lookupswitch 76 #[(0, 35), (1, 35), (5, 56)], 35) := by decide +kernel
theorem dX8_ofMarble_36 : decode cX8_ofMarble 36 = .ok (.aload_n 0, 1) := by decide +kernel
theorem dX8_ofMarble_37 : decode cX8_ofMarble 37 = .ok (.iload_n 1, 1) := by decide +kernel
theorem dX8_ofMarble_38 : decode cX8_ofMarble 38 = .ok (.invokevirtual 56, 3) := by decide +kernel
theorem dX8_ofMarble_41 : decode cX8_ofMarble 41 = .ok (.ifCond .eq 12, 3) := by decide +kernel
theorem dX8_ofMarble_44 : decode cX8_ofMarble 44 = .ok (.aload_n 0, 1) := by decide +kernel
theorem dX8_ofMarble_45 : decode cX8_ofMarble 45 = .ok (.iload_n 1, 1) := by decide +kernel
theorem dX8_ofMarble_46 : decode cX8_ofMarble 46 = .ok (.iload_n 2, 1) := by decide +kernel
theorem dX8_ofMarble_47 : decode cX8_ofMarble 47 = .ok (.invokevirtual 43, 3) := by decide +kernel
theorem dX8_ofMarble_50 : decode cX8_ofMarble 50 = .ok (.goto 6, 3) := by decide +kernel
theorem dX8_ofMarble_53 : decode cX8_ofMarble 53 = .ok (.sipush (-1006), 3) := by decide +kernel
theorem dX8_ofMarble_56 : decode cX8_ofMarble 56 = .ok (.ireturn, 1) := by decide +kernel
theorem dX8_ofMarble_57 : decode cX8_ofMarble 57 = .ok (.aload_n 0, 1) := by decide +kernel
theorem dX8_ofMarble_58 : decode cX8_ofMarble 58 = .ok (.iload_n 1, 1) := by decide +kernel
theorem dX8_ofMarble_59 : decode cX8_ofMarble 59 = .ok (.invokevirtual 56, 3) := by decide +kernel
theorem dX8_ofMarble_62 : decode cX8_ofMarble 62 = .ok (.ifCond .eq 11, 3) := by decide +kernel
theorem dX8_ofMarble_65 : decode cX8_ofMarble 65 = .ok (.aload_n 0, 1) := by decide +kernel
theorem dX8_ofMarble_66 : decode cX8_ofMarble 66 = .ok (.iload_n 1, 1) := by decide +kernel
theorem dX8_ofMarble_67 : decode cX8_ofMarble 67 = .ok (.invokevirtual 66, 3) := by decide +kernel
theorem dX8_ofMarble_70 : decode cX8_ofMarble 70 = .ok (.goto 6, 3) := by decide +kernel
theorem dX8_ofMarble_73 : decode cX8_ofMarble 73 = .ok (.sipush (-1006), 3) := by decide +kernel
theorem dX8_ofMarble_76 : decode cX8_ofMarble 76 = .ok (.ireturn, 1) := by decide +kernel
theorem dX8_ofMarble_77 : decode cX8_ofMarble 77 = .ok (.aload_n 0, 1) := by decide +kernel
theorem dX8_ofMarble_78 : decode cX8_ofMarble 78 = .ok (.iload_n 1, 1) := by decide +kernel
theorem dX8_ofMarble_79 : decode cX8_ofMarble 79 = .ok (.iload_n 2, 1) := by decide +kernel
theorem dX8_ofMarble_80 : decode cX8_ofMarble 80 = .ok (.invokevirtual 43, 3) := by decide +kernel
theorem dX8_ofMarble_83 : decode cX8_ofMarble 83 = .ok (.ireturn, 1) := by decide +kernel
theorem dX8_marble_0 : decode cX8_marble 0 = .ok (.aload_n 0, 1) := by decide +kernel
theorem dX8_marble_1 : decode cX8_marble 1 = .ok (.iload_n 1, 1) := by decide +kernel
theorem dX8_marble_2 : decode cX8_marble 2 = .ok (.invokevirtual 95, 3) := by decide +kernel
theorem dX8_marble_5 : decode cX8_marble 5 = .ok (.ifCond .ne 7, 3) := by decide +kernel
theorem dX8_marble_8 : decode cX8_marble 8 = .ok (.sipush (-1001), 3) := by decide +kernel
theorem dX8_marble_11 : decode cX8_marble 11 = .ok (.ireturn, 1) := by decide +kernel
theorem dX8_marble_12 : decode cX8_marble 12 = .ok (.iload_n 2, 1) := by decide +kernel
theorem dX8_marble_13 : decode cX8_marble 13 = .ok (.iconst 0, 1) := by decide +kernel
theorem dX8_marble_14 : decode cX8_marble 14 = .ok (.iconst 5, 1) := by decide +kernel
theorem dX8_marble_15 : decode cX8_marble 15 = .ok (.invokestatic 39, 3) := by decide +kernel
theorem dX8_marble_18 : decode cX8_marble 18 = .ok (.ifCond .eq 12, 3) := by decide +kernel
theorem dX8_marble_21 : decode cX8_marble 21 = .ok (.aload_n 0, 1) := by decide +kernel
theorem dX8_marble_22 : decode cX8_marble 22 = .ok (.iload_n 1, 1) := by decide +kernel
theorem dX8_marble_23 : decode cX8_marble 23 = .ok (.iload_n 2, 1) := by decide +kernel
theorem dX8_marble_24 : decode cX8_marble 24 = .ok (.invokevirtual 129, 3) := by decide +kernel
theorem dX8_marble_27 : decode cX8_marble 27 = .ok (.goto 6, 3) := by decide +kernel
theorem dX8_marble_30 : decode cX8_marble 30 = .ok (.sipush (-1002), 3) := by decide +kernel
theorem dX8_marble_33 : decode cX8_marble 33 = .ok (.ireturn, 1) := by decide +kernel
theorem dX8_marblesIn_0 : decode cX8_marblesIn 0 = .ok (.iconst 0, 1) := by decide +kernel
theorem dX8_marblesIn_1 : decode cX8_marblesIn 1 = .ok (.istore_n 2, 1) := by decide +kernel
theorem dX8_marblesIn_2 : decode cX8_marblesIn 2 = .ok (.iconst 0, 1) := by decide +kernel
theorem dX8_marblesIn_3 : decode cX8_marblesIn 3 = .ok (.istore_n 3, 1) := by decide +kernel
theorem dX8_marblesIn_4 : decode cX8_marblesIn 4 = .ok (.iload_n 3, 1) := by decide +kernel
theorem dX8_marblesIn_5 : decode cX8_marblesIn 5 = .ok (.aload_n 0, 1) := by decide +kernel
theorem dX8_marblesIn_6 : decode cX8_marblesIn 6 = .ok (.getfield 7, 3) := by decide +kernel
theorem dX8_marblesIn_9 : decode cX8_marblesIn 9 = .ok (.iconst 0, 1) := by decide +kernel
theorem dX8_marblesIn_10 : decode cX8_marblesIn 10 = .ok (.iaload, 1) := by decide +kernel
theorem dX8_marblesIn_11 : decode cX8_marblesIn 11 = .ok (.if_icmp .ge 47, 3) := by decide +kernel
theorem dX8_marblesIn_14 : decode cX8_marblesIn 14 = .ok (.iload_n 2, 1) := by decide +kernel
theorem dX8_marblesIn_15 : decode cX8_marblesIn 15 = .ok (.aload_n 0, 1) := by decide +kernel
theorem dX8_marblesIn_16 : decode cX8_marblesIn 16 = .ok (.iload_n 3, 1) := by decide +kernel
theorem dX8_marblesIn_17 : decode cX8_marblesIn 17 = .ok (.invokevirtual 56, 3) := by decide +kernel
theorem dX8_marblesIn_20 : decode cX8_marblesIn 20 = .ok (.ifCond .eq 29, 3) := by decide +kernel
theorem dX8_marblesIn_23 : decode cX8_marblesIn 23 = .ok (.aload_n 0, 1) := by decide +kernel
theorem dX8_marblesIn_24 : decode cX8_marblesIn 24 = .ok (.iload_n 1, 1) := by decide +kernel
theorem dX8_marblesIn_25 : decode cX8_marblesIn 25 = .ok (.aload_n 0, 1) := by decide +kernel
theorem dX8_marblesIn_26 : decode cX8_marblesIn 26 = .ok (.iload_n 3, 1) := by decide +kernel
theorem dX8_marblesIn_27 : decode cX8_marblesIn 27 = .ok (.iconst 0, 1) := by decide +kernel
theorem dX8_marblesIn_28 : decode cX8_marblesIn 28 = .ok (.invokevirtual 43, 3) := by decide +kernel
theorem dX8_marblesIn_31 : decode cX8_marblesIn 31 = .ok (.aload_n 0, 1) := by decide +kernel
theorem dX8_marblesIn_32 : decode cX8_marblesIn 32 = .ok (.iload_n 3, 1) := by decide +kernel
theorem dX8_marblesIn_33 : decode cX8_marblesIn 33 = .ok (.iconst 1, 1) := by decide +kernel
theorem dX8_marblesIn_34 : decode cX8_marblesIn 34 = .ok (.invokevirtual 43, 3) := by decide +kernel
theorem dX8_marblesIn_37 : decode cX8_marblesIn 37 = .ok (.invokevirtual 50, 3) := by decide +kernel
theorem dX8_marblesIn_40 : decode cX8_marblesIn 40 = .ok (.ifCond .eq 9, 3) := by decide +kernel
theorem dX8_marblesIn_43 : decode cX8_marblesIn 43 = .ok (.iconst 1, 1) := by decide +kernel
theorem dX8_marblesIn_44 : decode cX8_marblesIn 44 = .ok (.iload_n 3, 1) := by decide +kernel
theorem dX8_marblesIn_45 : decode cX8_marblesIn 45 = .ok (.ishl, 1) := by decide +kernel
theorem dX8_marblesIn_46 : decode cX8_marblesIn 46 = .ok (.goto 4, 3) := by decide +kernel
theorem dX8_marblesIn_49 : decode cX8_marblesIn 49 = .ok (.iconst 0, 1) := by decide +kernel
theorem dX8_marblesIn_50 : decode cX8_marblesIn 50 = .ok (.ior, 1) := by decide +kernel
theorem dX8_marblesIn_51 : decode cX8_marblesIn 51 = .ok (.istore_n 2, 1) := by decide +kernel
theorem dX8_marblesIn_52 : decode cX8_marblesIn 52 = .ok (.iinc 3 1, 3) := by decide +kernel
theorem dX8_marblesIn_55 : decode cX8_marblesIn 55 = .ok (.goto (-51), 3) := by decide +kernel
theorem dX8_marblesIn_58 : decode cX8_marblesIn 58 = .ok (.iload_n 2, 1) := by decide +kernel
theorem dX8_marblesIn_59 : decode cX8_marblesIn 59 = .ok (.ireturn, 1) := by decide +kernel
theorem dX8_pointsIn_0 : decode cX8_pointsIn 0 = .ok (.iconst 0, 1) := by decide +kernel
theorem dX8_pointsIn_1 : decode cX8_pointsIn 1 = .ok (.istore_n 2, 1) := by decide +kernel
theorem dX8_pointsIn_2 : decode cX8_pointsIn 2 = .ok (.iconst 0, 1) := by decide +kernel
theorem dX8_pointsIn_3 : decode cX8_pointsIn 3 = .ok (.istore_n 3, 1) := by decide +kernel
theorem dX8_pointsIn_4 : decode cX8_pointsIn 4 = .ok (.iload_n 3, 1) := by decide +kernel
theorem dX8_pointsIn_5 : decode cX8_pointsIn 5 = .ok (.bipush 30, 2) := by decide +kernel
theorem dX8_pointsIn_7 : decode cX8_pointsIn 7 = .ok (.if_icmp .gt 44, 3) := by decide +kernel
theorem dX8_pointsIn_10 : decode cX8_pointsIn 10 = .ok (.iconst 0, 1) := by decide +kernel
theorem dX8_pointsIn_11 : decode cX8_pointsIn 11 = .ok (.istore 4, 2) := by decide +kernel
theorem dX8_pointsIn_13 : decode cX8_pointsIn 13 = .ok (.iload 4, 2) := by decide +kernel
theorem dX8_pointsIn_15 : decode cX8_pointsIn 15 = .ok (.bipush 30, 2) := by decide +kernel
theorem dX8_pointsIn_17 : decode cX8_pointsIn 17 = .ok (.if_icmp .gt 28, 3) := by decide +kernel
theorem dX8_pointsIn_20 : decode cX8_pointsIn 20 = .ok (.iload_n 2, 1) := by decide +kernel
theorem dX8_pointsIn_21 : decode cX8_pointsIn 21 = .ok (.aload_n 0, 1) := by decide +kernel
theorem dX8_pointsIn_22 : decode cX8_pointsIn 22 = .ok (.iload_n 1, 1) := by decide +kernel
theorem dX8_pointsIn_23 : decode cX8_pointsIn 23 = .ok (.iload_n 3, 1) := by decide +kernel
theorem dX8_pointsIn_24 : decode cX8_pointsIn 24 = .ok (.iload 4, 2) := by decide +kernel
theorem dX8_pointsIn_26 : decode cX8_pointsIn 26 = .ok (.invokevirtual 50, 3) := by decide +kernel
theorem dX8_pointsIn_29 : decode cX8_pointsIn 29 = .ok (.ifCond .eq 7, 3) := by decide +kernel
theorem dX8_pointsIn_32 : decode cX8_pointsIn 32 = .ok (.iconst 1, 1) := by decide +kernel
theorem dX8_pointsIn_33 : decode cX8_pointsIn 33 = .ok (.goto 4, 3) := by decide +kernel
theorem dX8_pointsIn_36 : decode cX8_pointsIn 36 = .ok (.iconst 0, 1) := by decide +kernel
theorem dX8_pointsIn_37 : decode cX8_pointsIn 37 = .ok (.iadd, 1) := by decide +kernel
theorem dX8_pointsIn_38 : decode cX8_pointsIn 38 = .ok (.istore_n 2, 1) := by decide +kernel
theorem dX8_pointsIn_39 : decode cX8_pointsIn 39 = .ok (.iinc 4 1, 3) := by decide +kernel
theorem dX8_pointsIn_42 : decode cX8_pointsIn 42 = .ok (.goto (-29), 3) := by decide +kernel
theorem dX8_pointsIn_45 : decode cX8_pointsIn 45 = .ok (.iinc 3 1, 3) := by decide +kernel
theorem dX8_pointsIn_48 : decode cX8_pointsIn 48 = .ok (.goto (-44), 3) := by decide +kernel
theorem dX8_pointsIn_51 : decode cX8_pointsIn 51 = .ok (.iload_n 2, 1) := by decide +kernel
theorem dX8_pointsIn_52 : decode cX8_pointsIn 52 = .ok (.ireturn, 1) := by decide +kernel
theorem dX8_ofRing_0 : decode cX8_ofRing 0 = .ok (.iload_n 2, 1) := by decide +kernel
theorem dX8_ofRing_1 : decode cX8_ofRing 1 = .ok (.iconst 3, 1) := by decide +kernel
theorem dX8_ofRing_2 : decode cX8_ofRing 2 = .ok (.if_icmp .ge 12, 3) := by decide +kernel
theorem dX8_ofRing_5 : decode cX8_ofRing 5 = .ok (.aload_n 0, 1) := by decide +kernel
theorem dX8_ofRing_6 : decode cX8_ofRing 6 = .ok (.iload_n 1, 1) := by decide +kernel
theorem dX8_ofRing_7 : decode cX8_ofRing 7 = .ok (.iload_n 2, 1) := by decide +kernel
theorem dX8_ofRing_8 : decode cX8_ofRing 8 = .ok (.invokevirtual 47, 3) := by decide +kernel
theorem dX8_ofRing_11 : decode cX8_ofRing 11 = .ok (.goto 21, 3) := by decide +kernel
theorem dX8_ofRing_14 : decode cX8_ofRing 14 = .ok (.iload_n 2, 1) := by decide +kernel
theorem dX8_ofRing_15 : decode cX8_ofRing 15 = .ok (.iconst 3, 1) := by decide +kernel
theorem dX8_ofRing_16 : decode cX8_ofRing 16 = .ok (.if_icmp .ne 11, 3) := by decide +kernel
theorem dX8_ofRing_19 : decode cX8_ofRing 19 = .ok (.aload_n 0, 1) := by decide +kernel
theorem dX8_ofRing_20 : decode cX8_ofRing 20 = .ok (.iload_n 1, 1) := by decide +kernel
theorem dX8_ofRing_21 : decode cX8_ofRing 21 = .ok (.invokevirtual 132, 3) := by decide +kernel
theorem dX8_ofRing_24 : decode cX8_ofRing 24 = .ok (.goto 8, 3) := by decide +kernel
theorem dX8_ofRing_27 : decode cX8_ofRing 27 = .ok (.aload_n 0, 1) := by decide +kernel
theorem dX8_ofRing_28 : decode cX8_ofRing 28 = .ok (.iload_n 1, 1) := by decide +kernel
theorem dX8_ofRing_29 : decode cX8_ofRing 29 = .ok (.invokevirtual 135, 3) := by decide +kernel
theorem dX8_ofRing_32 : decode cX8_ofRing 32 = .ok (.ireturn, 1) := by decide +kernel
theorem dX8_ring_0 : decode cX8_ring 0 = .ok (.iload_n 1, 1) := by decide +kernel
theorem dX8_ring_1 : decode cX8_ring 1 = .ok (.iconst 0, 1) := by decide +kernel
theorem dX8_ring_2 : decode cX8_ring 2 = .ok (.aload_n 0, 1) := by decide +kernel
theorem dX8_ring_3 : decode cX8_ring 3 = .ok (.getfield 7, 3) := by decide +kernel
theorem dX8_ring_6 : decode cX8_ring 6 = .ok (.iconst 1, 1) := by decide +kernel
theorem dX8_ring_7 : decode cX8_ring 7 = .ok (.iaload, 1) := by decide +kernel
theorem dX8_ring_8 : decode cX8_ring 8 = .ok (.iconst 1, 1) := by decide +kernel
theorem dX8_ring_9 : decode cX8_ring 9 = .ok (.isub, 1) := by decide +kernel
theorem dX8_ring_10 : decode cX8_ring 10 = .ok (.invokestatic 39, 3) := by decide +kernel
theorem dX8_ring_13 : decode cX8_ring 13 = .ok (.ifCond .ne 7, 3) := by decide +kernel
theorem dX8_ring_16 : decode cX8_ring 16 = .ok (.sipush (-1001), 3) := by decide +kernel
theorem dX8_ring_19 : decode cX8_ring 19 = .ok (.ireturn, 1) := by decide +kernel
theorem dX8_ring_20 : decode cX8_ring 20 = .ok (.iload_n 2, 1) := by decide +kernel
theorem dX8_ring_21 : decode cX8_ring 21 = .ok (.iconst 0, 1) := by decide +kernel
theorem dX8_ring_22 : decode cX8_ring 22 = .ok (.iconst 4, 1) := by decide +kernel
theorem dX8_ring_23 : decode cX8_ring 23 = .ok (.invokestatic 39, 3) := by decide +kernel
theorem dX8_ring_26 : decode cX8_ring 26 = .ok (.ifCond .eq 12, 3) := by decide +kernel
theorem dX8_ring_29 : decode cX8_ring 29 = .ok (.aload_n 0, 1) := by decide +kernel
theorem dX8_ring_30 : decode cX8_ring 30 = .ok (.iload_n 1, 1) := by decide +kernel
theorem dX8_ring_31 : decode cX8_ring 31 = .ok (.iload_n 2, 1) := by decide +kernel
theorem dX8_ring_32 : decode cX8_ring 32 = .ok (.invokevirtual 138, 3) := by decide +kernel
theorem dX8_ring_35 : decode cX8_ring 35 = .ok (.goto 6, 3) := by decide +kernel
theorem dX8_ring_38 : decode cX8_ring 38 = .ok (.sipush (-1002), 3) := by decide +kernel
theorem dX8_ring_41 : decode cX8_ring 41 = .ok (.ireturn, 1) := by decide +kernel
theorem dX8_at_0 : decode cX8_at 0 = .ok (.iload_n 1, 1) := by decide +kernel
theorem dX8_at_1 : decode cX8_at 1 = .ok (.iload_n 2, 1) := by decide +kernel
theorem dX8_at_2 : decode cX8_at 2 = .ok (.invokestatic 112, 3) := by decide +kernel
theorem dX8_at_5 : decode cX8_at 5 = .ok (.ifCond .eq 12, 3) := by decide +kernel
theorem dX8_at_8 : decode cX8_at 8 = .ok (.aload_n 0, 1) := by decide +kernel
theorem dX8_at_9 : decode cX8_at 9 = .ok (.iload_n 1, 1) := by decide +kernel
theorem dX8_at_10 : decode cX8_at 10 = .ok (.iload_n 2, 1) := by decide +kernel
theorem dX8_at_11 : decode cX8_at 11 = .ok (.invokevirtual 63, 3) := by decide +kernel
theorem dX8_at_14 : decode cX8_at 14 = .ok (.goto 6, 3) := by decide +kernel
theorem dX8_at_17 : decode cX8_at 17 = .ok (.sipush (-1001), 3) := by decide +kernel
theorem dX8_at_20 : decode cX8_at 20 = .ok (.ireturn, 1) := by decide +kernel
theorem dX8_scoreOf_0 : decode cX8_scoreOf 0 = .ok (.iconst 0, 1) := by decide +kernel
theorem dX8_scoreOf_1 : decode cX8_scoreOf 1 = .ok (.istore_n 2, 1) := by decide +kernel
theorem dX8_scoreOf_2 : decode cX8_scoreOf 2 = .ok (.iconst 0, 1) := by decide +kernel
theorem dX8_scoreOf_3 : decode cX8_scoreOf 3 = .ok (.istore_n 3, 1) := by decide +kernel
theorem dX8_scoreOf_4 : decode cX8_scoreOf 4 = .ok (.iload_n 3, 1) := by decide +kernel
theorem dX8_scoreOf_5 : decode cX8_scoreOf 5 = .ok (.aload_n 0, 1) := by decide +kernel
theorem dX8_scoreOf_6 : decode cX8_scoreOf 6 = .ok (.getfield 7, 3) := by decide +kernel
theorem dX8_scoreOf_9 : decode cX8_scoreOf 9 = .ok (.iconst 0, 1) := by decide +kernel
theorem dX8_scoreOf_10 : decode cX8_scoreOf 10 = .ok (.iaload, 1) := by decide +kernel
theorem dX8_scoreOf_11 : decode cX8_scoreOf 11 = .ok (.if_icmp .ge 60, 3) := by decide +kernel
theorem dX8_scoreOf_14 : decode cX8_scoreOf 14 = .ok (.aload_n 0, 1) := by decide +kernel
theorem dX8_scoreOf_15 : decode cX8_scoreOf 15 = .ok (.iload_n 3, 1) := by decide +kernel
theorem dX8_scoreOf_16 : decode cX8_scoreOf 16 = .ok (.invokevirtual 56, 3) := by decide +kernel
theorem dX8_scoreOf_19 : decode cX8_scoreOf 19 = .ok (.ifCond .ne 46, 3) := by decide +kernel
theorem dX8_scoreOf_22 : decode cX8_scoreOf 22 = .ok (.iload_n 2, 1) := by decide +kernel
theorem dX8_scoreOf_23 : decode cX8_scoreOf 23 = .ok (.aload_n 0, 1) := by decide +kernel
theorem dX8_scoreOf_24 : decode cX8_scoreOf 24 = .ok (.iload_n 3, 1) := by decide +kernel
theorem dX8_scoreOf_25 : decode cX8_scoreOf 25 = .ok (.iconst 4, 1) := by decide +kernel
theorem dX8_scoreOf_26 : decode cX8_scoreOf 26 = .ok (.invokevirtual 43, 3) := by decide +kernel
theorem dX8_scoreOf_29 : decode cX8_scoreOf 29 = .ok (.iload_n 1, 1) := by decide +kernel
theorem dX8_scoreOf_30 : decode cX8_scoreOf 30 = .ok (.if_icmp .ne 12, 3) := by decide +kernel
theorem dX8_scoreOf_33 : decode cX8_scoreOf 33 = .ok (.aload_n 0, 1) := by decide +kernel
theorem dX8_scoreOf_34 : decode cX8_scoreOf 34 = .ok (.iload_n 3, 1) := by decide +kernel
theorem dX8_scoreOf_35 : decode cX8_scoreOf 35 = .ok (.iconst 2, 1) := by decide +kernel
theorem dX8_scoreOf_36 : decode cX8_scoreOf 36 = .ok (.invokevirtual 43, 3) := by decide +kernel
theorem dX8_scoreOf_39 : decode cX8_scoreOf 39 = .ok (.goto 24, 3) := by decide +kernel
theorem dX8_scoreOf_42 : decode cX8_scoreOf 42 = .ok (.aload_n 0, 1) := by decide +kernel
theorem dX8_scoreOf_43 : decode cX8_scoreOf 43 = .ok (.iload_n 3, 1) := by decide +kernel
theorem dX8_scoreOf_44 : decode cX8_scoreOf 44 = .ok (.iconst 3, 1) := by decide +kernel
theorem dX8_scoreOf_45 : decode cX8_scoreOf 45 = .ok (.invokevirtual 43, 3) := by decide +kernel
theorem dX8_scoreOf_48 : decode cX8_scoreOf 48 = .ok (.iload_n 1, 1) := by decide +kernel
theorem dX8_scoreOf_49 : decode cX8_scoreOf 49 = .ok (.if_icmp .ne 13, 3) := by decide +kernel
theorem dX8_scoreOf_52 : decode cX8_scoreOf 52 = .ok (.aload_n 0, 1) := by decide +kernel
theorem dX8_scoreOf_53 : decode cX8_scoreOf 53 = .ok (.iload_n 3, 1) := by decide +kernel
theorem dX8_scoreOf_54 : decode cX8_scoreOf 54 = .ok (.iconst 2, 1) := by decide +kernel
theorem dX8_scoreOf_55 : decode cX8_scoreOf 55 = .ok (.invokevirtual 43, 3) := by decide +kernel
theorem dX8_scoreOf_58 : decode cX8_scoreOf 58 = .ok (.ineg, 1) := by decide +kernel
theorem dX8_scoreOf_59 : decode cX8_scoreOf 59 = .ok (.goto 4, 3) := by decide +kernel
theorem dX8_scoreOf_62 : decode cX8_scoreOf 62 = .ok (.iconst 0, 1) := by decide +kernel
theorem dX8_scoreOf_63 : decode cX8_scoreOf 63 = .ok (.iadd, 1) := by decide +kernel
theorem dX8_scoreOf_64 : decode cX8_scoreOf 64 = .ok (.istore_n 2, 1) := by decide +kernel
theorem dX8_scoreOf_65 : decode cX8_scoreOf 65 = .ok (.iinc 3 1, 3) := by decide +kernel
theorem dX8_scoreOf_68 : decode cX8_scoreOf 68 = .ok (.goto (-64), 3) := by decide +kernel
theorem dX8_scoreOf_71 : decode cX8_scoreOf 71 = .ok (.iload_n 2, 1) := by decide +kernel
theorem dX8_scoreOf_72 : decode cX8_scoreOf 72 = .ok (.ireturn, 1) := by decide +kernel
theorem dX8_score_0 : decode cX8_score 0 = .ok (.iload_n 1, 1) := by decide +kernel
theorem dX8_score_1 : decode cX8_score 1 = .ok (.iconst 0, 1) := by decide +kernel
theorem dX8_score_2 : decode cX8_score 2 = .ok (.iconst 2, 1) := by decide +kernel
theorem dX8_score_3 : decode cX8_score 3 = .ok (.invokestatic 39, 3) := by decide +kernel
theorem dX8_score_6 : decode cX8_score 6 = .ok (.ifCond .eq 11, 3) := by decide +kernel
theorem dX8_score_9 : decode cX8_score 9 = .ok (.aload_n 0, 1) := by decide +kernel
theorem dX8_score_10 : decode cX8_score 10 = .ok (.iload_n 1, 1) := by decide +kernel
theorem dX8_score_11 : decode cX8_score 11 = .ok (.invokevirtual 141, 3) := by decide +kernel
theorem dX8_score_14 : decode cX8_score 14 = .ok (.goto 6, 3) := by decide +kernel
theorem dX8_score_17 : decode cX8_score 17 = .ok (.sipush (-1001), 3) := by decide +kernel
theorem dX8_score_20 : decode cX8_score 20 = .ok (.ireturn, 1) := by decide +kernel
theorem dX8_findLeader_0 : decode cX8_findLeader 0 = .ok (.iconst 0, 1) := by decide +kernel
theorem dX8_findLeader_1 : decode cX8_findLeader 1 = .ok (.istore_n 1, 1) := by decide +kernel
theorem dX8_findLeader_2 : decode cX8_findLeader 2 = .ok (.iconst 1, 1) := by decide +kernel
theorem dX8_findLeader_3 : decode cX8_findLeader 3 = .ok (.istore_n 2, 1) := by decide +kernel
theorem dX8_findLeader_4 : decode cX8_findLeader 4 = .ok (.iload_n 2, 1) := by decide +kernel
theorem dX8_findLeader_5 : decode cX8_findLeader 5 = .ok (.iconst 3, 1) := by decide +kernel
theorem dX8_findLeader_6 : decode cX8_findLeader 6 = .ok (.if_icmp .ge 28, 3) := by decide +kernel
theorem dX8_findLeader_9 : decode cX8_findLeader 9 = .ok (.aload_n 0, 1) := by decide +kernel
theorem dX8_findLeader_10 : decode cX8_findLeader 10 = .ok (.iload_n 2, 1) := by decide +kernel
theorem dX8_findLeader_11 : decode cX8_findLeader 11 = .ok (.invokevirtual 141, 3) := by decide +kernel
theorem dX8_findLeader_14 : decode cX8_findLeader 14 = .ok (.aload_n 0, 1) := by decide +kernel
theorem dX8_findLeader_15 : decode cX8_findLeader 15 = .ok (.iload_n 1, 1) := by decide +kernel
theorem dX8_findLeader_16 : decode cX8_findLeader 16 = .ok (.invokevirtual 141, 3) := by decide +kernel
theorem dX8_findLeader_19 : decode cX8_findLeader 19 = .ok (.if_icmp .le 7, 3) := by decide +kernel
theorem dX8_findLeader_22 : decode cX8_findLeader 22 = .ok (.iload_n 2, 1) := by decide +kernel
theorem dX8_findLeader_23 : decode cX8_findLeader 23 = .ok (.goto 4, 3) := by decide +kernel
theorem dX8_findLeader_26 : decode cX8_findLeader 26 = .ok (.iload_n 1, 1) := by decide +kernel
theorem dX8_findLeader_27 : decode cX8_findLeader 27 = .ok (.istore_n 1, 1) := by decide +kernel
theorem dX8_findLeader_28 : decode cX8_findLeader 28 = .ok (.iinc 2 1, 3) := by decide +kernel
theorem dX8_findLeader_31 : decode cX8_findLeader 31 = .ok (.goto (-27), 3) := by decide +kernel
theorem dX8_findLeader_34 : decode cX8_findLeader 34 = .ok (.iload_n 1, 1) := by decide +kernel
theorem dX8_findLeader_35 : decode cX8_findLeader 35 = .ok (.ireturn, 1) := by decide +kernel
theorem dX8_leader_0 : decode cX8_leader 0 = .ok (.aload_n 0, 1) := by decide +kernel
theorem dX8_leader_1 : decode cX8_leader 1 = .ok (.invokevirtual 144, 3) := by decide +kernel
theorem dX8_leader_4 : decode cX8_leader 4 = .ok (.ireturn, 1) := by decide +kernel
theorem dX8_ifFlicked_0 : decode cX8_ifFlicked 0 = .ok (.aload_n 0, 1) := by decide +kernel
theorem dX8_ifFlicked_1 : decode cX8_ifFlicked 1 = .ok (.iload_n 1, 1) := by decide +kernel
theorem dX8_ifFlicked_2 : decode cX8_ifFlicked 2 = .ok (.invokevirtual 95, 3) := by decide +kernel
theorem dX8_ifFlicked_5 : decode cX8_ifFlicked 5 = .ok (.ifCond .ne 7, 3) := by decide +kernel
theorem dX8_ifFlicked_8 : decode cX8_ifFlicked 8 = .ok (.sipush (-1001), 3) := by decide +kernel
theorem dX8_ifFlicked_11 : decode cX8_ifFlicked 11 = .ok (.ireturn, 1) := by decide +kernel
theorem dX8_ifFlicked_12 : decode cX8_ifFlicked 12 = .ok (.iload_n 2, 1) := by decide +kernel
theorem dX8_ifFlicked_13 : decode cX8_ifFlicked 13 = .ok (.iload_n 3, 1) := by decide +kernel
theorem dX8_ifFlicked_14 : decode cX8_ifFlicked 14 = .ok (.invokestatic 98, 3) := by decide +kernel
theorem dX8_ifFlicked_17 : decode cX8_ifFlicked 17 = .ok (.ifCond .eq 13, 3) := by decide +kernel
theorem dX8_ifFlicked_20 : decode cX8_ifFlicked 20 = .ok (.iload 4, 2) := by decide +kernel
theorem dX8_ifFlicked_22 : decode cX8_ifFlicked 22 = .ok (.iconst 0, 1) := by decide +kernel
theorem dX8_ifFlicked_23 : decode cX8_ifFlicked 23 = .ok (.iconst 4, 1) := by decide +kernel
theorem dX8_ifFlicked_24 : decode cX8_ifFlicked 24 = .ok (.invokestatic 39, 3) := by decide +kernel
theorem dX8_ifFlicked_27 : decode cX8_ifFlicked 27 = .ok (.ifCond .ne 7, 3) := by decide +kernel
theorem dX8_ifFlicked_30 : decode cX8_ifFlicked 30 = .ok (.sipush (-1002), 3) := by decide +kernel
theorem dX8_ifFlicked_33 : decode cX8_ifFlicked 33 = .ok (.ireturn, 1) := by decide +kernel
theorem dX8_ifFlicked_34 : decode cX8_ifFlicked 34 = .ok (.aload_n 0, 1) := by decide +kernel
theorem dX8_ifFlicked_35 : decode cX8_ifFlicked 35 = .ok (.iload_n 1, 1) := by decide +kernel
theorem dX8_ifFlicked_36 : decode cX8_ifFlicked 36 = .ok (.invokevirtual 56, 3) := by decide +kernel
theorem dX8_ifFlicked_39 : decode cX8_ifFlicked 39 = .ok (.ifCond .ne 7, 3) := by decide +kernel
theorem dX8_ifFlicked_42 : decode cX8_ifFlicked 42 = .ok (.sipush (-1003), 3) := by decide +kernel
theorem dX8_ifFlicked_45 : decode cX8_ifFlicked 45 = .ok (.ireturn, 1) := by decide +kernel
theorem dX8_ifFlicked_46 : decode cX8_ifFlicked 46 = .ok (.aload_n 0, 1) := by decide +kernel
theorem dX8_ifFlicked_47 : decode cX8_ifFlicked 47 = .ok (.getfield 7, 3) := by decide +kernel
theorem dX8_ifFlicked_50 : decode cX8_ifFlicked 50 = .ok (.iconst 0, 1) := by decide +kernel
theorem dX8_ifFlicked_51 : decode cX8_ifFlicked 51 = .ok (.aload_n 0, 1) := by decide +kernel
theorem dX8_ifFlicked_52 : decode cX8_ifFlicked 52 = .ok (.getfield 13, 3) := by decide +kernel
theorem dX8_ifFlicked_55 : decode cX8_ifFlicked 55 = .ok (.iconst 0, 1) := by decide +kernel
theorem dX8_ifFlicked_56 : decode cX8_ifFlicked 56 = .ok (.invokestatic 35, 3) := by decide +kernel
theorem dX8_ifFlicked_59 : decode cX8_ifFlicked 59 = .ok (.aload_n 0, 1) := by decide +kernel
theorem dX8_ifFlicked_60 : decode cX8_ifFlicked 60 = .ok (.aload_n 0, 1) := by decide +kernel
theorem dX8_ifFlicked_61 : decode cX8_ifFlicked 61 = .ok (.iload_n 1, 1) := by decide +kernel
theorem dX8_ifFlicked_62 : decode cX8_ifFlicked 62 = .ok (.iconst 3, 1) := by decide +kernel
theorem dX8_ifFlicked_63 : decode cX8_ifFlicked 63 = .ok (.invokevirtual 43, 3) := by decide +kernel
theorem dX8_ifFlicked_66 : decode cX8_ifFlicked 66 = .ok (.iload_n 1, 1) := by decide +kernel
theorem dX8_ifFlicked_67 : decode cX8_ifFlicked 67 = .ok (.iload_n 2, 1) := by decide +kernel
theorem dX8_ifFlicked_68 : decode cX8_ifFlicked 68 = .ok (.iload_n 3, 1) := by decide +kernel
theorem dX8_ifFlicked_69 : decode cX8_ifFlicked 69 = .ok (.invokevirtual 105, 3) := by decide +kernel
theorem dX8_ifFlicked_72 : decode cX8_ifFlicked 72 = .ok (.aload_n 0, 1) := by decide +kernel
theorem dX8_ifFlicked_73 : decode cX8_ifFlicked 73 = .ok (.getfield 7, 3) := by decide +kernel
theorem dX8_ifFlicked_76 : decode cX8_ifFlicked 76 = .ok (.iconst 4, 1) := by decide +kernel
theorem dX8_ifFlicked_77 : decode cX8_ifFlicked 77 = .ok (.iaload, 1) := by decide +kernel
theorem dX8_ifFlicked_78 : decode cX8_ifFlicked 78 = .ok (.aload_n 0, 1) := by decide +kernel
theorem dX8_ifFlicked_79 : decode cX8_ifFlicked 79 = .ok (.getfield 13, 3) := by decide +kernel
theorem dX8_ifFlicked_82 : decode cX8_ifFlicked 82 = .ok (.iconst 4, 1) := by decide +kernel
theorem dX8_ifFlicked_83 : decode cX8_ifFlicked 83 = .ok (.iaload, 1) := by decide +kernel
theorem dX8_ifFlicked_84 : decode cX8_ifFlicked 84 = .ok (.isub, 1) := by decide +kernel
theorem dX8_ifFlicked_85 : decode cX8_ifFlicked 85 = .ok (.istore 5, 2) := by decide +kernel
theorem dX8_ifFlicked_87 : decode cX8_ifFlicked 87 = .ok (.aload_n 0, 1) := by decide +kernel
theorem dX8_ifFlicked_88 : decode cX8_ifFlicked 88 = .ok (.getfield 13, 3) := by decide +kernel
theorem dX8_ifFlicked_91 : decode cX8_ifFlicked 91 = .ok (.iconst 0, 1) := by decide +kernel
theorem dX8_ifFlicked_92 : decode cX8_ifFlicked 92 = .ok (.aload_n 0, 1) := by decide +kernel
theorem dX8_ifFlicked_93 : decode cX8_ifFlicked 93 = .ok (.getfield 7, 3) := by decide +kernel
theorem dX8_ifFlicked_96 : decode cX8_ifFlicked 96 = .ok (.iconst 0, 1) := by decide +kernel
theorem dX8_ifFlicked_97 : decode cX8_ifFlicked 97 = .ok (.invokestatic 35, 3) := by decide +kernel
theorem dX8_ifFlicked_100 : decode cX8_ifFlicked 100 = .ok (.iload 4, 2) := by decide +kernel
theorem dX8_ifFlicked_102 : decode cX8_ifFlicked 102 = .ok (.ifCond .ne 10, 3) := by decide +kernel
theorem dX8_ifFlicked_105 : decode cX8_ifFlicked 105 = .ok (.aload_n 0, 1) := by decide +kernel
theorem dX8_ifFlicked_106 : decode cX8_ifFlicked 106 = .ok (.getfield 89, 3) := by decide +kernel
theorem dX8_ifFlicked_109 : decode cX8_ifFlicked 109 = .ok (.goto 52, 3) := by decide +kernel
theorem dX8_ifFlicked_112 : decode cX8_ifFlicked 112 = .ok (.iload 4, 2) := by decide +kernel
theorem dX8_ifFlicked_114 : decode cX8_ifFlicked 114 = .ok (.iconst 1, 1) := by decide +kernel
theorem dX8_ifFlicked_115 : decode cX8_ifFlicked 115 = .ok (.if_icmp .ne 10, 3) := by decide +kernel
theorem dX8_ifFlicked_118 : decode cX8_ifFlicked 118 = .ok (.aload_n 0, 1) := by decide +kernel
theorem dX8_ifFlicked_119 : decode cX8_ifFlicked 119 = .ok (.getfield 92, 3) := by decide +kernel
theorem dX8_ifFlicked_122 : decode cX8_ifFlicked 122 = .ok (.goto 39, 3) := by decide +kernel
theorem dX8_ifFlicked_125 : decode cX8_ifFlicked 125 = .ok (.iload 4, 2) := by decide +kernel
theorem dX8_ifFlicked_127 : decode cX8_ifFlicked 127 = .ok (.iconst 2, 1) := by decide +kernel
theorem dX8_ifFlicked_128 : decode cX8_ifFlicked 128 = .ok (.if_icmp .ne 8, 3) := by decide +kernel
theorem dX8_ifFlicked_131 : decode cX8_ifFlicked 131 = .ok (.iload 5, 2) := by decide +kernel
theorem dX8_ifFlicked_133 : decode cX8_ifFlicked 133 = .ok (.goto 28, 3) := by decide +kernel
theorem dX8_ifFlicked_136 : decode cX8_ifFlicked 136 = .ok (.iload 4, 2) := by decide +kernel
theorem dX8_ifFlicked_138 : decode cX8_ifFlicked 138 = .ok (.iconst 3, 1) := by decide +kernel
theorem dX8_ifFlicked_139 : decode cX8_ifFlicked 139 = .ok (.if_icmp .ne 10, 3) := by decide +kernel
theorem dX8_ifFlicked_142 : decode cX8_ifFlicked 142 = .ok (.aload_n 0, 1) := by decide +kernel
theorem dX8_ifFlicked_143 : decode cX8_ifFlicked 143 = .ok (.getfield 77, 3) := by decide +kernel
theorem dX8_ifFlicked_146 : decode cX8_ifFlicked 146 = .ok (.goto 15, 3) := by decide +kernel
theorem dX8_ifFlicked_149 : decode cX8_ifFlicked 149 = .ok (.bipush 100, 2) := by decide +kernel
theorem dX8_ifFlicked_151 : decode cX8_ifFlicked 151 = .ok (.aload_n 0, 1) := by decide +kernel
theorem dX8_ifFlicked_152 : decode cX8_ifFlicked 152 = .ok (.getfield 80, 3) := by decide +kernel
theorem dX8_ifFlicked_155 : decode cX8_ifFlicked 155 = .ok (.imul, 1) := by decide +kernel
theorem dX8_ifFlicked_156 : decode cX8_ifFlicked 156 = .ok (.aload_n 0, 1) := by decide +kernel
theorem dX8_ifFlicked_157 : decode cX8_ifFlicked 157 = .ok (.getfield 83, 3) := by decide +kernel
theorem dX8_ifFlicked_160 : decode cX8_ifFlicked 160 = .ok (.iadd, 1) := by decide +kernel
theorem dX8_ifFlicked_161 : decode cX8_ifFlicked 161 = .ok (.ireturn, 1) := by decide +kernel
theorem dX8_bestFlick_0 : decode cX8_bestFlick 0 = .ok (.aload_n 0, 1) := by decide +kernel
theorem dX8_bestFlick_1 : decode cX8_bestFlick 1 = .ok (.iload_n 1, 1) := by decide +kernel
theorem dX8_bestFlick_2 : decode cX8_bestFlick 2 = .ok (.invokevirtual 95, 3) := by decide +kernel
theorem dX8_bestFlick_5 : decode cX8_bestFlick 5 = .ok (.ifCond .ne 7, 3) := by decide +kernel
theorem dX8_bestFlick_8 : decode cX8_bestFlick 8 = .ok (.sipush (-1001), 3) := by decide +kernel
theorem dX8_bestFlick_11 : decode cX8_bestFlick 11 = .ok (.ireturn, 1) := by decide +kernel
theorem dX8_bestFlick_12 : decode cX8_bestFlick 12 = .ok (.aload_n 0, 1) := by decide +kernel
theorem dX8_bestFlick_13 : decode cX8_bestFlick 13 = .ok (.iload_n 1, 1) := by decide +kernel
theorem dX8_bestFlick_14 : decode cX8_bestFlick 14 = .ok (.invokevirtual 56, 3) := by decide +kernel
theorem dX8_bestFlick_17 : decode cX8_bestFlick 17 = .ok (.ifCond .ne 7, 3) := by decide +kernel
theorem dX8_bestFlick_20 : decode cX8_bestFlick 20 = .ok (.sipush (-1003), 3) := by decide +kernel
theorem dX8_bestFlick_23 : decode cX8_bestFlick 23 = .ok (.ireturn, 1) := by decide +kernel
theorem dX8_bestFlick_24 : decode cX8_bestFlick 24 = .ok (.sipush (-1006), 3) := by decide +kernel
theorem dX8_bestFlick_27 : decode cX8_bestFlick 27 = .ok (.istore_n 2, 1) := by decide +kernel
theorem dX8_bestFlick_28 : decode cX8_bestFlick 28 = .ok (.iconst 0, 1) := by decide +kernel
theorem dX8_bestFlick_29 : decode cX8_bestFlick 29 = .ok (.istore_n 3, 1) := by decide +kernel
theorem dX8_bestFlick_30 : decode cX8_bestFlick 30 = .ok (.aload_n 0, 1) := by decide +kernel
theorem dX8_bestFlick_31 : decode cX8_bestFlick 31 = .ok (.getfield 7, 3) := by decide +kernel
theorem dX8_bestFlick_34 : decode cX8_bestFlick 34 = .ok (.iconst 0, 1) := by decide +kernel
theorem dX8_bestFlick_35 : decode cX8_bestFlick 35 = .ok (.aload_n 0, 1) := by decide +kernel
theorem dX8_bestFlick_36 : decode cX8_bestFlick 36 = .ok (.getfield 13, 3) := by decide +kernel
theorem dX8_bestFlick_39 : decode cX8_bestFlick 39 = .ok (.iconst 0, 1) := by decide +kernel
theorem dX8_bestFlick_40 : decode cX8_bestFlick 40 = .ok (.invokestatic 35, 3) := by decide +kernel
theorem dX8_bestFlick_43 : decode cX8_bestFlick 43 = .ok (.iconst 1, 1) := by decide +kernel
theorem dX8_bestFlick_44 : decode cX8_bestFlick 44 = .ok (.istore 4, 2) := by decide +kernel
theorem dX8_bestFlick_46 : decode cX8_bestFlick 46 = .ok (.iload 4, 2) := by decide +kernel
theorem dX8_bestFlick_48 : decode cX8_bestFlick 48 = .ok (.bipush 40, 2) := by decide +kernel
theorem dX8_bestFlick_50 : decode cX8_bestFlick 50 = .ok (.if_icmp .gt 91, 3) := by decide +kernel
theorem dX8_bestFlick_53 : decode cX8_bestFlick 53 = .ok (.iconst 0, 1) := by decide +kernel
theorem dX8_bestFlick_54 : decode cX8_bestFlick 54 = .ok (.istore 5, 2) := by decide +kernel
theorem dX8_bestFlick_56 : decode cX8_bestFlick 56 = .ok (.iload 5, 2) := by decide +kernel
theorem dX8_bestFlick_58 : decode cX8_bestFlick 58 = .ok (.bipush 8, 2) := by decide +kernel
theorem dX8_bestFlick_60 : decode cX8_bestFlick 60 = .ok (.if_icmp .ge 75, 3) := by decide +kernel
theorem dX8_bestFlick_63 : decode cX8_bestFlick 63 = .ok (.aload_n 0, 1) := by decide +kernel
theorem dX8_bestFlick_64 : decode cX8_bestFlick 64 = .ok (.aload_n 0, 1) := by decide +kernel
theorem dX8_bestFlick_65 : decode cX8_bestFlick 65 = .ok (.iload_n 1, 1) := by decide +kernel
theorem dX8_bestFlick_66 : decode cX8_bestFlick 66 = .ok (.iconst 3, 1) := by decide +kernel
theorem dX8_bestFlick_67 : decode cX8_bestFlick 67 = .ok (.invokevirtual 43, 3) := by decide +kernel
theorem dX8_bestFlick_70 : decode cX8_bestFlick 70 = .ok (.iload_n 1, 1) := by decide +kernel
theorem dX8_bestFlick_71 : decode cX8_bestFlick 71 = .ok (.iload 5, 2) := by decide +kernel
theorem dX8_bestFlick_73 : decode cX8_bestFlick 73 = .ok (.iload 4, 2) := by decide +kernel
theorem dX8_bestFlick_75 : decode cX8_bestFlick 75 = .ok (.invokevirtual 105, 3) := by decide +kernel
theorem dX8_bestFlick_78 : decode cX8_bestFlick 78 = .ok (.aload_n 0, 1) := by decide +kernel
theorem dX8_bestFlick_79 : decode cX8_bestFlick 79 = .ok (.getfield 92, 3) := by decide +kernel
theorem dX8_bestFlick_82 : decode cX8_bestFlick 82 = .ok (.iload_n 3, 1) := by decide +kernel
theorem dX8_bestFlick_83 : decode cX8_bestFlick 83 = .ok (.if_icmp .le 14, 3) := by decide +kernel
theorem dX8_bestFlick_86 : decode cX8_bestFlick 86 = .ok (.bipush 100, 2) := by decide +kernel
theorem dX8_bestFlick_88 : decode cX8_bestFlick 88 = .ok (.iload 5, 2) := by decide +kernel
theorem dX8_bestFlick_90 : decode cX8_bestFlick 90 = .ok (.imul, 1) := by decide +kernel
theorem dX8_bestFlick_91 : decode cX8_bestFlick 91 = .ok (.iload 4, 2) := by decide +kernel
theorem dX8_bestFlick_93 : decode cX8_bestFlick 93 = .ok (.iadd, 1) := by decide +kernel
theorem dX8_bestFlick_94 : decode cX8_bestFlick 94 = .ok (.goto 4, 3) := by decide +kernel
theorem dX8_bestFlick_97 : decode cX8_bestFlick 97 = .ok (.iload_n 2, 1) := by decide +kernel
theorem dX8_bestFlick_98 : decode cX8_bestFlick 98 = .ok (.istore_n 2, 1) := by decide +kernel
theorem dX8_bestFlick_99 : decode cX8_bestFlick 99 = .ok (.aload_n 0, 1) := by decide +kernel
theorem dX8_bestFlick_100 : decode cX8_bestFlick 100 = .ok (.getfield 92, 3) := by decide +kernel
theorem dX8_bestFlick_103 : decode cX8_bestFlick 103 = .ok (.iload_n 3, 1) := by decide +kernel
theorem dX8_bestFlick_104 : decode cX8_bestFlick 104 = .ok (.if_icmp .le 10, 3) := by decide +kernel
theorem dX8_bestFlick_107 : decode cX8_bestFlick 107 = .ok (.aload_n 0, 1) := by decide +kernel
theorem dX8_bestFlick_108 : decode cX8_bestFlick 108 = .ok (.getfield 92, 3) := by decide +kernel
theorem dX8_bestFlick_111 : decode cX8_bestFlick 111 = .ok (.goto 4, 3) := by decide +kernel
theorem dX8_bestFlick_114 : decode cX8_bestFlick 114 = .ok (.iload_n 3, 1) := by decide +kernel
theorem dX8_bestFlick_115 : decode cX8_bestFlick 115 = .ok (.istore_n 3, 1) := by decide +kernel
theorem dX8_bestFlick_116 : decode cX8_bestFlick 116 = .ok (.aload_n 0, 1) := by decide +kernel
theorem dX8_bestFlick_117 : decode cX8_bestFlick 117 = .ok (.getfield 13, 3) := by decide +kernel
theorem dX8_bestFlick_120 : decode cX8_bestFlick 120 = .ok (.iconst 0, 1) := by decide +kernel
theorem dX8_bestFlick_121 : decode cX8_bestFlick 121 = .ok (.aload_n 0, 1) := by decide +kernel
theorem dX8_bestFlick_122 : decode cX8_bestFlick 122 = .ok (.getfield 7, 3) := by decide +kernel
theorem dX8_bestFlick_125 : decode cX8_bestFlick 125 = .ok (.iconst 0, 1) := by decide +kernel
theorem dX8_bestFlick_126 : decode cX8_bestFlick 126 = .ok (.invokestatic 35, 3) := by decide +kernel
theorem dX8_bestFlick_129 : decode cX8_bestFlick 129 = .ok (.iinc 5 1, 3) := by decide +kernel
theorem dX8_bestFlick_132 : decode cX8_bestFlick 132 = .ok (.goto (-76), 3) := by decide +kernel
theorem dX8_bestFlick_135 : decode cX8_bestFlick 135 = .ok (.iinc 4 1, 3) := by decide +kernel
theorem dX8_bestFlick_138 : decode cX8_bestFlick 138 = .ok (.goto (-92), 3) := by decide +kernel
theorem dX8_bestFlick_141 : decode cX8_bestFlick 141 = .ok (.iload_n 2, 1) := by decide +kernel
theorem dX8_bestFlick_142 : decode cX8_bestFlick 142 = .ok (.ireturn, 1) := by decide +kernel
theorem dX8_stepsOut_0 : decode cX8_stepsOut 0 = .ok (.aload_n 0, 1) := by decide +kernel
theorem dX8_stepsOut_1 : decode cX8_stepsOut 1 = .ok (.iload_n 1, 1) := by decide +kernel
theorem dX8_stepsOut_2 : decode cX8_stepsOut 2 = .ok (.invokevirtual 66, 3) := by decide +kernel
theorem dX8_stepsOut_5 : decode cX8_stepsOut 5 = .ok (.ifCond .ne 7, 3) := by decide +kernel
theorem dX8_stepsOut_8 : decode cX8_stepsOut 8 = .ok (.iconst 0, 1) := by decide +kernel
theorem dX8_stepsOut_9 : decode cX8_stepsOut 9 = .ok (.goto 6, 3) := by decide +kernel
theorem dX8_stepsOut_12 : decode cX8_stepsOut 12 = .ok (.sipush (-1006), 3) := by decide +kernel
theorem dX8_stepsOut_15 : decode cX8_stepsOut 15 = .ok (.istore_n 2, 1) := by decide +kernel
theorem dX8_stepsOut_16 : decode cX8_stepsOut 16 = .ok (.iconst 1, 1) := by decide +kernel
theorem dX8_stepsOut_17 : decode cX8_stepsOut 17 = .ok (.istore_n 3, 1) := by decide +kernel
theorem dX8_stepsOut_18 : decode cX8_stepsOut 18 = .ok (.iload_n 3, 1) := by decide +kernel
theorem dX8_stepsOut_19 : decode cX8_stepsOut 19 = .ok (.bipush 30, 2) := by decide +kernel
theorem dX8_stepsOut_21 : decode cX8_stepsOut 21 = .ok (.if_icmp .gt 95, 3) := by decide +kernel
theorem dX8_stepsOut_24 : decode cX8_stepsOut 24 = .ok (.iload_n 2, 1) := by decide +kernel
theorem dX8_stepsOut_25 : decode cX8_stepsOut 25 = .ok (.sipush (-1006), 3) := by decide +kernel
theorem dX8_stepsOut_28 : decode cX8_stepsOut 28 = .ok (.if_icmp .ne 88, 3) := by decide +kernel
theorem dX8_stepsOut_31 : decode cX8_stepsOut 31 = .ok (.iconst 0, 1) := by decide +kernel
theorem dX8_stepsOut_32 : decode cX8_stepsOut 32 = .ok (.istore 4, 2) := by decide +kernel
theorem dX8_stepsOut_34 : decode cX8_stepsOut 34 = .ok (.iload 4, 2) := by decide +kernel
theorem dX8_stepsOut_36 : decode cX8_stepsOut 36 = .ok (.bipush 8, 2) := by decide +kernel
theorem dX8_stepsOut_38 : decode cX8_stepsOut 38 = .ok (.if_icmp .ge 72, 3) := by decide +kernel
theorem dX8_stepsOut_41 : decode cX8_stepsOut 41 = .ok (.aload_n 0, 1) := by decide +kernel
theorem dX8_stepsOut_42 : decode cX8_stepsOut 42 = .ok (.iload_n 1, 1) := by decide +kernel
theorem dX8_stepsOut_43 : decode cX8_stepsOut 43 = .ok (.iconst 0, 1) := by decide +kernel
theorem dX8_stepsOut_44 : decode cX8_stepsOut 44 = .ok (.invokevirtual 43, 3) := by decide +kernel
theorem dX8_stepsOut_47 : decode cX8_stepsOut 47 = .ok (.iload_n 3, 1) := by decide +kernel
theorem dX8_stepsOut_48 : decode cX8_stepsOut 48 = .ok (.aload_n 0, 1) := by decide +kernel
theorem dX8_stepsOut_49 : decode cX8_stepsOut 49 = .ok (.getfield 22, 3) := by decide +kernel
theorem dX8_stepsOut_52 : decode cX8_stepsOut 52 = .ok (.iload 4, 2) := by decide +kernel
theorem dX8_stepsOut_54 : decode cX8_stepsOut 54 = .ok (.iaload, 1) := by decide +kernel
theorem dX8_stepsOut_55 : decode cX8_stepsOut 55 = .ok (.imul, 1) := by decide +kernel
theorem dX8_stepsOut_56 : decode cX8_stepsOut 56 = .ok (.iadd, 1) := by decide +kernel
theorem dX8_stepsOut_57 : decode cX8_stepsOut 57 = .ok (.istore 5, 2) := by decide +kernel
theorem dX8_stepsOut_59 : decode cX8_stepsOut 59 = .ok (.aload_n 0, 1) := by decide +kernel
theorem dX8_stepsOut_60 : decode cX8_stepsOut 60 = .ok (.iload_n 1, 1) := by decide +kernel
theorem dX8_stepsOut_61 : decode cX8_stepsOut 61 = .ok (.iconst 1, 1) := by decide +kernel
theorem dX8_stepsOut_62 : decode cX8_stepsOut 62 = .ok (.invokevirtual 43, 3) := by decide +kernel
theorem dX8_stepsOut_65 : decode cX8_stepsOut 65 = .ok (.iload_n 3, 1) := by decide +kernel
theorem dX8_stepsOut_66 : decode cX8_stepsOut 66 = .ok (.aload_n 0, 1) := by decide +kernel
theorem dX8_stepsOut_67 : decode cX8_stepsOut 67 = .ok (.getfield 25, 3) := by decide +kernel
theorem dX8_stepsOut_70 : decode cX8_stepsOut 70 = .ok (.iload 4, 2) := by decide +kernel
theorem dX8_stepsOut_72 : decode cX8_stepsOut 72 = .ok (.iaload, 1) := by decide +kernel
theorem dX8_stepsOut_73 : decode cX8_stepsOut 73 = .ok (.imul, 1) := by decide +kernel
theorem dX8_stepsOut_74 : decode cX8_stepsOut 74 = .ok (.iadd, 1) := by decide +kernel
theorem dX8_stepsOut_75 : decode cX8_stepsOut 75 = .ok (.istore 6, 2) := by decide +kernel
theorem dX8_stepsOut_77 : decode cX8_stepsOut 77 = .ok (.iload 5, 2) := by decide +kernel
theorem dX8_stepsOut_79 : decode cX8_stepsOut 79 = .ok (.iload 6, 2) := by decide +kernel
theorem dX8_stepsOut_81 : decode cX8_stepsOut 81 = .ok (.invokestatic 112, 3) := by decide +kernel
theorem dX8_stepsOut_84 : decode cX8_stepsOut 84 = .ok (.ifCond .eq 18, 3) := by decide +kernel
theorem dX8_stepsOut_87 : decode cX8_stepsOut 87 = .ok (.aload_n 0, 1) := by decide +kernel
theorem dX8_stepsOut_88 : decode cX8_stepsOut 88 = .ok (.iload 5, 2) := by decide +kernel
theorem dX8_stepsOut_90 : decode cX8_stepsOut 90 = .ok (.iload 6, 2) := by decide +kernel
theorem dX8_stepsOut_92 : decode cX8_stepsOut 92 = .ok (.invokevirtual 53, 3) := by decide +kernel
theorem dX8_stepsOut_95 : decode cX8_stepsOut 95 = .ok (.ifCond .ne 7, 3) := by decide +kernel
theorem dX8_stepsOut_98 : decode cX8_stepsOut 98 = .ok (.iload_n 3, 1) := by decide +kernel
theorem dX8_stepsOut_99 : decode cX8_stepsOut 99 = .ok (.goto 4, 3) := by decide +kernel
theorem dX8_stepsOut_102 : decode cX8_stepsOut 102 = .ok (.iload_n 2, 1) := by decide +kernel
theorem dX8_stepsOut_103 : decode cX8_stepsOut 103 = .ok (.istore_n 2, 1) := by decide +kernel
theorem dX8_stepsOut_104 : decode cX8_stepsOut 104 = .ok (.iinc 4 1, 3) := by decide +kernel
theorem dX8_stepsOut_107 : decode cX8_stepsOut 107 = .ok (.goto (-73), 3) := by decide +kernel
theorem dX8_stepsOut_110 : decode cX8_stepsOut 110 = .ok (.iinc 3 1, 3) := by decide +kernel
theorem dX8_stepsOut_113 : decode cX8_stepsOut 113 = .ok (.goto (-95), 3) := by decide +kernel
theorem dX8_stepsOut_116 : decode cX8_stepsOut 116 = .ok (.iload_n 2, 1) := by decide +kernel
theorem dX8_stepsOut_117 : decode cX8_stepsOut 117 = .ok (.ireturn, 1) := by decide +kernel
theorem dX8_wayOut_0 : decode cX8_wayOut 0 = .ok (.aload_n 0, 1) := by decide +kernel
theorem dX8_wayOut_1 : decode cX8_wayOut 1 = .ok (.iload_n 1, 1) := by decide +kernel
theorem dX8_wayOut_2 : decode cX8_wayOut 2 = .ok (.invokevirtual 95, 3) := by decide +kernel
theorem dX8_wayOut_5 : decode cX8_wayOut 5 = .ok (.ifCond .ne 7, 3) := by decide +kernel
theorem dX8_wayOut_8 : decode cX8_wayOut 8 = .ok (.sipush (-1001), 3) := by decide +kernel
theorem dX8_wayOut_11 : decode cX8_wayOut 11 = .ok (.ireturn, 1) := by decide +kernel
theorem dX8_wayOut_12 : decode cX8_wayOut 12 = .ok (.aload_n 0, 1) := by decide +kernel
theorem dX8_wayOut_13 : decode cX8_wayOut 13 = .ok (.iload_n 1, 1) := by decide +kernel
theorem dX8_wayOut_14 : decode cX8_wayOut 14 = .ok (.invokevirtual 56, 3) := by decide +kernel
theorem dX8_wayOut_17 : decode cX8_wayOut 17 = .ok (.ifCond .eq 11, 3) := by decide +kernel
theorem dX8_wayOut_20 : decode cX8_wayOut 20 = .ok (.aload_n 0, 1) := by decide +kernel
theorem dX8_wayOut_21 : decode cX8_wayOut 21 = .ok (.iload_n 1, 1) := by decide +kernel
theorem dX8_wayOut_22 : decode cX8_wayOut 22 = .ok (.invokevirtual 148, 3) := by decide +kernel
theorem dX8_wayOut_25 : decode cX8_wayOut 25 = .ok (.goto 6, 3) := by decide +kernel
theorem dX8_wayOut_28 : decode cX8_wayOut 28 = .ok (.sipush (-1003), 3) := by decide +kernel
theorem dX8_wayOut_31 : decode cX8_wayOut 31 = .ok (.ireturn, 1) := by decide +kernel
theorem dX8_type_0 : decode cX8_type 0 = .ok (.iload_n 1, 1) := by decide +kernel
theorem dX8_type_1 : decode cX8_type 1 = .ok (.bipush 33, 2) := by decide +kernel
theorem dX8_type_3 : decode cX8_type 3 = .ok (.bipush 126, 2) := by decide +kernel
theorem dX8_type_5 : decode cX8_type 5 = .ok (.invokestatic 39, 3) := by decide +kernel
theorem dX8_type_8 : decode cX8_type 8 = .ok (.ifCond .ne 7, 3) := by decide +kernel
theorem dX8_type_11 : decode cX8_type 11 = .ok (.sipush (-1002), 3) := by decide +kernel
theorem dX8_type_14 : decode cX8_type 14 = .ok (.ireturn, 1) := by decide +kernel
theorem dX8_type_15 : decode cX8_type 15 = .ok (.aload_n 0, 1) := by decide +kernel
theorem dX8_type_16 : decode cX8_type 16 = .ok (.getfield 151, 3) := by decide +kernel
theorem dX8_type_19 : decode cX8_type 19 = .ok (.bipush 80, 2) := by decide +kernel
theorem dX8_type_21 : decode cX8_type 21 = .ok (.if_icmp .ne 7, 3) := by decide +kernel
theorem dX8_type_24 : decode cX8_type 24 = .ok (.sipush (-1004), 3) := by decide +kernel
theorem dX8_type_27 : decode cX8_type 27 = .ok (.ireturn, 1) := by decide +kernel
theorem dX8_type_28 : decode cX8_type 28 = .ok (.aload_n 0, 1) := by decide +kernel
theorem dX8_type_29 : decode cX8_type 29 = .ok (.getfield 19, 3) := by decide +kernel
theorem dX8_type_32 : decode cX8_type 32 = .ok (.aload_n 0, 1) := by decide +kernel
theorem dX8_type_33 : decode cX8_type 33 = .ok (.getfield 151, 3) := by decide +kernel
theorem dX8_type_36 : decode cX8_type 36 = .ok (.iload_n 1, 1) := by decide +kernel
theorem dX8_type_37 : decode cX8_type 37 = .ok (.iastore, 1) := by decide +kernel
theorem dX8_type_38 : decode cX8_type 38 = .ok (.aload_n 0, 1) := by decide +kernel
theorem dX8_type_39 : decode cX8_type 39 = .ok (.dup, 1) := by decide +kernel
theorem dX8_type_40 : decode cX8_type 40 = .ok (.getfield 151, 3) := by decide +kernel
theorem dX8_type_43 : decode cX8_type 43 = .ok (.iconst 1, 1) := by decide +kernel
theorem dX8_type_44 : decode cX8_type 44 = .ok (.iadd, 1) := by decide +kernel
theorem dX8_type_45 : decode cX8_type 45 = .ok (.putfield 151, 3) := by decide +kernel
theorem dX8_type_48 : decode cX8_type 48 = .ok (.aload_n 0, 1) := by decide +kernel
theorem dX8_type_49 : decode cX8_type 49 = .ok (.getfield 151, 3) := by decide +kernel
theorem dX8_type_52 : decode cX8_type 52 = .ok (.ireturn, 1) := by decide +kernel
theorem dX8_clearText_0 : decode cX8_clearText 0 = .ok (.aload_n 0, 1) := by decide +kernel
theorem dX8_clearText_1 : decode cX8_clearText 1 = .ok (.getfield 151, 3) := by decide +kernel
theorem dX8_clearText_4 : decode cX8_clearText 4 = .ok (.istore_n 1, 1) := by decide +kernel
theorem dX8_clearText_5 : decode cX8_clearText 5 = .ok (.aload_n 0, 1) := by decide +kernel
theorem dX8_clearText_6 : decode cX8_clearText 6 = .ok (.iconst 0, 1) := by decide +kernel
theorem dX8_clearText_7 : decode cX8_clearText 7 = .ok (.putfield 151, 3) := by decide +kernel
theorem dX8_clearText_10 : decode cX8_clearText 10 = .ok (.iload_n 1, 1) := by decide +kernel
theorem dX8_clearText_11 : decode cX8_clearText 11 = .ok (.ireturn, 1) := by decide +kernel
theorem dX8_character_0 : decode cX8_character 0 = .ok (.iload_n 1, 1) := by decide +kernel
theorem dX8_character_1 : decode cX8_character 1 = .ok (.aload_n 0, 1) := by decide +kernel
theorem dX8_character_2 : decode cX8_character 2 = .ok (.getfield 151, 3) := by decide +kernel
theorem dX8_character_5 : decode cX8_character 5 = .ok (.if_icmp .ge 12, 3) := by decide +kernel
theorem dX8_character_8 : decode cX8_character 8 = .ok (.aload_n 0, 1) := by decide +kernel
theorem dX8_character_9 : decode cX8_character 9 = .ok (.getfield 19, 3) := by decide +kernel
theorem dX8_character_12 : decode cX8_character 12 = .ok (.iload_n 1, 1) := by decide +kernel
theorem dX8_character_13 : decode cX8_character 13 = .ok (.iaload, 1) := by decide +kernel
theorem dX8_character_14 : decode cX8_character 14 = .ok (.goto 4, 3) := by decide +kernel
theorem dX8_character_17 : decode cX8_character 17 = .ok (.iconst (-1), 1) := by decide +kernel
theorem dX8_character_18 : decode cX8_character 18 = .ok (.ireturn, 1) := by decide +kernel
theorem dX8_isNext_0 : decode cX8_isNext 0 = .ok (.aload_n 0, 1) := by decide +kernel
theorem dX8_isNext_1 : decode cX8_isNext 1 = .ok (.aload_n 0, 1) := by decide +kernel
theorem dX8_isNext_2 : decode cX8_isNext 2 = .ok (.getfield 154, 3) := by decide +kernel
theorem dX8_isNext_5 : decode cX8_isNext 5 = .ok (.invokevirtual 157, 3) := by decide +kernel
theorem dX8_isNext_8 : decode cX8_isNext 8 = .ok (.iload_n 1, 1) := by decide +kernel
theorem dX8_isNext_9 : decode cX8_isNext 9 = .ok (.if_icmp .ne 7, 3) := by decide +kernel
theorem dX8_isNext_12 : decode cX8_isNext 12 = .ok (.iconst 1, 1) := by decide +kernel
theorem dX8_isNext_13 : decode cX8_isNext 13 = .ok (.goto 4, 3) := by decide +kernel
theorem dX8_isNext_16 : decode cX8_isNext 16 = .ok (.iconst 0, 1) := by decide +kernel
theorem dX8_isNext_17 : decode cX8_isNext 17 = .ok (.istore_n 2, 1) := by decide +kernel
theorem dX8_isNext_18 : decode cX8_isNext 18 = .ok (.aload_n 0, 1) := by decide +kernel
theorem dX8_isNext_19 : decode cX8_isNext 19 = .ok (.dup, 1) := by decide +kernel
theorem dX8_isNext_20 : decode cX8_isNext 20 = .ok (.getfield 154, 3) := by decide +kernel
theorem dX8_isNext_23 : decode cX8_isNext 23 = .ok (.iload_n 2, 1) := by decide +kernel
theorem dX8_isNext_24 : decode cX8_isNext 24 = .ok (.ifCond .eq 7, 3) := by decide +kernel
theorem dX8_isNext_27 : decode cX8_isNext 27 = .ok (.iconst 1, 1) := by decide +kernel
theorem dX8_isNext_28 : decode cX8_isNext 28 = .ok (.goto 4, 3) := by decide +kernel
theorem dX8_isNext_31 : decode cX8_isNext 31 = .ok (.iconst 0, 1) := by decide +kernel
theorem dX8_isNext_32 : decode cX8_isNext 32 = .ok (.iadd, 1) := by decide +kernel
theorem dX8_isNext_33 : decode cX8_isNext 33 = .ok (.putfield 154, 3) := by decide +kernel
theorem dX8_isNext_36 : decode cX8_isNext 36 = .ok (.iload_n 2, 1) := by decide +kernel
theorem dX8_isNext_37 : decode cX8_isNext 37 = .ok (.ireturn, 1) := by decide +kernel
theorem dX8_readsDigit_0 : decode cX8_readsDigit 0 = .ok (.aload_n 0, 1) := by decide +kernel
theorem dX8_readsDigit_1 : decode cX8_readsDigit 1 = .ok (.aload_n 0, 1) := by decide +kernel
theorem dX8_readsDigit_2 : decode cX8_readsDigit 2 = .ok (.getfield 154, 3) := by decide +kernel
theorem dX8_readsDigit_5 : decode cX8_readsDigit 5 = .ok (.invokevirtual 157, 3) := by decide +kernel
theorem dX8_readsDigit_8 : decode cX8_readsDigit 8 = .ok (.bipush 48, 2) := by decide +kernel
theorem dX8_readsDigit_10 : decode cX8_readsDigit 10 = .ok (.iload_n 1, 1) := by decide +kernel
theorem dX8_readsDigit_11 : decode cX8_readsDigit 11 = .ok (.iadd, 1) := by decide +kernel
theorem dX8_readsDigit_12 : decode cX8_readsDigit 12 = .ok (.bipush 48, 2) := by decide +kernel
theorem dX8_readsDigit_14 : decode cX8_readsDigit 14 = .ok (.iload_n 2, 1) := by decide +kernel
theorem dX8_readsDigit_15 : decode cX8_readsDigit 15 = .ok (.iadd, 1) := by decide +kernel
theorem dX8_readsDigit_16 : decode cX8_readsDigit 16 = .ok (.invokestatic 39, 3) := by decide +kernel
theorem dX8_readsDigit_19 : decode cX8_readsDigit 19 = .ok (.istore_n 3, 1) := by decide +kernel
theorem dX8_readsDigit_20 : decode cX8_readsDigit 20 = .ok (.aload_n 0, 1) := by decide +kernel
theorem dX8_readsDigit_21 : decode cX8_readsDigit 21 = .ok (.aload_n 0, 1) := by decide +kernel
theorem dX8_readsDigit_22 : decode cX8_readsDigit 22 = .ok (.aload_n 0, 1) := by decide +kernel
theorem dX8_readsDigit_23 : decode cX8_readsDigit 23 = .ok (.getfield 154, 3) := by decide +kernel
theorem dX8_readsDigit_26 : decode cX8_readsDigit 26 = .ok (.invokevirtual 157, 3) := by decide +kernel
theorem dX8_readsDigit_29 : decode cX8_readsDigit 29 = .ok (.bipush 48, 2) := by decide +kernel
theorem dX8_readsDigit_31 : decode cX8_readsDigit 31 = .ok (.isub, 1) := by decide +kernel
theorem dX8_readsDigit_32 : decode cX8_readsDigit 32 = .ok (.putfield 160, 3) := by decide +kernel
theorem dX8_readsDigit_35 : decode cX8_readsDigit 35 = .ok (.aload_n 0, 1) := by decide +kernel
theorem dX8_readsDigit_36 : decode cX8_readsDigit 36 = .ok (.dup, 1) := by decide +kernel
theorem dX8_readsDigit_37 : decode cX8_readsDigit 37 = .ok (.getfield 154, 3) := by decide +kernel
theorem dX8_readsDigit_40 : decode cX8_readsDigit 40 = .ok (.iload_n 3, 1) := by decide +kernel
theorem dX8_readsDigit_41 : decode cX8_readsDigit 41 = .ok (.ifCond .eq 7, 3) := by decide +kernel
theorem dX8_readsDigit_44 : decode cX8_readsDigit 44 = .ok (.iconst 1, 1) := by decide +kernel
theorem dX8_readsDigit_45 : decode cX8_readsDigit 45 = .ok (.goto 4, 3) := by decide +kernel
theorem dX8_readsDigit_48 : decode cX8_readsDigit 48 = .ok (.iconst 0, 1) := by decide +kernel
theorem dX8_readsDigit_49 : decode cX8_readsDigit 49 = .ok (.iadd, 1) := by decide +kernel
theorem dX8_readsDigit_50 : decode cX8_readsDigit 50 = .ok (.putfield 154, 3) := by decide +kernel
theorem dX8_readsDigit_53 : decode cX8_readsDigit 53 = .ok (.iload_n 3, 1) := by decide +kernel
theorem dX8_readsDigit_54 : decode cX8_readsDigit 54 = .ok (.ireturn, 1) := by decide +kernel
theorem dX8_readsNumber_0 : decode cX8_readsNumber 0 = .ok (.aload_n 0, 1) := by decide +kernel
theorem dX8_readsNumber_1 : decode cX8_readsNumber 1 = .ok (.iload_n 1, 1) := by decide +kernel
theorem dX8_readsNumber_2 : decode cX8_readsNumber 2 = .ok (.bipush 9, 2) := by decide +kernel
theorem dX8_readsNumber_4 : decode cX8_readsNumber 4 = .ok (.invokevirtual 163, 3) := by decide +kernel
theorem dX8_readsNumber_7 : decode cX8_readsNumber 7 = .ok (.ifCond .ne 5, 3) := by decide +kernel
theorem dX8_readsNumber_10 : decode cX8_readsNumber 10 = .ok (.iconst 0, 1) := by decide +kernel
theorem dX8_readsNumber_11 : decode cX8_readsNumber 11 = .ok (.ireturn, 1) := by decide +kernel
theorem dX8_readsNumber_12 : decode cX8_readsNumber 12 = .ok (.bipush 10, 2) := by decide +kernel
theorem dX8_readsNumber_14 : decode cX8_readsNumber 14 = .ok (.aload_n 0, 1) := by decide +kernel
theorem dX8_readsNumber_15 : decode cX8_readsNumber 15 = .ok (.getfield 160, 3) := by decide +kernel
theorem dX8_readsNumber_18 : decode cX8_readsNumber 18 = .ok (.imul, 1) := by decide +kernel
theorem dX8_readsNumber_19 : decode cX8_readsNumber 19 = .ok (.aload_n 0, 1) := by decide +kernel
theorem dX8_readsNumber_20 : decode cX8_readsNumber 20 = .ok (.aload_n 0, 1) := by decide +kernel
theorem dX8_readsNumber_21 : decode cX8_readsNumber 21 = .ok (.getfield 154, 3) := by decide +kernel
theorem dX8_readsNumber_24 : decode cX8_readsNumber 24 = .ok (.invokevirtual 157, 3) := by decide +kernel
theorem dX8_readsNumber_27 : decode cX8_readsNumber 27 = .ok (.iadd, 1) := by decide +kernel
theorem dX8_readsNumber_28 : decode cX8_readsNumber 28 = .ok (.bipush 48, 2) := by decide +kernel
theorem dX8_readsNumber_30 : decode cX8_readsNumber 30 = .ok (.isub, 1) := by decide +kernel
theorem dX8_readsNumber_31 : decode cX8_readsNumber 31 = .ok (.istore_n 3, 1) := by decide +kernel
theorem dX8_readsNumber_32 : decode cX8_readsNumber 32 = .ok (.aload_n 0, 1) := by decide +kernel
theorem dX8_readsNumber_33 : decode cX8_readsNumber 33 = .ok (.getfield 160, 3) := by decide +kernel
theorem dX8_readsNumber_36 : decode cX8_readsNumber 36 = .ok (.ifCond .le 41, 3) := by decide +kernel
theorem dX8_readsNumber_39 : decode cX8_readsNumber 39 = .ok (.aload_n 0, 1) := by decide +kernel
theorem dX8_readsNumber_40 : decode cX8_readsNumber 40 = .ok (.aload_n 0, 1) := by decide +kernel
theorem dX8_readsNumber_41 : decode cX8_readsNumber 41 = .ok (.getfield 154, 3) := by decide +kernel
theorem dX8_readsNumber_44 : decode cX8_readsNumber 44 = .ok (.invokevirtual 157, 3) := by decide +kernel
theorem dX8_readsNumber_47 : decode cX8_readsNumber 47 = .ok (.bipush 48, 2) := by decide +kernel
theorem dX8_readsNumber_49 : decode cX8_readsNumber 49 = .ok (.bipush 57, 2) := by decide +kernel
theorem dX8_readsNumber_51 : decode cX8_readsNumber 51 = .ok (.invokestatic 39, 3) := by decide +kernel
theorem dX8_readsNumber_54 : decode cX8_readsNumber 54 = .ok (.ifCond .eq 23, 3) := by decide +kernel
theorem dX8_readsNumber_57 : decode cX8_readsNumber 57 = .ok (.iload_n 3, 1) := by decide +kernel
theorem dX8_readsNumber_58 : decode cX8_readsNumber 58 = .ok (.iload_n 2, 1) := by decide +kernel
theorem dX8_readsNumber_59 : decode cX8_readsNumber 59 = .ok (.if_icmp .gt 18, 3) := by decide +kernel
theorem dX8_readsNumber_62 : decode cX8_readsNumber 62 = .ok (.aload_n 0, 1) := by decide +kernel
theorem dX8_readsNumber_63 : decode cX8_readsNumber 63 = .ok (.iload_n 3, 1) := by decide +kernel
theorem dX8_readsNumber_64 : decode cX8_readsNumber 64 = .ok (.putfield 160, 3) := by decide +kernel
theorem dX8_readsNumber_67 : decode cX8_readsNumber 67 = .ok (.aload_n 0, 1) := by decide +kernel
theorem dX8_readsNumber_68 : decode cX8_readsNumber 68 = .ok (.dup, 1) := by decide +kernel
theorem dX8_readsNumber_69 : decode cX8_readsNumber 69 = .ok (.getfield 154, 3) := by decide +kernel
theorem dX8_readsNumber_72 : decode cX8_readsNumber 72 = .ok (.iconst 1, 1) := by decide +kernel
theorem dX8_readsNumber_73 : decode cX8_readsNumber 73 = .ok (.iadd, 1) := by decide +kernel
theorem dX8_readsNumber_74 : decode cX8_readsNumber 74 = .ok (.putfield 154, 3) := by decide +kernel
theorem dX8_readsNumber_77 : decode cX8_readsNumber 77 = .ok (.iconst 1, 1) := by decide +kernel
theorem dX8_readsNumber_78 : decode cX8_readsNumber 78 = .ok (.ireturn, 1) := by decide +kernel
theorem dX8_readsItem_0 : decode cX8_readsItem 0 = .ok (.aload_n 0, 1) := by decide +kernel
theorem dX8_readsItem_1 : decode cX8_readsItem 1 = .ok (.aload_n 0, 1) := by decide +kernel
theorem dX8_readsItem_2 : decode cX8_readsItem 2 = .ok (.aload_n 0, 1) := by decide +kernel
theorem dX8_readsItem_3 : decode cX8_readsItem 3 = .ok (.getfield 154, 3) := by decide +kernel
theorem dX8_readsItem_6 : decode cX8_readsItem 6 = .ok (.invokevirtual 157, 3) := by decide +kernel
theorem dX8_readsItem_9 : decode cX8_readsItem 9 = .ok (.putfield 166, 3) := by decide +kernel
theorem dX8_readsItem_12 : decode cX8_readsItem 12 = .ok (.aload_n 0, 1) := by decide +kernel
theorem dX8_readsItem_13 : decode cX8_readsItem 13 = .ok (.getfield 166, 3) := by decide +kernel
theorem dX8_readsItem_16 : decode cX8_readsItem 16 = .ok (.bipush 109, 2) := by decide +kernel
theorem dX8_readsItem_18 : decode cX8_readsItem 18 = .ok (.if_icmp .eq 14, 3) := by decide +kernel
theorem dX8_readsItem_21 : decode cX8_readsItem 21 = .ok (.aload_n 0, 1) := by decide +kernel
theorem dX8_readsItem_22 : decode cX8_readsItem 22 = .ok (.getfield 166, 3) := by decide +kernel
theorem dX8_readsItem_25 : decode cX8_readsItem 25 = .ok (.bipush 114, 2) := by decide +kernel
theorem dX8_readsItem_27 : decode cX8_readsItem 27 = .ok (.if_icmp .eq 5, 3) := by decide +kernel
theorem dX8_readsItem_30 : decode cX8_readsItem 30 = .ok (.iconst 0, 1) := by decide +kernel
theorem dX8_readsItem_31 : decode cX8_readsItem 31 = .ok (.ireturn, 1) := by decide +kernel
theorem dX8_readsItem_32 : decode cX8_readsItem 32 = .ok (.aload_n 0, 1) := by decide +kernel
theorem dX8_readsItem_33 : decode cX8_readsItem 33 = .ok (.dup, 1) := by decide +kernel
theorem dX8_readsItem_34 : decode cX8_readsItem 34 = .ok (.getfield 154, 3) := by decide +kernel
theorem dX8_readsItem_37 : decode cX8_readsItem 37 = .ok (.iconst 1, 1) := by decide +kernel
theorem dX8_readsItem_38 : decode cX8_readsItem 38 = .ok (.iadd, 1) := by decide +kernel
theorem dX8_readsItem_39 : decode cX8_readsItem 39 = .ok (.putfield 154, 3) := by decide +kernel
theorem dX8_readsItem_42 : decode cX8_readsItem 42 = .ok (.aload_n 0, 1) := by decide +kernel
theorem dX8_readsItem_43 : decode cX8_readsItem 43 = .ok (.iconst 0, 1) := by decide +kernel
theorem dX8_readsItem_44 : decode cX8_readsItem 44 = .ok (.bipush 30, 2) := by decide +kernel
theorem dX8_readsItem_46 : decode cX8_readsItem 46 = .ok (.invokevirtual 169, 3) := by decide +kernel
theorem dX8_readsItem_49 : decode cX8_readsItem 49 = .ok (.istore_n 1, 1) := by decide +kernel
theorem dX8_readsItem_50 : decode cX8_readsItem 50 = .ok (.aload_n 0, 1) := by decide +kernel
theorem dX8_readsItem_51 : decode cX8_readsItem 51 = .ok (.aload_n 0, 1) := by decide +kernel
theorem dX8_readsItem_52 : decode cX8_readsItem 52 = .ok (.getfield 160, 3) := by decide +kernel
theorem dX8_readsItem_55 : decode cX8_readsItem 55 = .ok (.putfield 172, 3) := by decide +kernel
theorem dX8_readsItem_58 : decode cX8_readsItem 58 = .ok (.iload_n 1, 1) := by decide +kernel
theorem dX8_readsItem_59 : decode cX8_readsItem 59 = .ok (.ifCond .eq 26, 3) := by decide +kernel
theorem dX8_readsItem_62 : decode cX8_readsItem 62 = .ok (.aload_n 0, 1) := by decide +kernel
theorem dX8_readsItem_63 : decode cX8_readsItem 63 = .ok (.bipush 44, 2) := by decide +kernel
theorem dX8_readsItem_65 : decode cX8_readsItem 65 = .ok (.invokevirtual 175, 3) := by decide +kernel
theorem dX8_readsItem_68 : decode cX8_readsItem 68 = .ok (.ifCond .eq 17, 3) := by decide +kernel
theorem dX8_readsItem_71 : decode cX8_readsItem 71 = .ok (.aload_n 0, 1) := by decide +kernel
theorem dX8_readsItem_72 : decode cX8_readsItem 72 = .ok (.iconst 0, 1) := by decide +kernel
theorem dX8_readsItem_73 : decode cX8_readsItem 73 = .ok (.bipush 30, 2) := by decide +kernel
theorem dX8_readsItem_75 : decode cX8_readsItem 75 = .ok (.invokevirtual 169, 3) := by decide +kernel
theorem dX8_readsItem_78 : decode cX8_readsItem 78 = .ok (.ifCond .eq 7, 3) := by decide +kernel
theorem dX8_readsItem_81 : decode cX8_readsItem 81 = .ok (.iconst 1, 1) := by decide +kernel
theorem dX8_readsItem_82 : decode cX8_readsItem 82 = .ok (.goto 4, 3) := by decide +kernel
theorem dX8_readsItem_85 : decode cX8_readsItem 85 = .ok (.iconst 0, 1) := by decide +kernel
theorem dX8_readsItem_86 : decode cX8_readsItem 86 = .ok (.istore_n 1, 1) := by decide +kernel
theorem dX8_readsItem_87 : decode cX8_readsItem 87 = .ok (.aload_n 0, 1) := by decide +kernel
theorem dX8_readsItem_88 : decode cX8_readsItem 88 = .ok (.aload_n 0, 1) := by decide +kernel
theorem dX8_readsItem_89 : decode cX8_readsItem 89 = .ok (.getfield 160, 3) := by decide +kernel
theorem dX8_readsItem_92 : decode cX8_readsItem 92 = .ok (.putfield 178, 3) := by decide +kernel
theorem dX8_readsItem_95 : decode cX8_readsItem 95 = .ok (.aload_n 0, 1) := by decide +kernel
theorem dX8_readsItem_96 : decode cX8_readsItem 96 = .ok (.getfield 166, 3) := by decide +kernel
theorem dX8_readsItem_99 : decode cX8_readsItem 99 = .ok (.bipush 114, 2) := by decide +kernel
theorem dX8_readsItem_101 : decode cX8_readsItem 101 = .ok (.if_icmp .ne 42, 3) := by decide +kernel
theorem dX8_readsItem_104 : decode cX8_readsItem 104 = .ok (.iload_n 1, 1) := by decide +kernel
theorem dX8_readsItem_105 : decode cX8_readsItem 105 = .ok (.ifCond .eq 26, 3) := by decide +kernel
theorem dX8_readsItem_108 : decode cX8_readsItem 108 = .ok (.aload_n 0, 1) := by decide +kernel
theorem dX8_readsItem_109 : decode cX8_readsItem 109 = .ok (.bipush 58, 2) := by decide +kernel
theorem dX8_readsItem_111 : decode cX8_readsItem 111 = .ok (.invokevirtual 175, 3) := by decide +kernel
theorem dX8_readsItem_114 : decode cX8_readsItem 114 = .ok (.ifCond .eq 17, 3) := by decide +kernel
theorem dX8_readsItem_117 : decode cX8_readsItem 117 = .ok (.aload_n 0, 1) := by decide +kernel
theorem dX8_readsItem_118 : decode cX8_readsItem 118 = .ok (.iconst 1, 1) := by decide +kernel
theorem dX8_readsItem_119 : decode cX8_readsItem 119 = .ok (.bipush 15, 2) := by decide +kernel
theorem dX8_readsItem_121 : decode cX8_readsItem 121 = .ok (.invokevirtual 169, 3) := by decide +kernel
theorem dX8_readsItem_124 : decode cX8_readsItem 124 = .ok (.ifCond .eq 7, 3) := by decide +kernel
theorem dX8_readsItem_127 : decode cX8_readsItem 127 = .ok (.iconst 1, 1) := by decide +kernel
theorem dX8_readsItem_128 : decode cX8_readsItem 128 = .ok (.goto 4, 3) := by decide +kernel
theorem dX8_readsItem_131 : decode cX8_readsItem 131 = .ok (.iconst 0, 1) := by decide +kernel
theorem dX8_readsItem_132 : decode cX8_readsItem 132 = .ok (.istore_n 1, 1) := by decide +kernel
theorem dX8_readsItem_133 : decode cX8_readsItem 133 = .ok (.aload_n 0, 1) := by decide +kernel
theorem dX8_readsItem_134 : decode cX8_readsItem 134 = .ok (.aload_n 0, 1) := by decide +kernel
theorem dX8_readsItem_135 : decode cX8_readsItem 135 = .ok (.getfield 160, 3) := by decide +kernel
theorem dX8_readsItem_138 : decode cX8_readsItem 138 = .ok (.putfield 181, 3) := by decide +kernel
theorem dX8_readsItem_141 : decode cX8_readsItem 141 = .ok (.iload_n 1, 1) := by decide +kernel
theorem dX8_readsItem_142 : decode cX8_readsItem 142 = .ok (.ireturn, 1) := by decide +kernel
theorem dX8_readsItem_143 : decode cX8_readsItem 143 = .ok (.iload_n 1, 1) := by decide +kernel
theorem dX8_readsItem_144 : decode cX8_readsItem 144 = .ok (.ifCond .eq 25, 3) := by decide +kernel
theorem dX8_readsItem_147 : decode cX8_readsItem 147 = .ok (.aload_n 0, 1) := by decide +kernel
theorem dX8_readsItem_148 : decode cX8_readsItem 148 = .ok (.bipush 115, 2) := by decide +kernel
theorem dX8_readsItem_150 : decode cX8_readsItem 150 = .ok (.invokevirtual 175, 3) := by decide +kernel
theorem dX8_readsItem_153 : decode cX8_readsItem 153 = .ok (.ifCond .eq 16, 3) := by decide +kernel
theorem dX8_readsItem_156 : decode cX8_readsItem 156 = .ok (.aload_n 0, 1) := by decide +kernel
theorem dX8_readsItem_157 : decode cX8_readsItem 157 = .ok (.iconst 1, 1) := by decide +kernel
theorem dX8_readsItem_158 : decode cX8_readsItem 158 = .ok (.iconst 3, 1) := by decide +kernel
theorem dX8_readsItem_159 : decode cX8_readsItem 159 = .ok (.invokevirtual 163, 3) := by decide +kernel
theorem dX8_readsItem_162 : decode cX8_readsItem 162 = .ok (.ifCond .eq 7, 3) := by decide +kernel
theorem dX8_readsItem_165 : decode cX8_readsItem 165 = .ok (.iconst 1, 1) := by decide +kernel
theorem dX8_readsItem_166 : decode cX8_readsItem 166 = .ok (.goto 4, 3) := by decide +kernel
theorem dX8_readsItem_169 : decode cX8_readsItem 169 = .ok (.iconst 0, 1) := by decide +kernel
theorem dX8_readsItem_170 : decode cX8_readsItem 170 = .ok (.istore_n 1, 1) := by decide +kernel
theorem dX8_readsItem_171 : decode cX8_readsItem 171 = .ok (.aload_n 0, 1) := by decide +kernel
theorem dX8_readsItem_172 : decode cX8_readsItem 172 = .ok (.aload_n 0, 1) := by decide +kernel
theorem dX8_readsItem_173 : decode cX8_readsItem 173 = .ok (.getfield 160, 3) := by decide +kernel
theorem dX8_readsItem_176 : decode cX8_readsItem 176 = .ok (.putfield 181, 3) := by decide +kernel
theorem dX8_readsItem_179 : decode cX8_readsItem 179 = .ok (.iload_n 1, 1) := by decide +kernel
theorem dX8_readsItem_180 : decode cX8_readsItem 180 = .ok (.ifCond .eq 25, 3) := by decide +kernel
theorem dX8_readsItem_183 : decode cX8_readsItem 183 = .ok (.aload_n 0, 1) := by decide +kernel
theorem dX8_readsItem_184 : decode cX8_readsItem 184 = .ok (.bipush 112, 2) := by decide +kernel
theorem dX8_readsItem_186 : decode cX8_readsItem 186 = .ok (.invokevirtual 175, 3) := by decide +kernel
theorem dX8_readsItem_189 : decode cX8_readsItem 189 = .ok (.ifCond .eq 16, 3) := by decide +kernel
theorem dX8_readsItem_192 : decode cX8_readsItem 192 = .ok (.aload_n 0, 1) := by decide +kernel
theorem dX8_readsItem_193 : decode cX8_readsItem 193 = .ok (.iconst 0, 1) := by decide +kernel
theorem dX8_readsItem_194 : decode cX8_readsItem 194 = .ok (.iconst 2, 1) := by decide +kernel
theorem dX8_readsItem_195 : decode cX8_readsItem 195 = .ok (.invokevirtual 163, 3) := by decide +kernel
theorem dX8_readsItem_198 : decode cX8_readsItem 198 = .ok (.ifCond .eq 7, 3) := by decide +kernel
theorem dX8_readsItem_201 : decode cX8_readsItem 201 = .ok (.iconst 1, 1) := by decide +kernel
theorem dX8_readsItem_202 : decode cX8_readsItem 202 = .ok (.goto 4, 3) := by decide +kernel
theorem dX8_readsItem_205 : decode cX8_readsItem 205 = .ok (.iconst 0, 1) := by decide +kernel
theorem dX8_readsItem_206 : decode cX8_readsItem 206 = .ok (.istore_n 1, 1) := by decide +kernel
theorem dX8_readsItem_207 : decode cX8_readsItem 207 = .ok (.aload_n 0, 1) := by decide +kernel
theorem dX8_readsItem_208 : decode cX8_readsItem 208 = .ok (.aload_n 0, 1) := by decide +kernel
theorem dX8_readsItem_209 : decode cX8_readsItem 209 = .ok (.getfield 160, 3) := by decide +kernel
theorem dX8_readsItem_212 : decode cX8_readsItem 212 = .ok (.putfield 184, 3) := by decide +kernel
theorem dX8_readsItem_215 : decode cX8_readsItem 215 = .ok (.iload_n 1, 1) := by decide +kernel
theorem dX8_readsItem_216 : decode cX8_readsItem 216 = .ok (.ireturn, 1) := by decide +kernel
theorem dX8_findError_0 : decode cX8_findError 0 = .ok (.aload_n 0, 1) := by decide +kernel
theorem dX8_findError_1 : decode cX8_findError 1 = .ok (.iconst 0, 1) := by decide +kernel
theorem dX8_findError_2 : decode cX8_findError 2 = .ok (.putfield 154, 3) := by decide +kernel
theorem dX8_findError_5 : decode cX8_findError 5 = .ok (.aload_n 0, 1) := by decide +kernel
theorem dX8_findError_6 : decode cX8_findError 6 = .ok (.invokevirtual 187, 3) := by decide +kernel
theorem dX8_findError_9 : decode cX8_findError 9 = .ok (.ifCond .ne 8, 3) := by decide +kernel
theorem dX8_findError_12 : decode cX8_findError 12 = .ok (.aload_n 0, 1) := by decide +kernel
theorem dX8_findError_13 : decode cX8_findError 13 = .ok (.getfield 154, 3) := by decide +kernel
theorem dX8_findError_16 : decode cX8_findError 16 = .ok (.ireturn, 1) := by decide +kernel
theorem dX8_findError_17 : decode cX8_findError 17 = .ok (.aload_n 0, 1) := by decide +kernel
theorem dX8_findError_18 : decode cX8_findError 18 = .ok (.getfield 154, 3) := by decide +kernel
theorem dX8_findError_21 : decode cX8_findError 21 = .ok (.aload_n 0, 1) := by decide +kernel
theorem dX8_findError_22 : decode cX8_findError 22 = .ok (.getfield 151, 3) := by decide +kernel
theorem dX8_findError_25 : decode cX8_findError 25 = .ok (.if_icmp .ne 7, 3) := by decide +kernel
theorem dX8_findError_28 : decode cX8_findError 28 = .ok (.sipush (-1006), 3) := by decide +kernel
theorem dX8_findError_31 : decode cX8_findError 31 = .ok (.ireturn, 1) := by decide +kernel
theorem dX8_findError_32 : decode cX8_findError 32 = .ok (.aload_n 0, 1) := by decide +kernel
theorem dX8_findError_33 : decode cX8_findError 33 = .ok (.bipush 59, 2) := by decide +kernel
theorem dX8_findError_35 : decode cX8_findError 35 = .ok (.invokevirtual 175, 3) := by decide +kernel
theorem dX8_findError_38 : decode cX8_findError 38 = .ok (.ifCond .ne (-33), 3) := by decide +kernel
theorem dX8_findError_41 : decode cX8_findError 41 = .ok (.aload_n 0, 1) := by decide +kernel
theorem dX8_findError_42 : decode cX8_findError 42 = .ok (.getfield 154, 3) := by decide +kernel
theorem dX8_findError_45 : decode cX8_findError 45 = .ok (.ireturn, 1) := by decide +kernel
theorem dX8_syntaxError_0 : decode cX8_syntaxError 0 = .ok (.aload_n 0, 1) := by decide +kernel
theorem dX8_syntaxError_1 : decode cX8_syntaxError 1 = .ok (.invokevirtual 191, 3) := by decide +kernel
theorem dX8_syntaxError_4 : decode cX8_syntaxError 4 = .ok (.ireturn, 1) := by decide +kernel
theorem dX8_does_0 : decode cX8_does 0 = .ok (.aload_n 0, 1) := by decide +kernel
theorem dX8_does_1 : decode cX8_does 1 = .ok (.getfield 166, 3) := by decide +kernel
theorem dX8_does_4 : decode cX8_does 4 = .ok (.bipush 114, 2) := by decide +kernel
theorem dX8_does_6 : decode cX8_does 6 = .ok (.if_icmp .ne 7, 3) := by decide +kernel
theorem dX8_does_9 : decode cX8_does 9 = .ok (.iconst 1, 1) := by decide +kernel
theorem dX8_does_10 : decode cX8_does 10 = .ok (.goto 4, 3) := by decide +kernel
theorem dX8_does_13 : decode cX8_does 13 = .ok (.iconst 0, 1) := by decide +kernel
theorem dX8_does_14 : decode cX8_does 14 = .ok (.istore_n 1, 1) := by decide +kernel
theorem dX8_does_15 : decode cX8_does 15 = .ok (.iload_n 1, 1) := by decide +kernel
theorem dX8_does_16 : decode cX8_does 16 = .ok (.ifCond .eq 22, 3) := by decide +kernel
theorem dX8_does_19 : decode cX8_does 19 = .ok (.aload_n 0, 1) := by decide +kernel
theorem dX8_does_20 : decode cX8_does 20 = .ok (.aload_n 0, 1) := by decide +kernel
theorem dX8_does_21 : decode cX8_does 21 = .ok (.getfield 172, 3) := by decide +kernel
theorem dX8_does_24 : decode cX8_does 24 = .ok (.aload_n 0, 1) := by decide +kernel
theorem dX8_does_25 : decode cX8_does 25 = .ok (.getfield 178, 3) := by decide +kernel
theorem dX8_does_28 : decode cX8_does 28 = .ok (.aload_n 0, 1) := by decide +kernel
theorem dX8_does_29 : decode cX8_does 29 = .ok (.getfield 181, 3) := by decide +kernel
theorem dX8_does_32 : decode cX8_does 32 = .ok (.invokevirtual 122, 3) := by decide +kernel
theorem dX8_does_35 : decode cX8_does 35 = .ok (.goto 23, 3) := by decide +kernel
theorem dX8_does_38 : decode cX8_does 38 = .ok (.aload_n 0, 1) := by decide +kernel
theorem dX8_does_39 : decode cX8_does 39 = .ok (.aload_n 0, 1) := by decide +kernel
theorem dX8_does_40 : decode cX8_does 40 = .ok (.getfield 172, 3) := by decide +kernel
theorem dX8_does_43 : decode cX8_does 43 = .ok (.aload_n 0, 1) := by decide +kernel
theorem dX8_does_44 : decode cX8_does 44 = .ok (.getfield 178, 3) := by decide +kernel
theorem dX8_does_47 : decode cX8_does 47 = .ok (.aload_n 0, 1) := by decide +kernel
theorem dX8_does_48 : decode cX8_does 48 = .ok (.getfield 181, 3) := by decide +kernel
theorem dX8_does_51 : decode cX8_does 51 = .ok (.aload_n 0, 1) := by decide +kernel
theorem dX8_does_52 : decode cX8_does 52 = .ok (.getfield 184, 3) := by decide +kernel
theorem dX8_does_55 : decode cX8_does 55 = .ok (.invokevirtual 115, 3) := by decide +kernel
theorem dX8_does_58 : decode cX8_does 58 = .ok (.istore_n 2, 1) := by decide +kernel
theorem dX8_does_59 : decode cX8_does 59 = .ok (.iload_n 2, 1) := by decide +kernel
theorem dX8_does_60 : decode cX8_does 60 = .ok (.ifCond .ne 27, 3) := by decide +kernel
theorem dX8_does_63 : decode cX8_does 63 = .ok (.iload_n 1, 1) := by decide +kernel
theorem dX8_does_64 : decode cX8_does 64 = .ok (.ifCond .eq 23, 3) := by decide +kernel
theorem dX8_does_67 : decode cX8_does 67 = .ok (.aload_n 0, 1) := by decide +kernel
theorem dX8_does_68 : decode cX8_does 68 = .ok (.aload_n 0, 1) := by decide +kernel
theorem dX8_does_69 : decode cX8_does 69 = .ok (.getfield 172, 3) := by decide +kernel
theorem dX8_does_72 : decode cX8_does 72 = .ok (.aload_n 0, 1) := by decide +kernel
theorem dX8_does_73 : decode cX8_does 73 = .ok (.getfield 178, 3) := by decide +kernel
theorem dX8_does_76 : decode cX8_does 76 = .ok (.aload_n 0, 1) := by decide +kernel
theorem dX8_does_77 : decode cX8_does 77 = .ok (.getfield 181, 3) := by decide +kernel
theorem dX8_does_80 : decode cX8_does 80 = .ok (.invokevirtual 126, 3) := by decide +kernel
theorem dX8_does_83 : decode cX8_does 83 = .ok (.pop, 1) := by decide +kernel
theorem dX8_does_84 : decode cX8_does 84 = .ok (.goto 28, 3) := by decide +kernel
theorem dX8_does_87 : decode cX8_does 87 = .ok (.iload_n 2, 1) := by decide +kernel
theorem dX8_does_88 : decode cX8_does 88 = .ok (.ifCond .ne 24, 3) := by decide +kernel
theorem dX8_does_91 : decode cX8_does 91 = .ok (.aload_n 0, 1) := by decide +kernel
theorem dX8_does_92 : decode cX8_does 92 = .ok (.aload_n 0, 1) := by decide +kernel
theorem dX8_does_93 : decode cX8_does 93 = .ok (.getfield 172, 3) := by decide +kernel
theorem dX8_does_96 : decode cX8_does 96 = .ok (.aload_n 0, 1) := by decide +kernel
theorem dX8_does_97 : decode cX8_does 97 = .ok (.getfield 178, 3) := by decide +kernel
theorem dX8_does_100 : decode cX8_does 100 = .ok (.aload_n 0, 1) := by decide +kernel
theorem dX8_does_101 : decode cX8_does 101 = .ok (.getfield 181, 3) := by decide +kernel
theorem dX8_does_104 : decode cX8_does 104 = .ok (.aload_n 0, 1) := by decide +kernel
theorem dX8_does_105 : decode cX8_does 105 = .ok (.getfield 184, 3) := by decide +kernel
theorem dX8_does_108 : decode cX8_does 108 = .ok (.invokevirtual 119, 3) := by decide +kernel
theorem dX8_does_111 : decode cX8_does 111 = .ok (.pop, 1) := by decide +kernel
theorem dX8_does_112 : decode cX8_does 112 = .ok (.iload_n 2, 1) := by decide +kernel
theorem dX8_does_113 : decode cX8_does 113 = .ok (.ifCond .ne 7, 3) := by decide +kernel
theorem dX8_does_116 : decode cX8_does 116 = .ok (.iconst 1, 1) := by decide +kernel
theorem dX8_does_117 : decode cX8_does 117 = .ok (.goto 4, 3) := by decide +kernel
theorem dX8_does_120 : decode cX8_does 120 = .ok (.iconst 0, 1) := by decide +kernel
theorem dX8_does_121 : decode cX8_does 121 = .ok (.ireturn, 1) := by decide +kernel
theorem dX8_readItems_0 : decode cX8_readItems 0 = .ok (.aload_n 0, 1) := by decide +kernel
theorem dX8_readItems_1 : decode cX8_readItems 1 = .ok (.invokevirtual 191, 3) := by decide +kernel
theorem dX8_readItems_4 : decode cX8_readItems 4 = .ok (.sipush (-1006), 3) := by decide +kernel
theorem dX8_readItems_7 : decode cX8_readItems 7 = .ok (.if_icmp .eq 7, 3) := by decide +kernel
theorem dX8_readItems_10 : decode cX8_readItems 10 = .ok (.sipush (-1005), 3) := by decide +kernel
theorem dX8_readItems_13 : decode cX8_readItems 13 = .ok (.ireturn, 1) := by decide +kernel
theorem dX8_readItems_14 : decode cX8_readItems 14 = .ok (.aload_n 0, 1) := by decide +kernel
theorem dX8_readItems_15 : decode cX8_readItems 15 = .ok (.invokevirtual 102, 3) := by decide +kernel
theorem dX8_readItems_18 : decode cX8_readItems 18 = .ok (.iconst 0, 1) := by decide +kernel
theorem dX8_readItems_19 : decode cX8_readItems 19 = .ok (.istore_n 1, 1) := by decide +kernel
theorem dX8_readItems_20 : decode cX8_readItems 20 = .ok (.aload_n 0, 1) := by decide +kernel
theorem dX8_readItems_21 : decode cX8_readItems 21 = .ok (.iconst 0, 1) := by decide +kernel
theorem dX8_readItems_22 : decode cX8_readItems 22 = .ok (.putfield 154, 3) := by decide +kernel
theorem dX8_readItems_25 : decode cX8_readItems 25 = .ok (.iconst 1, 1) := by decide +kernel
theorem dX8_readItems_26 : decode cX8_readItems 26 = .ok (.istore_n 2, 1) := by decide +kernel
theorem dX8_readItems_27 : decode cX8_readItems 27 = .ok (.iload_n 2, 1) := by decide +kernel
theorem dX8_readItems_28 : decode cX8_readItems 28 = .ok (.ifCond .eq 46, 3) := by decide +kernel
theorem dX8_readItems_31 : decode cX8_readItems 31 = .ok (.aload_n 0, 1) := by decide +kernel
theorem dX8_readItems_32 : decode cX8_readItems 32 = .ok (.getfield 154, 3) := by decide +kernel
theorem dX8_readItems_35 : decode cX8_readItems 35 = .ok (.aload_n 0, 1) := by decide +kernel
theorem dX8_readItems_36 : decode cX8_readItems 36 = .ok (.getfield 151, 3) := by decide +kernel
theorem dX8_readItems_39 : decode cX8_readItems 39 = .ok (.if_icmp .ge 35, 3) := by decide +kernel
theorem dX8_readItems_42 : decode cX8_readItems 42 = .ok (.aload_n 0, 1) := by decide +kernel
theorem dX8_readItems_43 : decode cX8_readItems 43 = .ok (.invokevirtual 187, 3) := by decide +kernel
theorem dX8_readItems_46 : decode cX8_readItems 46 = .ok (.pop, 1) := by decide +kernel
theorem dX8_readItems_47 : decode cX8_readItems 47 = .ok (.aload_n 0, 1) := by decide +kernel
theorem dX8_readItems_48 : decode cX8_readItems 48 = .ok (.bipush 59, 2) := by decide +kernel
theorem dX8_readItems_50 : decode cX8_readItems 50 = .ok (.invokevirtual 175, 3) := by decide +kernel
theorem dX8_readItems_53 : decode cX8_readItems 53 = .ok (.pop, 1) := by decide +kernel
theorem dX8_readItems_54 : decode cX8_readItems 54 = .ok (.aload_n 0, 1) := by decide +kernel
theorem dX8_readItems_55 : decode cX8_readItems 55 = .ok (.invokevirtual 194, 3) := by decide +kernel
theorem dX8_readItems_58 : decode cX8_readItems 58 = .ok (.istore_n 2, 1) := by decide +kernel
theorem dX8_readItems_59 : decode cX8_readItems 59 = .ok (.iload_n 1, 1) := by decide +kernel
theorem dX8_readItems_60 : decode cX8_readItems 60 = .ok (.iload_n 2, 1) := by decide +kernel
theorem dX8_readItems_61 : decode cX8_readItems 61 = .ok (.ifCond .eq 7, 3) := by decide +kernel
theorem dX8_readItems_64 : decode cX8_readItems 64 = .ok (.iconst 1, 1) := by decide +kernel
theorem dX8_readItems_65 : decode cX8_readItems 65 = .ok (.goto 4, 3) := by decide +kernel
theorem dX8_readItems_68 : decode cX8_readItems 68 = .ok (.iconst 0, 1) := by decide +kernel
theorem dX8_readItems_69 : decode cX8_readItems 69 = .ok (.iadd, 1) := by decide +kernel
theorem dX8_readItems_70 : decode cX8_readItems 70 = .ok (.istore_n 1, 1) := by decide +kernel
theorem dX8_readItems_71 : decode cX8_readItems 71 = .ok (.goto (-44), 3) := by decide +kernel
theorem dX8_readItems_74 : decode cX8_readItems 74 = .ok (.aload_n 0, 1) := by decide +kernel
theorem dX8_readItems_75 : decode cX8_readItems 75 = .ok (.iconst 0, 1) := by decide +kernel
theorem dX8_readItems_76 : decode cX8_readItems 76 = .ok (.putfield 151, 3) := by decide +kernel
theorem dX8_readItems_79 : decode cX8_readItems 79 = .ok (.iload_n 1, 1) := by decide +kernel
theorem dX8_readItems_80 : decode cX8_readItems 80 = .ok (.ireturn, 1) := by decide +kernel
theorem dX8_undo_0 : decode cX8_undo 0 = .ok (.aload_n 0, 1) := by decide +kernel
theorem dX8_undo_1 : decode cX8_undo 1 = .ok (.getfield 31, 3) := by decide +kernel
theorem dX8_undo_4 : decode cX8_undo 4 = .ok (.ifCond .ne 7, 3) := by decide +kernel
theorem dX8_undo_7 : decode cX8_undo 7 = .ok (.sipush (-1003), 3) := by decide +kernel
theorem dX8_undo_10 : decode cX8_undo 10 = .ok (.ireturn, 1) := by decide +kernel
theorem dX8_undo_11 : decode cX8_undo 11 = .ok (.aload_n 0, 1) := by decide +kernel
theorem dX8_undo_12 : decode cX8_undo 12 = .ok (.dup, 1) := by decide +kernel
theorem dX8_undo_13 : decode cX8_undo 13 = .ok (.getfield 31, 3) := by decide +kernel
theorem dX8_undo_16 : decode cX8_undo 16 = .ok (.iconst 1, 1) := by decide +kernel
theorem dX8_undo_17 : decode cX8_undo 17 = .ok (.isub, 1) := by decide +kernel
theorem dX8_undo_18 : decode cX8_undo 18 = .ok (.putfield 31, 3) := by decide +kernel
theorem dX8_undo_21 : decode cX8_undo 21 = .ok (.aload_n 0, 1) := by decide +kernel
theorem dX8_undo_22 : decode cX8_undo 22 = .ok (.getfield 16, 3) := by decide +kernel
theorem dX8_undo_25 : decode cX8_undo 25 = .ok (.aload_n 0, 1) := by decide +kernel
theorem dX8_undo_26 : decode cX8_undo 26 = .ok (.getfield 31, 3) := by decide +kernel
theorem dX8_undo_29 : decode cX8_undo 29 = .ok (.bipush 80, 2) := by decide +kernel
theorem dX8_undo_31 : decode cX8_undo 31 = .ok (.imul, 1) := by decide +kernel
theorem dX8_undo_32 : decode cX8_undo 32 = .ok (.aload_n 0, 1) := by decide +kernel
theorem dX8_undo_33 : decode cX8_undo 33 = .ok (.getfield 7, 3) := by decide +kernel
theorem dX8_undo_36 : decode cX8_undo 36 = .ok (.iconst 0, 1) := by decide +kernel
theorem dX8_undo_37 : decode cX8_undo 37 = .ok (.invokestatic 35, 3) := by decide +kernel
theorem dX8_undo_40 : decode cX8_undo 40 = .ok (.aload_n 0, 1) := by decide +kernel
theorem dX8_undo_41 : decode cX8_undo 41 = .ok (.getfield 31, 3) := by decide +kernel
theorem dX8_undo_44 : decode cX8_undo 44 = .ok (.ireturn, 1) := by decide +kernel
theorem dX8_digest_0 : decode cX8_digest 0 = .ok (.ldc2_w 197, 3) := by decide +kernel
theorem dX8_digest_3 : decode cX8_digest 3 = .ok (.lstore_n 1, 1) := by decide +kernel
theorem dX8_digest_4 : decode cX8_digest 4 = .ok (.iconst 0, 1) := by decide +kernel
theorem dX8_digest_5 : decode cX8_digest 5 = .ok (.istore_n 3, 1) := by decide +kernel
theorem dX8_digest_6 : decode cX8_digest 6 = .ok (.iload_n 3, 1) := by decide +kernel
theorem dX8_digest_7 : decode cX8_digest 7 = .ok (.bipush 7, 2) := by decide +kernel
theorem dX8_digest_9 : decode cX8_digest 9 = .ok (.if_icmp .gt 23, 3) := by decide +kernel
theorem dX8_digest_12 : decode cX8_digest 12 = .ok (.ldc2_w 199, 3) := by decide +kernel
theorem dX8_digest_15 : decode cX8_digest 15 = .ok (.lload_n 1, 1) := by decide +kernel
theorem dX8_digest_16 : decode cX8_digest 16 = .ok (.lmul, 1) := by decide +kernel
theorem dX8_digest_17 : decode cX8_digest 17 = .ok (.aload_n 0, 1) := by decide +kernel
theorem dX8_digest_18 : decode cX8_digest 18 = .ok (.getfield 7, 3) := by decide +kernel
theorem dX8_digest_21 : decode cX8_digest 21 = .ok (.iload_n 3, 1) := by decide +kernel
theorem dX8_digest_22 : decode cX8_digest 22 = .ok (.iaload, 1) := by decide +kernel
theorem dX8_digest_23 : decode cX8_digest 23 = .ok (.i2l, 1) := by decide +kernel
theorem dX8_digest_24 : decode cX8_digest 24 = .ok (.ladd, 1) := by decide +kernel
theorem dX8_digest_25 : decode cX8_digest 25 = .ok (.lstore_n 1, 1) := by decide +kernel
theorem dX8_digest_26 : decode cX8_digest 26 = .ok (.iinc 3 1, 3) := by decide +kernel
theorem dX8_digest_29 : decode cX8_digest 29 = .ok (.goto (-23), 3) := by decide +kernel
theorem dX8_digest_32 : decode cX8_digest 32 = .ok (.iconst 0, 1) := by decide +kernel
theorem dX8_digest_33 : decode cX8_digest 33 = .ok (.istore_n 3, 1) := by decide +kernel
theorem dX8_digest_34 : decode cX8_digest 34 = .ok (.iload_n 3, 1) := by decide +kernel
theorem dX8_digest_35 : decode cX8_digest 35 = .ok (.aload_n 0, 1) := by decide +kernel
theorem dX8_digest_36 : decode cX8_digest 36 = .ok (.getfield 7, 3) := by decide +kernel
theorem dX8_digest_39 : decode cX8_digest 39 = .ok (.iconst 0, 1) := by decide +kernel
theorem dX8_digest_40 : decode cX8_digest 40 = .ok (.iaload, 1) := by decide +kernel
theorem dX8_digest_41 : decode cX8_digest 41 = .ok (.if_icmp .ge 39, 3) := by decide +kernel
theorem dX8_digest_44 : decode cX8_digest 44 = .ok (.iconst 0, 1) := by decide +kernel
theorem dX8_digest_45 : decode cX8_digest 45 = .ok (.istore 4, 2) := by decide +kernel
theorem dX8_digest_47 : decode cX8_digest 47 = .ok (.iload 4, 2) := by decide +kernel
theorem dX8_digest_49 : decode cX8_digest 49 = .ok (.iconst 5, 1) := by decide +kernel
theorem dX8_digest_50 : decode cX8_digest 50 = .ok (.if_icmp .gt 24, 3) := by decide +kernel
theorem dX8_digest_53 : decode cX8_digest 53 = .ok (.ldc2_w 199, 3) := by decide +kernel
theorem dX8_digest_56 : decode cX8_digest 56 = .ok (.lload_n 1, 1) := by decide +kernel
theorem dX8_digest_57 : decode cX8_digest 57 = .ok (.lmul, 1) := by decide +kernel
theorem dX8_digest_58 : decode cX8_digest 58 = .ok (.aload_n 0, 1) := by decide +kernel
theorem dX8_digest_59 : decode cX8_digest 59 = .ok (.iload_n 3, 1) := by decide +kernel
theorem dX8_digest_60 : decode cX8_digest 60 = .ok (.iload 4, 2) := by decide +kernel
theorem dX8_digest_62 : decode cX8_digest 62 = .ok (.invokevirtual 129, 3) := by decide +kernel
theorem dX8_digest_65 : decode cX8_digest 65 = .ok (.i2l, 1) := by decide +kernel
theorem dX8_digest_66 : decode cX8_digest 66 = .ok (.ladd, 1) := by decide +kernel
theorem dX8_digest_67 : decode cX8_digest 67 = .ok (.lstore_n 1, 1) := by decide +kernel
theorem dX8_digest_68 : decode cX8_digest 68 = .ok (.iinc 4 1, 3) := by decide +kernel
theorem dX8_digest_71 : decode cX8_digest 71 = .ok (.goto (-24), 3) := by decide +kernel
theorem dX8_digest_74 : decode cX8_digest 74 = .ok (.iinc 3 1, 3) := by decide +kernel
theorem dX8_digest_77 : decode cX8_digest 77 = .ok (.goto (-43), 3) := by decide +kernel
theorem dX8_digest_80 : decode cX8_digest 80 = .ok (.iconst 0, 1) := by decide +kernel
theorem dX8_digest_81 : decode cX8_digest 81 = .ok (.istore_n 3, 1) := by decide +kernel
theorem dX8_digest_82 : decode cX8_digest 82 = .ok (.iload_n 3, 1) := by decide +kernel
theorem dX8_digest_83 : decode cX8_digest 83 = .ok (.aload_n 0, 1) := by decide +kernel
theorem dX8_digest_84 : decode cX8_digest 84 = .ok (.getfield 7, 3) := by decide +kernel
theorem dX8_digest_87 : decode cX8_digest 87 = .ok (.iconst 1, 1) := by decide +kernel
theorem dX8_digest_88 : decode cX8_digest 88 = .ok (.iaload, 1) := by decide +kernel
theorem dX8_digest_89 : decode cX8_digest 89 = .ok (.if_icmp .ge 39, 3) := by decide +kernel
theorem dX8_digest_92 : decode cX8_digest 92 = .ok (.iconst 0, 1) := by decide +kernel
theorem dX8_digest_93 : decode cX8_digest 93 = .ok (.istore 4, 2) := by decide +kernel
theorem dX8_digest_95 : decode cX8_digest 95 = .ok (.iload 4, 2) := by decide +kernel
theorem dX8_digest_97 : decode cX8_digest 97 = .ok (.iconst 4, 1) := by decide +kernel
theorem dX8_digest_98 : decode cX8_digest 98 = .ok (.if_icmp .gt 24, 3) := by decide +kernel
theorem dX8_digest_101 : decode cX8_digest 101 = .ok (.ldc2_w 199, 3) := by decide +kernel
theorem dX8_digest_104 : decode cX8_digest 104 = .ok (.lload_n 1, 1) := by decide +kernel
theorem dX8_digest_105 : decode cX8_digest 105 = .ok (.lmul, 1) := by decide +kernel
theorem dX8_digest_106 : decode cX8_digest 106 = .ok (.aload_n 0, 1) := by decide +kernel
theorem dX8_digest_107 : decode cX8_digest 107 = .ok (.iload_n 3, 1) := by decide +kernel
theorem dX8_digest_108 : decode cX8_digest 108 = .ok (.iload 4, 2) := by decide +kernel
theorem dX8_digest_110 : decode cX8_digest 110 = .ok (.invokevirtual 138, 3) := by decide +kernel
theorem dX8_digest_113 : decode cX8_digest 113 = .ok (.i2l, 1) := by decide +kernel
theorem dX8_digest_114 : decode cX8_digest 114 = .ok (.ladd, 1) := by decide +kernel
theorem dX8_digest_115 : decode cX8_digest 115 = .ok (.lstore_n 1, 1) := by decide +kernel
theorem dX8_digest_116 : decode cX8_digest 116 = .ok (.iinc 4 1, 3) := by decide +kernel
theorem dX8_digest_119 : decode cX8_digest 119 = .ok (.goto (-24), 3) := by decide +kernel
theorem dX8_digest_122 : decode cX8_digest 122 = .ok (.iinc 3 1, 3) := by decide +kernel
theorem dX8_digest_125 : decode cX8_digest 125 = .ok (.goto (-43), 3) := by decide +kernel
theorem dX8_digest_128 : decode cX8_digest 128 = .ok (.iconst 0, 1) := by decide +kernel
theorem dX8_digest_129 : decode cX8_digest 129 = .ok (.istore_n 3, 1) := by decide +kernel
theorem dX8_digest_130 : decode cX8_digest 130 = .ok (.iload_n 3, 1) := by decide +kernel
theorem dX8_digest_131 : decode cX8_digest 131 = .ok (.iconst 3, 1) := by decide +kernel
theorem dX8_digest_132 : decode cX8_digest 132 = .ok (.if_icmp .ge 22, 3) := by decide +kernel
theorem dX8_digest_135 : decode cX8_digest 135 = .ok (.ldc2_w 199, 3) := by decide +kernel
theorem dX8_digest_138 : decode cX8_digest 138 = .ok (.lload_n 1, 1) := by decide +kernel
theorem dX8_digest_139 : decode cX8_digest 139 = .ok (.lmul, 1) := by decide +kernel
theorem dX8_digest_140 : decode cX8_digest 140 = .ok (.aload_n 0, 1) := by decide +kernel
theorem dX8_digest_141 : decode cX8_digest 141 = .ok (.iload_n 3, 1) := by decide +kernel
theorem dX8_digest_142 : decode cX8_digest 142 = .ok (.invokevirtual 141, 3) := by decide +kernel
theorem dX8_digest_145 : decode cX8_digest 145 = .ok (.i2l, 1) := by decide +kernel
theorem dX8_digest_146 : decode cX8_digest 146 = .ok (.ladd, 1) := by decide +kernel
theorem dX8_digest_147 : decode cX8_digest 147 = .ok (.lstore_n 1, 1) := by decide +kernel
theorem dX8_digest_148 : decode cX8_digest 148 = .ok (.iinc 3 1, 3) := by decide +kernel
theorem dX8_digest_151 : decode cX8_digest 151 = .ok (.goto (-21), 3) := by decide +kernel
theorem dX8_digest_154 : decode cX8_digest 154 = .ok (.ldc2_w 199, 3) := by decide +kernel
theorem dX8_digest_157 : decode cX8_digest 157 = .ok (.lload_n 1, 1) := by decide +kernel
theorem dX8_digest_158 : decode cX8_digest 158 = .ok (.lmul, 1) := by decide +kernel
theorem dX8_digest_159 : decode cX8_digest 159 = .ok (.aload_n 0, 1) := by decide +kernel
theorem dX8_digest_160 : decode cX8_digest 160 = .ok (.invokevirtual 144, 3) := by decide +kernel
theorem dX8_digest_163 : decode cX8_digest 163 = .ok (.i2l, 1) := by decide +kernel
theorem dX8_digest_164 : decode cX8_digest 164 = .ok (.ladd, 1) := by decide +kernel
theorem dX8_digest_165 : decode cX8_digest 165 = .ok (.lstore_n 1, 1) := by decide +kernel
theorem dX8_digest_166 : decode cX8_digest 166 = .ok (.iconst 0, 1) := by decide +kernel
theorem dX8_digest_167 : decode cX8_digest 167 = .ok (.istore_n 3, 1) := by decide +kernel
theorem dX8_digest_168 : decode cX8_digest 168 = .ok (.iload_n 3, 1) := by decide +kernel
theorem dX8_digest_169 : decode cX8_digest 169 = .ok (.aload_n 0, 1) := by decide +kernel
theorem dX8_digest_170 : decode cX8_digest 170 = .ok (.getfield 7, 3) := by decide +kernel
theorem dX8_digest_173 : decode cX8_digest 173 = .ok (.iconst 0, 1) := by decide +kernel
theorem dX8_digest_174 : decode cX8_digest 174 = .ok (.iaload, 1) := by decide +kernel
theorem dX8_digest_175 : decode cX8_digest 175 = .ok (.if_icmp .ge 36, 3) := by decide +kernel
theorem dX8_digest_178 : decode cX8_digest 178 = .ok (.ldc2_w 199, 3) := by decide +kernel
theorem dX8_digest_181 : decode cX8_digest 181 = .ok (.lload_n 1, 1) := by decide +kernel
theorem dX8_digest_182 : decode cX8_digest 182 = .ok (.lmul, 1) := by decide +kernel
theorem dX8_digest_183 : decode cX8_digest 183 = .ok (.aload_n 0, 1) := by decide +kernel
theorem dX8_digest_184 : decode cX8_digest 184 = .ok (.iload_n 3, 1) := by decide +kernel
theorem dX8_digest_185 : decode cX8_digest 185 = .ok (.invokevirtual 56, 3) := by decide +kernel
theorem dX8_digest_188 : decode cX8_digest 188 = .ok (.ifCond .eq 11, 3) := by decide +kernel
theorem dX8_digest_191 : decode cX8_digest 191 = .ok (.aload_n 0, 1) := by decide +kernel
theorem dX8_digest_192 : decode cX8_digest 192 = .ok (.iload_n 3, 1) := by decide +kernel
theorem dX8_digest_193 : decode cX8_digest 193 = .ok (.invokevirtual 148, 3) := by decide +kernel
theorem dX8_digest_196 : decode cX8_digest 196 = .ok (.goto 6, 3) := by decide +kernel
theorem dX8_digest_199 : decode cX8_digest 199 = .ok (.sipush (-1003), 3) := by decide +kernel
theorem dX8_digest_202 : decode cX8_digest 202 = .ok (.i2l, 1) := by decide +kernel
theorem dX8_digest_203 : decode cX8_digest 203 = .ok (.ladd, 1) := by decide +kernel
theorem dX8_digest_204 : decode cX8_digest 204 = .ok (.lstore_n 1, 1) := by decide +kernel
theorem dX8_digest_205 : decode cX8_digest 205 = .ok (.iinc 3 1, 3) := by decide +kernel
theorem dX8_digest_208 : decode cX8_digest 208 = .ok (.goto (-40), 3) := by decide +kernel
theorem dX8_digest_211 : decode cX8_digest 211 = .ok (.lload_n 1, 1) := by decide +kernel
theorem dX8_digest_212 : decode cX8_digest 212 = .ok (.lreturn, 1) := by decide +kernel
theorem dJ6_bitCount_0f7a4_0 : decode cJ6_bitCount_0f7a4 0 = .ok (.iload_n 0, 1) := by decide +kernel
theorem dJ6_bitCount_0f7a4_1 : decode cJ6_bitCount_0f7a4 1 = .ok (.iload_n 0, 1) := by decide +kernel
theorem dJ6_bitCount_0f7a4_2 : decode cJ6_bitCount_0f7a4 2 = .ok (.iconst 1, 1) := by decide +kernel
theorem dJ6_bitCount_0f7a4_3 : decode cJ6_bitCount_0f7a4 3 = .ok (.iushr, 1) := by decide +kernel
theorem dJ6_bitCount_0f7a4_4 : decode cJ6_bitCount_0f7a4 4 = .ok (.ldc_w 265, 3) := by decide +kernel
theorem dJ6_bitCount_0f7a4_7 : decode cJ6_bitCount_0f7a4 7 = .ok (.iand, 1) := by decide +kernel
theorem dJ6_bitCount_0f7a4_8 : decode cJ6_bitCount_0f7a4 8 = .ok (.isub, 1) := by decide +kernel
theorem dJ6_bitCount_0f7a4_9 : decode cJ6_bitCount_0f7a4 9 = .ok (.istore_n 0, 1) := by decide +kernel
theorem dJ6_bitCount_0f7a4_10 : decode cJ6_bitCount_0f7a4 10 = .ok (.iload_n 0, 1) := by decide +kernel
theorem dJ6_bitCount_0f7a4_11 : decode cJ6_bitCount_0f7a4 11 = .ok (.ldc_w 266, 3) := by decide +kernel
theorem dJ6_bitCount_0f7a4_14 : decode cJ6_bitCount_0f7a4 14 = .ok (.iand, 1) := by decide +kernel
theorem dJ6_bitCount_0f7a4_15 : decode cJ6_bitCount_0f7a4 15 = .ok (.iload_n 0, 1) := by decide +kernel
theorem dJ6_bitCount_0f7a4_16 : decode cJ6_bitCount_0f7a4 16 = .ok (.iconst 2, 1) := by decide +kernel
theorem dJ6_bitCount_0f7a4_17 : decode cJ6_bitCount_0f7a4 17 = .ok (.iushr, 1) := by decide +kernel
theorem dJ6_bitCount_0f7a4_18 : decode cJ6_bitCount_0f7a4 18 = .ok (.ldc_w 266, 3) := by decide +kernel
theorem dJ6_bitCount_0f7a4_21 : decode cJ6_bitCount_0f7a4 21 = .ok (.iand, 1) := by decide +kernel
theorem dJ6_bitCount_0f7a4_22 : decode cJ6_bitCount_0f7a4 22 = .ok (.iadd, 1) := by decide +kernel
theorem dJ6_bitCount_0f7a4_23 : decode cJ6_bitCount_0f7a4 23 = .ok (.istore_n 0, 1) := by decide +kernel
theorem dJ6_bitCount_0f7a4_24 : decode cJ6_bitCount_0f7a4 24 = .ok (.iload_n 0, 1) := by decide +kernel
theorem dJ6_bitCount_0f7a4_25 : decode cJ6_bitCount_0f7a4 25 = .ok (.iload_n 0, 1) := by decide +kernel
theorem dJ6_bitCount_0f7a4_26 : decode cJ6_bitCount_0f7a4 26 = .ok (.iconst 4, 1) := by decide +kernel
theorem dJ6_bitCount_0f7a4_27 : decode cJ6_bitCount_0f7a4 27 = .ok (.iushr, 1) := by decide +kernel
theorem dJ6_bitCount_0f7a4_28 : decode cJ6_bitCount_0f7a4 28 = .ok (.iadd, 1) := by decide +kernel
theorem dJ6_bitCount_0f7a4_29 : decode cJ6_bitCount_0f7a4 29 = .ok (.ldc_w 267, 3) := by decide +kernel
theorem dJ6_bitCount_0f7a4_32 : decode cJ6_bitCount_0f7a4 32 = .ok (.iand, 1) := by decide +kernel
theorem dJ6_bitCount_0f7a4_33 : decode cJ6_bitCount_0f7a4 33 = .ok (.istore_n 0, 1) := by decide +kernel
theorem dJ6_bitCount_0f7a4_34 : decode cJ6_bitCount_0f7a4 34 = .ok (.iload_n 0, 1) := by decide +kernel
theorem dJ6_bitCount_0f7a4_35 : decode cJ6_bitCount_0f7a4 35 = .ok (.iload_n 0, 1) := by decide +kernel
theorem dJ6_bitCount_0f7a4_36 : decode cJ6_bitCount_0f7a4 36 = .ok (.bipush 8, 2) := by decide +kernel
theorem dJ6_bitCount_0f7a4_38 : decode cJ6_bitCount_0f7a4 38 = .ok (.iushr, 1) := by decide +kernel
theorem dJ6_bitCount_0f7a4_39 : decode cJ6_bitCount_0f7a4 39 = .ok (.iadd, 1) := by decide +kernel
theorem dJ6_bitCount_0f7a4_40 : decode cJ6_bitCount_0f7a4 40 = .ok (.istore_n 0, 1) := by decide +kernel
theorem dJ6_bitCount_0f7a4_41 : decode cJ6_bitCount_0f7a4 41 = .ok (.iload_n 0, 1) := by decide +kernel
theorem dJ6_bitCount_0f7a4_42 : decode cJ6_bitCount_0f7a4 42 = .ok (.iload_n 0, 1) := by decide +kernel
theorem dJ6_bitCount_0f7a4_43 : decode cJ6_bitCount_0f7a4 43 = .ok (.bipush 16, 2) := by decide +kernel
theorem dJ6_bitCount_0f7a4_45 : decode cJ6_bitCount_0f7a4 45 = .ok (.iushr, 1) := by decide +kernel
theorem dJ6_bitCount_0f7a4_46 : decode cJ6_bitCount_0f7a4 46 = .ok (.iadd, 1) := by decide +kernel
theorem dJ6_bitCount_0f7a4_47 : decode cJ6_bitCount_0f7a4 47 = .ok (.istore_n 0, 1) := by decide +kernel
theorem dJ6_bitCount_0f7a4_48 : decode cJ6_bitCount_0f7a4 48 = .ok (.iload_n 0, 1) := by decide +kernel
theorem dJ6_bitCount_0f7a4_49 : decode cJ6_bitCount_0f7a4 49 = .ok (.bipush 63, 2) := by decide +kernel
theorem dJ6_bitCount_0f7a4_51 : decode cJ6_bitCount_0f7a4 51 = .ok (.iand, 1) := by decide +kernel
theorem dJ6_bitCount_0f7a4_52 : decode cJ6_bitCount_0f7a4 52 = .ok (.ireturn, 1) := by decide +kernel
theorem dJ9_max_7cf53_0 : decode cJ9_max_7cf53 0 = .ok (.iload_n 0, 1) := by decide +kernel
theorem dJ9_max_7cf53_1 : decode cJ9_max_7cf53 1 = .ok (.iload_n 1, 1) := by decide +kernel
theorem dJ9_max_7cf53_2 : decode cJ9_max_7cf53 2 = .ok (.if_icmp .lt 7, 3) := by decide +kernel
theorem dJ9_max_7cf53_5 : decode cJ9_max_7cf53 5 = .ok (.iload_n 0, 1) := by decide +kernel
theorem dJ9_max_7cf53_6 : decode cJ9_max_7cf53 6 = .ok (.goto 4, 3) := by decide +kernel
theorem dJ9_max_7cf53_9 : decode cJ9_max_7cf53 9 = .ok (.iload_n 1, 1) := by decide +kernel
theorem dJ9_max_7cf53_10 : decode cJ9_max_7cf53 10 = .ok (.ireturn, 1) := by decide +kernel
theorem dJ9_min_7cf53_0 : decode cJ9_min_7cf53 0 = .ok (.iload_n 0, 1) := by decide +kernel
theorem dJ9_min_7cf53_1 : decode cJ9_min_7cf53 1 = .ok (.iload_n 1, 1) := by decide +kernel
theorem dJ9_min_7cf53_2 : decode cJ9_min_7cf53 2 = .ok (.if_icmp .gt 7, 3) := by decide +kernel
theorem dJ9_min_7cf53_5 : decode cJ9_min_7cf53 5 = .ok (.iload_n 0, 1) := by decide +kernel
theorem dJ9_min_7cf53_6 : decode cJ9_min_7cf53 6 = .ok (.goto 4, 3) := by decide +kernel
theorem dJ9_min_7cf53_9 : decode cJ9_min_7cf53 9 = .ok (.iload_n 1, 1) := by decide +kernel
theorem dJ9_min_7cf53_10 : decode cJ9_min_7cf53 10 = .ok (.ireturn, 1) := by decide +kernel
theorem dL_law_0 : decode cL_law 0 = .ok (.new 7, 3) := by decide +kernel
theorem dL_law_3 : decode cL_law 3 = .ok (.dup, 1) := by decide +kernel
theorem dL_law_4 : decode cL_law 4 = .ok (.invokespecial 9, 3) := by decide +kernel
theorem dL_law_7 : decode cL_law 7 = .ok (.astore_n 1, 1) := by decide +kernel
theorem dL_law_8 : decode cL_law 8 = .ok (.new 10, 3) := by decide +kernel
theorem dL_law_11 : decode cL_law 11 = .ok (.dup, 1) := by decide +kernel
theorem dL_law_12 : decode cL_law 12 = .ok (.invokespecial 12, 3) := by decide +kernel
theorem dL_law_15 : decode cL_law 15 = .ok (.astore_n 2, 1) := by decide +kernel
theorem dL_law_16 : decode cL_law 16 = .ok (.iconst 0, 1) := by decide +kernel
theorem dL_law_17 : decode cL_law 17 = .ok (.istore_n 3, 1) := by decide +kernel
theorem dL_law_18 : decode cL_law 18 = .ok (.iload_n 3, 1) := by decide +kernel
theorem dL_law_19 : decode cL_law 19 = .ok (.aload_n 0, 1) := by decide +kernel
theorem dL_law_20 : decode cL_law 20 = .ok (.arraylength, 1) := by decide +kernel
theorem dL_law_21 : decode cL_law 21 = .ok (.iconst 5, 1) := by decide +kernel
theorem dL_law_22 : decode cL_law 22 = .ok (.isub, 1) := by decide +kernel
theorem dL_law_23 : decode cL_law 23 = .ok (.if_icmp .gt 669, 3) := by decide +kernel
theorem dL_law_26 : decode cL_law 26 = .ok (.aload_n 0, 1) := by decide +kernel
theorem dL_law_27 : decode cL_law 27 = .ok (.iload_n 3, 1) := by decide +kernel
theorem dL_law_28 : decode cL_law 28 = .ok (.iaload, 1) := by decide +kernel
theorem dL_law_29 : decode cL_law 29 = .ok (.bipush 31, 2) := by decide +kernel
theorem dL_law_31 : decode cL_law 31 = .ok (.iand, 1) := by decide +kernel
theorem dL_law_32 : decode cL_law 32 = .ok (.tableswitch 654 0 20 #[100, 153, 196, 239, 252, 295, 308, 331, 364, 397, 430, 453, 466, 519, 542, 565, 588, 601, 614, 627, 640], 100) := by decide +kernel
theorem dL_law_132 : decode cL_law 132 = .ok (.aload_n 1, 1) := by decide +kernel
theorem dL_law_133 : decode cL_law 133 = .ok (.aload_n 0, 1) := by decide +kernel
theorem dL_law_134 : decode cL_law 134 = .ok (.iload_n 3, 1) := by decide +kernel
theorem dL_law_135 : decode cL_law 135 = .ok (.iconst 1, 1) := by decide +kernel
theorem dL_law_136 : decode cL_law 136 = .ok (.iadd, 1) := by decide +kernel
theorem dL_law_137 : decode cL_law 137 = .ok (.iaload, 1) := by decide +kernel
theorem dL_law_138 : decode cL_law 138 = .ok (.aload_n 0, 1) := by decide +kernel
theorem dL_law_139 : decode cL_law 139 = .ok (.iload_n 3, 1) := by decide +kernel
theorem dL_law_140 : decode cL_law 140 = .ok (.iconst 2, 1) := by decide +kernel
theorem dL_law_141 : decode cL_law 141 = .ok (.iadd, 1) := by decide +kernel
theorem dL_law_142 : decode cL_law 142 = .ok (.iaload, 1) := by decide +kernel
theorem dL_law_143 : decode cL_law 143 = .ok (.aload_n 0, 1) := by decide +kernel
theorem dL_law_144 : decode cL_law 144 = .ok (.iload_n 3, 1) := by decide +kernel
theorem dL_law_145 : decode cL_law 145 = .ok (.iconst 3, 1) := by decide +kernel
theorem dL_law_146 : decode cL_law 146 = .ok (.iadd, 1) := by decide +kernel
theorem dL_law_147 : decode cL_law 147 = .ok (.iaload, 1) := by decide +kernel
theorem dL_law_148 : decode cL_law 148 = .ok (.aload_n 0, 1) := by decide +kernel
theorem dL_law_149 : decode cL_law 149 = .ok (.iload_n 3, 1) := by decide +kernel
theorem dL_law_150 : decode cL_law 150 = .ok (.iconst 4, 1) := by decide +kernel
theorem dL_law_151 : decode cL_law 151 = .ok (.iadd, 1) := by decide +kernel
theorem dL_law_152 : decode cL_law 152 = .ok (.iaload, 1) := by decide +kernel
theorem dL_law_153 : decode cL_law 153 = .ok (.invokevirtual 13, 3) := by decide +kernel
theorem dL_law_156 : decode cL_law 156 = .ok (.aload_n 2, 1) := by decide +kernel
theorem dL_law_157 : decode cL_law 157 = .ok (.aload_n 0, 1) := by decide +kernel
theorem dL_law_158 : decode cL_law 158 = .ok (.iload_n 3, 1) := by decide +kernel
theorem dL_law_159 : decode cL_law 159 = .ok (.iconst 1, 1) := by decide +kernel
theorem dL_law_160 : decode cL_law 160 = .ok (.iadd, 1) := by decide +kernel
theorem dL_law_161 : decode cL_law 161 = .ok (.iaload, 1) := by decide +kernel
theorem dL_law_162 : decode cL_law 162 = .ok (.aload_n 0, 1) := by decide +kernel
theorem dL_law_163 : decode cL_law 163 = .ok (.iload_n 3, 1) := by decide +kernel
theorem dL_law_164 : decode cL_law 164 = .ok (.iconst 2, 1) := by decide +kernel
theorem dL_law_165 : decode cL_law 165 = .ok (.iadd, 1) := by decide +kernel
theorem dL_law_166 : decode cL_law 166 = .ok (.iaload, 1) := by decide +kernel
theorem dL_law_167 : decode cL_law 167 = .ok (.aload_n 0, 1) := by decide +kernel
theorem dL_law_168 : decode cL_law 168 = .ok (.iload_n 3, 1) := by decide +kernel
theorem dL_law_169 : decode cL_law 169 = .ok (.iconst 3, 1) := by decide +kernel
theorem dL_law_170 : decode cL_law 170 = .ok (.iadd, 1) := by decide +kernel
theorem dL_law_171 : decode cL_law 171 = .ok (.iaload, 1) := by decide +kernel
theorem dL_law_172 : decode cL_law 172 = .ok (.aload_n 0, 1) := by decide +kernel
theorem dL_law_173 : decode cL_law 173 = .ok (.iload_n 3, 1) := by decide +kernel
theorem dL_law_174 : decode cL_law 174 = .ok (.iconst 4, 1) := by decide +kernel
theorem dL_law_175 : decode cL_law 175 = .ok (.iadd, 1) := by decide +kernel
theorem dL_law_176 : decode cL_law 176 = .ok (.iaload, 1) := by decide +kernel
theorem dL_law_177 : decode cL_law 177 = .ok (.invokevirtual 17, 3) := by decide +kernel
theorem dL_law_180 : decode cL_law 180 = .ok (.if_icmp .eq 506, 3) := by decide +kernel
theorem dL_law_183 : decode cL_law 183 = .ok (.iconst 0, 1) := by decide +kernel
theorem dL_law_184 : decode cL_law 184 = .ok (.ireturn, 1) := by decide +kernel
theorem dL_law_185 : decode cL_law 185 = .ok (.aload_n 1, 1) := by decide +kernel
theorem dL_law_186 : decode cL_law 186 = .ok (.aload_n 0, 1) := by decide +kernel
theorem dL_law_187 : decode cL_law 187 = .ok (.iload_n 3, 1) := by decide +kernel
theorem dL_law_188 : decode cL_law 188 = .ok (.iconst 1, 1) := by decide +kernel
theorem dL_law_189 : decode cL_law 189 = .ok (.iadd, 1) := by decide +kernel
theorem dL_law_190 : decode cL_law 190 = .ok (.iaload, 1) := by decide +kernel
theorem dL_law_191 : decode cL_law 191 = .ok (.aload_n 0, 1) := by decide +kernel
theorem dL_law_192 : decode cL_law 192 = .ok (.iload_n 3, 1) := by decide +kernel
theorem dL_law_193 : decode cL_law 193 = .ok (.iconst 2, 1) := by decide +kernel
theorem dL_law_194 : decode cL_law 194 = .ok (.iadd, 1) := by decide +kernel
theorem dL_law_195 : decode cL_law 195 = .ok (.iaload, 1) := by decide +kernel
theorem dL_law_196 : decode cL_law 196 = .ok (.aload_n 0, 1) := by decide +kernel
theorem dL_law_197 : decode cL_law 197 = .ok (.iload_n 3, 1) := by decide +kernel
theorem dL_law_198 : decode cL_law 198 = .ok (.iconst 3, 1) := by decide +kernel
theorem dL_law_199 : decode cL_law 199 = .ok (.iadd, 1) := by decide +kernel
theorem dL_law_200 : decode cL_law 200 = .ok (.iaload, 1) := by decide +kernel
theorem dL_law_201 : decode cL_law 201 = .ok (.invokevirtual 18, 3) := by decide +kernel
theorem dL_law_204 : decode cL_law 204 = .ok (.aload_n 2, 1) := by decide +kernel
theorem dL_law_205 : decode cL_law 205 = .ok (.aload_n 0, 1) := by decide +kernel
theorem dL_law_206 : decode cL_law 206 = .ok (.iload_n 3, 1) := by decide +kernel
theorem dL_law_207 : decode cL_law 207 = .ok (.iconst 1, 1) := by decide +kernel
theorem dL_law_208 : decode cL_law 208 = .ok (.iadd, 1) := by decide +kernel
theorem dL_law_209 : decode cL_law 209 = .ok (.iaload, 1) := by decide +kernel
theorem dL_law_210 : decode cL_law 210 = .ok (.aload_n 0, 1) := by decide +kernel
theorem dL_law_211 : decode cL_law 211 = .ok (.iload_n 3, 1) := by decide +kernel
theorem dL_law_212 : decode cL_law 212 = .ok (.iconst 2, 1) := by decide +kernel
theorem dL_law_213 : decode cL_law 213 = .ok (.iadd, 1) := by decide +kernel
theorem dL_law_214 : decode cL_law 214 = .ok (.iaload, 1) := by decide +kernel
theorem dL_law_215 : decode cL_law 215 = .ok (.aload_n 0, 1) := by decide +kernel
theorem dL_law_216 : decode cL_law 216 = .ok (.iload_n 3, 1) := by decide +kernel
theorem dL_law_217 : decode cL_law 217 = .ok (.iconst 3, 1) := by decide +kernel
theorem dL_law_218 : decode cL_law 218 = .ok (.iadd, 1) := by decide +kernel
theorem dL_law_219 : decode cL_law 219 = .ok (.iaload, 1) := by decide +kernel
theorem dL_law_220 : decode cL_law 220 = .ok (.invokevirtual 22, 3) := by decide +kernel
theorem dL_law_223 : decode cL_law 223 = .ok (.if_icmp .eq 463, 3) := by decide +kernel
theorem dL_law_226 : decode cL_law 226 = .ok (.iconst 0, 1) := by decide +kernel
theorem dL_law_227 : decode cL_law 227 = .ok (.ireturn, 1) := by decide +kernel
theorem dL_law_228 : decode cL_law 228 = .ok (.aload_n 1, 1) := by decide +kernel
theorem dL_law_229 : decode cL_law 229 = .ok (.aload_n 0, 1) := by decide +kernel
theorem dL_law_230 : decode cL_law 230 = .ok (.iload_n 3, 1) := by decide +kernel
theorem dL_law_231 : decode cL_law 231 = .ok (.iconst 1, 1) := by decide +kernel
theorem dL_law_232 : decode cL_law 232 = .ok (.iadd, 1) := by decide +kernel
theorem dL_law_233 : decode cL_law 233 = .ok (.iaload, 1) := by decide +kernel
theorem dL_law_234 : decode cL_law 234 = .ok (.aload_n 0, 1) := by decide +kernel
theorem dL_law_235 : decode cL_law 235 = .ok (.iload_n 3, 1) := by decide +kernel
theorem dL_law_236 : decode cL_law 236 = .ok (.iconst 2, 1) := by decide +kernel
theorem dL_law_237 : decode cL_law 237 = .ok (.iadd, 1) := by decide +kernel
theorem dL_law_238 : decode cL_law 238 = .ok (.iaload, 1) := by decide +kernel
theorem dL_law_239 : decode cL_law 239 = .ok (.aload_n 0, 1) := by decide +kernel
theorem dL_law_240 : decode cL_law 240 = .ok (.iload_n 3, 1) := by decide +kernel
theorem dL_law_241 : decode cL_law 241 = .ok (.iconst 3, 1) := by decide +kernel
theorem dL_law_242 : decode cL_law 242 = .ok (.iadd, 1) := by decide +kernel
theorem dL_law_243 : decode cL_law 243 = .ok (.iaload, 1) := by decide +kernel
theorem dL_law_244 : decode cL_law 244 = .ok (.invokevirtual 23, 3) := by decide +kernel
theorem dL_law_247 : decode cL_law 247 = .ok (.aload_n 2, 1) := by decide +kernel
theorem dL_law_248 : decode cL_law 248 = .ok (.aload_n 0, 1) := by decide +kernel
theorem dL_law_249 : decode cL_law 249 = .ok (.iload_n 3, 1) := by decide +kernel
theorem dL_law_250 : decode cL_law 250 = .ok (.iconst 1, 1) := by decide +kernel
theorem dL_law_251 : decode cL_law 251 = .ok (.iadd, 1) := by decide +kernel
theorem dL_law_252 : decode cL_law 252 = .ok (.iaload, 1) := by decide +kernel
theorem dL_law_253 : decode cL_law 253 = .ok (.aload_n 0, 1) := by decide +kernel
theorem dL_law_254 : decode cL_law 254 = .ok (.iload_n 3, 1) := by decide +kernel
theorem dL_law_255 : decode cL_law 255 = .ok (.iconst 2, 1) := by decide +kernel
theorem dL_law_256 : decode cL_law 256 = .ok (.iadd, 1) := by decide +kernel
theorem dL_law_257 : decode cL_law 257 = .ok (.iaload, 1) := by decide +kernel
theorem dL_law_258 : decode cL_law 258 = .ok (.aload_n 0, 1) := by decide +kernel
theorem dL_law_259 : decode cL_law 259 = .ok (.iload_n 3, 1) := by decide +kernel
theorem dL_law_260 : decode cL_law 260 = .ok (.iconst 3, 1) := by decide +kernel
theorem dL_law_261 : decode cL_law 261 = .ok (.iadd, 1) := by decide +kernel
theorem dL_law_262 : decode cL_law 262 = .ok (.iaload, 1) := by decide +kernel
theorem dL_law_263 : decode cL_law 263 = .ok (.invokevirtual 26, 3) := by decide +kernel
theorem dL_law_266 : decode cL_law 266 = .ok (.if_icmp .eq 420, 3) := by decide +kernel
theorem dL_law_269 : decode cL_law 269 = .ok (.iconst 0, 1) := by decide +kernel
theorem dL_law_270 : decode cL_law 270 = .ok (.ireturn, 1) := by decide +kernel
theorem dL_law_271 : decode cL_law 271 = .ok (.aload_n 1, 1) := by decide +kernel
theorem dL_law_272 : decode cL_law 272 = .ok (.invokevirtual 27, 3) := by decide +kernel
theorem dL_law_275 : decode cL_law 275 = .ok (.aload_n 2, 1) := by decide +kernel
theorem dL_law_276 : decode cL_law 276 = .ok (.invokevirtual 31, 3) := by decide +kernel
theorem dL_law_279 : decode cL_law 279 = .ok (.if_icmp .eq 407, 3) := by decide +kernel
theorem dL_law_282 : decode cL_law 282 = .ok (.iconst 0, 1) := by decide +kernel
theorem dL_law_283 : decode cL_law 283 = .ok (.ireturn, 1) := by decide +kernel
theorem dL_law_284 : decode cL_law 284 = .ok (.aload_n 1, 1) := by decide +kernel
theorem dL_law_285 : decode cL_law 285 = .ok (.aload_n 0, 1) := by decide +kernel
theorem dL_law_286 : decode cL_law 286 = .ok (.iload_n 3, 1) := by decide +kernel
theorem dL_law_287 : decode cL_law 287 = .ok (.iconst 1, 1) := by decide +kernel
theorem dL_law_288 : decode cL_law 288 = .ok (.iadd, 1) := by decide +kernel
theorem dL_law_289 : decode cL_law 289 = .ok (.iaload, 1) := by decide +kernel
theorem dL_law_290 : decode cL_law 290 = .ok (.aload_n 0, 1) := by decide +kernel
theorem dL_law_291 : decode cL_law 291 = .ok (.iload_n 3, 1) := by decide +kernel
theorem dL_law_292 : decode cL_law 292 = .ok (.iconst 2, 1) := by decide +kernel
theorem dL_law_293 : decode cL_law 293 = .ok (.iadd, 1) := by decide +kernel
theorem dL_law_294 : decode cL_law 294 = .ok (.iaload, 1) := by decide +kernel
theorem dL_law_295 : decode cL_law 295 = .ok (.aload_n 0, 1) := by decide +kernel
theorem dL_law_296 : decode cL_law 296 = .ok (.iload_n 3, 1) := by decide +kernel
theorem dL_law_297 : decode cL_law 297 = .ok (.iconst 3, 1) := by decide +kernel
theorem dL_law_298 : decode cL_law 298 = .ok (.iadd, 1) := by decide +kernel
theorem dL_law_299 : decode cL_law 299 = .ok (.iaload, 1) := by decide +kernel
theorem dL_law_300 : decode cL_law 300 = .ok (.invokevirtual 32, 3) := by decide +kernel
theorem dL_law_303 : decode cL_law 303 = .ok (.aload_n 2, 1) := by decide +kernel
theorem dL_law_304 : decode cL_law 304 = .ok (.aload_n 0, 1) := by decide +kernel
theorem dL_law_305 : decode cL_law 305 = .ok (.iload_n 3, 1) := by decide +kernel
theorem dL_law_306 : decode cL_law 306 = .ok (.iconst 1, 1) := by decide +kernel
theorem dL_law_307 : decode cL_law 307 = .ok (.iadd, 1) := by decide +kernel
theorem dL_law_308 : decode cL_law 308 = .ok (.iaload, 1) := by decide +kernel
theorem dL_law_309 : decode cL_law 309 = .ok (.aload_n 0, 1) := by decide +kernel
theorem dL_law_310 : decode cL_law 310 = .ok (.iload_n 3, 1) := by decide +kernel
theorem dL_law_311 : decode cL_law 311 = .ok (.iconst 2, 1) := by decide +kernel
theorem dL_law_312 : decode cL_law 312 = .ok (.iadd, 1) := by decide +kernel
theorem dL_law_313 : decode cL_law 313 = .ok (.iaload, 1) := by decide +kernel
theorem dL_law_314 : decode cL_law 314 = .ok (.aload_n 0, 1) := by decide +kernel
theorem dL_law_315 : decode cL_law 315 = .ok (.iload_n 3, 1) := by decide +kernel
theorem dL_law_316 : decode cL_law 316 = .ok (.iconst 3, 1) := by decide +kernel
theorem dL_law_317 : decode cL_law 317 = .ok (.iadd, 1) := by decide +kernel
theorem dL_law_318 : decode cL_law 318 = .ok (.iaload, 1) := by decide +kernel
theorem dL_law_319 : decode cL_law 319 = .ok (.invokevirtual 35, 3) := by decide +kernel
theorem dL_law_322 : decode cL_law 322 = .ok (.if_icmp .eq 364, 3) := by decide +kernel
theorem dL_law_325 : decode cL_law 325 = .ok (.iconst 0, 1) := by decide +kernel
theorem dL_law_326 : decode cL_law 326 = .ok (.ireturn, 1) := by decide +kernel
theorem dL_law_327 : decode cL_law 327 = .ok (.aload_n 1, 1) := by decide +kernel
theorem dL_law_328 : decode cL_law 328 = .ok (.invokevirtual 36, 3) := by decide +kernel
theorem dL_law_331 : decode cL_law 331 = .ok (.aload_n 2, 1) := by decide +kernel
theorem dL_law_332 : decode cL_law 332 = .ok (.invokevirtual 39, 3) := by decide +kernel
theorem dL_law_335 : decode cL_law 335 = .ok (.if_icmp .eq 351, 3) := by decide +kernel
theorem dL_law_338 : decode cL_law 338 = .ok (.iconst 0, 1) := by decide +kernel
theorem dL_law_339 : decode cL_law 339 = .ok (.ireturn, 1) := by decide +kernel
theorem dL_law_340 : decode cL_law 340 = .ok (.aload_n 1, 1) := by decide +kernel
theorem dL_law_341 : decode cL_law 341 = .ok (.aload_n 0, 1) := by decide +kernel
theorem dL_law_342 : decode cL_law 342 = .ok (.iload_n 3, 1) := by decide +kernel
theorem dL_law_343 : decode cL_law 343 = .ok (.iconst 1, 1) := by decide +kernel
theorem dL_law_344 : decode cL_law 344 = .ok (.iadd, 1) := by decide +kernel
theorem dL_law_345 : decode cL_law 345 = .ok (.iaload, 1) := by decide +kernel
theorem dL_law_346 : decode cL_law 346 = .ok (.invokevirtual 40, 3) := by decide +kernel
theorem dL_law_349 : decode cL_law 349 = .ok (.aload_n 2, 1) := by decide +kernel
theorem dL_law_350 : decode cL_law 350 = .ok (.aload_n 0, 1) := by decide +kernel
theorem dL_law_351 : decode cL_law 351 = .ok (.iload_n 3, 1) := by decide +kernel
theorem dL_law_352 : decode cL_law 352 = .ok (.iconst 1, 1) := by decide +kernel
theorem dL_law_353 : decode cL_law 353 = .ok (.iadd, 1) := by decide +kernel
theorem dL_law_354 : decode cL_law 354 = .ok (.iaload, 1) := by decide +kernel
theorem dL_law_355 : decode cL_law 355 = .ok (.invokevirtual 44, 3) := by decide +kernel
theorem dL_law_358 : decode cL_law 358 = .ok (.if_icmp .eq 328, 3) := by decide +kernel
theorem dL_law_361 : decode cL_law 361 = .ok (.iconst 0, 1) := by decide +kernel
theorem dL_law_362 : decode cL_law 362 = .ok (.ireturn, 1) := by decide +kernel
theorem dL_law_363 : decode cL_law 363 = .ok (.aload_n 1, 1) := by decide +kernel
theorem dL_law_364 : decode cL_law 364 = .ok (.aload_n 0, 1) := by decide +kernel
theorem dL_law_365 : decode cL_law 365 = .ok (.iload_n 3, 1) := by decide +kernel
theorem dL_law_366 : decode cL_law 366 = .ok (.iconst 1, 1) := by decide +kernel
theorem dL_law_367 : decode cL_law 367 = .ok (.iadd, 1) := by decide +kernel
theorem dL_law_368 : decode cL_law 368 = .ok (.iaload, 1) := by decide +kernel
theorem dL_law_369 : decode cL_law 369 = .ok (.aload_n 0, 1) := by decide +kernel
theorem dL_law_370 : decode cL_law 370 = .ok (.iload_n 3, 1) := by decide +kernel
theorem dL_law_371 : decode cL_law 371 = .ok (.iconst 2, 1) := by decide +kernel
theorem dL_law_372 : decode cL_law 372 = .ok (.iadd, 1) := by decide +kernel
theorem dL_law_373 : decode cL_law 373 = .ok (.iaload, 1) := by decide +kernel
theorem dL_law_374 : decode cL_law 374 = .ok (.invokevirtual 45, 3) := by decide +kernel
theorem dL_law_377 : decode cL_law 377 = .ok (.aload_n 2, 1) := by decide +kernel
theorem dL_law_378 : decode cL_law 378 = .ok (.aload_n 0, 1) := by decide +kernel
theorem dL_law_379 : decode cL_law 379 = .ok (.iload_n 3, 1) := by decide +kernel
theorem dL_law_380 : decode cL_law 380 = .ok (.iconst 1, 1) := by decide +kernel
theorem dL_law_381 : decode cL_law 381 = .ok (.iadd, 1) := by decide +kernel
theorem dL_law_382 : decode cL_law 382 = .ok (.iaload, 1) := by decide +kernel
theorem dL_law_383 : decode cL_law 383 = .ok (.aload_n 0, 1) := by decide +kernel
theorem dL_law_384 : decode cL_law 384 = .ok (.iload_n 3, 1) := by decide +kernel
theorem dL_law_385 : decode cL_law 385 = .ok (.iconst 2, 1) := by decide +kernel
theorem dL_law_386 : decode cL_law 386 = .ok (.iadd, 1) := by decide +kernel
theorem dL_law_387 : decode cL_law 387 = .ok (.iaload, 1) := by decide +kernel
theorem dL_law_388 : decode cL_law 388 = .ok (.invokevirtual 49, 3) := by decide +kernel
theorem dL_law_391 : decode cL_law 391 = .ok (.if_icmp .eq 295, 3) := by decide +kernel
theorem dL_law_394 : decode cL_law 394 = .ok (.iconst 0, 1) := by decide +kernel
theorem dL_law_395 : decode cL_law 395 = .ok (.ireturn, 1) := by decide +kernel
theorem dL_law_396 : decode cL_law 396 = .ok (.aload_n 1, 1) := by decide +kernel
theorem dL_law_397 : decode cL_law 397 = .ok (.aload_n 0, 1) := by decide +kernel
theorem dL_law_398 : decode cL_law 398 = .ok (.iload_n 3, 1) := by decide +kernel
theorem dL_law_399 : decode cL_law 399 = .ok (.iconst 1, 1) := by decide +kernel
theorem dL_law_400 : decode cL_law 400 = .ok (.iadd, 1) := by decide +kernel
theorem dL_law_401 : decode cL_law 401 = .ok (.iaload, 1) := by decide +kernel
theorem dL_law_402 : decode cL_law 402 = .ok (.aload_n 0, 1) := by decide +kernel
theorem dL_law_403 : decode cL_law 403 = .ok (.iload_n 3, 1) := by decide +kernel
theorem dL_law_404 : decode cL_law 404 = .ok (.iconst 2, 1) := by decide +kernel
theorem dL_law_405 : decode cL_law 405 = .ok (.iadd, 1) := by decide +kernel
theorem dL_law_406 : decode cL_law 406 = .ok (.iaload, 1) := by decide +kernel
theorem dL_law_407 : decode cL_law 407 = .ok (.invokevirtual 50, 3) := by decide +kernel
theorem dL_law_410 : decode cL_law 410 = .ok (.aload_n 2, 1) := by decide +kernel
theorem dL_law_411 : decode cL_law 411 = .ok (.aload_n 0, 1) := by decide +kernel
theorem dL_law_412 : decode cL_law 412 = .ok (.iload_n 3, 1) := by decide +kernel
theorem dL_law_413 : decode cL_law 413 = .ok (.iconst 1, 1) := by decide +kernel
theorem dL_law_414 : decode cL_law 414 = .ok (.iadd, 1) := by decide +kernel
theorem dL_law_415 : decode cL_law 415 = .ok (.iaload, 1) := by decide +kernel
theorem dL_law_416 : decode cL_law 416 = .ok (.aload_n 0, 1) := by decide +kernel
theorem dL_law_417 : decode cL_law 417 = .ok (.iload_n 3, 1) := by decide +kernel
theorem dL_law_418 : decode cL_law 418 = .ok (.iconst 2, 1) := by decide +kernel
theorem dL_law_419 : decode cL_law 419 = .ok (.iadd, 1) := by decide +kernel
theorem dL_law_420 : decode cL_law 420 = .ok (.iaload, 1) := by decide +kernel
theorem dL_law_421 : decode cL_law 421 = .ok (.invokevirtual 53, 3) := by decide +kernel
theorem dL_law_424 : decode cL_law 424 = .ok (.if_icmp .eq 262, 3) := by decide +kernel
theorem dL_law_427 : decode cL_law 427 = .ok (.iconst 0, 1) := by decide +kernel
theorem dL_law_428 : decode cL_law 428 = .ok (.ireturn, 1) := by decide +kernel
theorem dL_law_429 : decode cL_law 429 = .ok (.aload_n 1, 1) := by decide +kernel
theorem dL_law_430 : decode cL_law 430 = .ok (.aload_n 0, 1) := by decide +kernel
theorem dL_law_431 : decode cL_law 431 = .ok (.iload_n 3, 1) := by decide +kernel
theorem dL_law_432 : decode cL_law 432 = .ok (.iconst 1, 1) := by decide +kernel
theorem dL_law_433 : decode cL_law 433 = .ok (.iadd, 1) := by decide +kernel
theorem dL_law_434 : decode cL_law 434 = .ok (.iaload, 1) := by decide +kernel
theorem dL_law_435 : decode cL_law 435 = .ok (.aload_n 0, 1) := by decide +kernel
theorem dL_law_436 : decode cL_law 436 = .ok (.iload_n 3, 1) := by decide +kernel
theorem dL_law_437 : decode cL_law 437 = .ok (.iconst 2, 1) := by decide +kernel
theorem dL_law_438 : decode cL_law 438 = .ok (.iadd, 1) := by decide +kernel
theorem dL_law_439 : decode cL_law 439 = .ok (.iaload, 1) := by decide +kernel
theorem dL_law_440 : decode cL_law 440 = .ok (.invokevirtual 54, 3) := by decide +kernel
theorem dL_law_443 : decode cL_law 443 = .ok (.aload_n 2, 1) := by decide +kernel
theorem dL_law_444 : decode cL_law 444 = .ok (.aload_n 0, 1) := by decide +kernel
theorem dL_law_445 : decode cL_law 445 = .ok (.iload_n 3, 1) := by decide +kernel
theorem dL_law_446 : decode cL_law 446 = .ok (.iconst 1, 1) := by decide +kernel
theorem dL_law_447 : decode cL_law 447 = .ok (.iadd, 1) := by decide +kernel
theorem dL_law_448 : decode cL_law 448 = .ok (.iaload, 1) := by decide +kernel
theorem dL_law_449 : decode cL_law 449 = .ok (.aload_n 0, 1) := by decide +kernel
theorem dL_law_450 : decode cL_law 450 = .ok (.iload_n 3, 1) := by decide +kernel
theorem dL_law_451 : decode cL_law 451 = .ok (.iconst 2, 1) := by decide +kernel
theorem dL_law_452 : decode cL_law 452 = .ok (.iadd, 1) := by decide +kernel
theorem dL_law_453 : decode cL_law 453 = .ok (.iaload, 1) := by decide +kernel
theorem dL_law_454 : decode cL_law 454 = .ok (.invokevirtual 57, 3) := by decide +kernel
theorem dL_law_457 : decode cL_law 457 = .ok (.if_icmp .eq 229, 3) := by decide +kernel
theorem dL_law_460 : decode cL_law 460 = .ok (.iconst 0, 1) := by decide +kernel
theorem dL_law_461 : decode cL_law 461 = .ok (.ireturn, 1) := by decide +kernel
theorem dL_law_462 : decode cL_law 462 = .ok (.aload_n 1, 1) := by decide +kernel
theorem dL_law_463 : decode cL_law 463 = .ok (.aload_n 0, 1) := by decide +kernel
theorem dL_law_464 : decode cL_law 464 = .ok (.iload_n 3, 1) := by decide +kernel
theorem dL_law_465 : decode cL_law 465 = .ok (.iconst 1, 1) := by decide +kernel
theorem dL_law_466 : decode cL_law 466 = .ok (.iadd, 1) := by decide +kernel
theorem dL_law_467 : decode cL_law 467 = .ok (.iaload, 1) := by decide +kernel
theorem dL_law_468 : decode cL_law 468 = .ok (.invokevirtual 58, 3) := by decide +kernel
theorem dL_law_471 : decode cL_law 471 = .ok (.aload_n 2, 1) := by decide +kernel
theorem dL_law_472 : decode cL_law 472 = .ok (.aload_n 0, 1) := by decide +kernel
theorem dL_law_473 : decode cL_law 473 = .ok (.iload_n 3, 1) := by decide +kernel
theorem dL_law_474 : decode cL_law 474 = .ok (.iconst 1, 1) := by decide +kernel
theorem dL_law_475 : decode cL_law 475 = .ok (.iadd, 1) := by decide +kernel
theorem dL_law_476 : decode cL_law 476 = .ok (.iaload, 1) := by decide +kernel
theorem dL_law_477 : decode cL_law 477 = .ok (.invokevirtual 61, 3) := by decide +kernel
theorem dL_law_480 : decode cL_law 480 = .ok (.if_icmp .eq 206, 3) := by decide +kernel
theorem dL_law_483 : decode cL_law 483 = .ok (.iconst 0, 1) := by decide +kernel
theorem dL_law_484 : decode cL_law 484 = .ok (.ireturn, 1) := by decide +kernel
theorem dL_law_485 : decode cL_law 485 = .ok (.aload_n 1, 1) := by decide +kernel
theorem dL_law_486 : decode cL_law 486 = .ok (.invokevirtual 62, 3) := by decide +kernel
theorem dL_law_489 : decode cL_law 489 = .ok (.aload_n 2, 1) := by decide +kernel
theorem dL_law_490 : decode cL_law 490 = .ok (.invokevirtual 65, 3) := by decide +kernel
theorem dL_law_493 : decode cL_law 493 = .ok (.if_icmp .eq 193, 3) := by decide +kernel
theorem dL_law_496 : decode cL_law 496 = .ok (.iconst 0, 1) := by decide +kernel
theorem dL_law_497 : decode cL_law 497 = .ok (.ireturn, 1) := by decide +kernel
theorem dL_law_498 : decode cL_law 498 = .ok (.aload_n 1, 1) := by decide +kernel
theorem dL_law_499 : decode cL_law 499 = .ok (.aload_n 0, 1) := by decide +kernel
theorem dL_law_500 : decode cL_law 500 = .ok (.iload_n 3, 1) := by decide +kernel
theorem dL_law_501 : decode cL_law 501 = .ok (.iconst 1, 1) := by decide +kernel
theorem dL_law_502 : decode cL_law 502 = .ok (.iadd, 1) := by decide +kernel
theorem dL_law_503 : decode cL_law 503 = .ok (.iaload, 1) := by decide +kernel
theorem dL_law_504 : decode cL_law 504 = .ok (.aload_n 0, 1) := by decide +kernel
theorem dL_law_505 : decode cL_law 505 = .ok (.iload_n 3, 1) := by decide +kernel
theorem dL_law_506 : decode cL_law 506 = .ok (.iconst 2, 1) := by decide +kernel
theorem dL_law_507 : decode cL_law 507 = .ok (.iadd, 1) := by decide +kernel
theorem dL_law_508 : decode cL_law 508 = .ok (.iaload, 1) := by decide +kernel
theorem dL_law_509 : decode cL_law 509 = .ok (.aload_n 0, 1) := by decide +kernel
theorem dL_law_510 : decode cL_law 510 = .ok (.iload_n 3, 1) := by decide +kernel
theorem dL_law_511 : decode cL_law 511 = .ok (.iconst 3, 1) := by decide +kernel
theorem dL_law_512 : decode cL_law 512 = .ok (.iadd, 1) := by decide +kernel
theorem dL_law_513 : decode cL_law 513 = .ok (.iaload, 1) := by decide +kernel
theorem dL_law_514 : decode cL_law 514 = .ok (.aload_n 0, 1) := by decide +kernel
theorem dL_law_515 : decode cL_law 515 = .ok (.iload_n 3, 1) := by decide +kernel
theorem dL_law_516 : decode cL_law 516 = .ok (.iconst 4, 1) := by decide +kernel
theorem dL_law_517 : decode cL_law 517 = .ok (.iadd, 1) := by decide +kernel
theorem dL_law_518 : decode cL_law 518 = .ok (.iaload, 1) := by decide +kernel
theorem dL_law_519 : decode cL_law 519 = .ok (.invokevirtual 66, 3) := by decide +kernel
theorem dL_law_522 : decode cL_law 522 = .ok (.aload_n 2, 1) := by decide +kernel
theorem dL_law_523 : decode cL_law 523 = .ok (.aload_n 0, 1) := by decide +kernel
theorem dL_law_524 : decode cL_law 524 = .ok (.iload_n 3, 1) := by decide +kernel
theorem dL_law_525 : decode cL_law 525 = .ok (.iconst 1, 1) := by decide +kernel
theorem dL_law_526 : decode cL_law 526 = .ok (.iadd, 1) := by decide +kernel
theorem dL_law_527 : decode cL_law 527 = .ok (.iaload, 1) := by decide +kernel
theorem dL_law_528 : decode cL_law 528 = .ok (.aload_n 0, 1) := by decide +kernel
theorem dL_law_529 : decode cL_law 529 = .ok (.iload_n 3, 1) := by decide +kernel
theorem dL_law_530 : decode cL_law 530 = .ok (.iconst 2, 1) := by decide +kernel
theorem dL_law_531 : decode cL_law 531 = .ok (.iadd, 1) := by decide +kernel
theorem dL_law_532 : decode cL_law 532 = .ok (.iaload, 1) := by decide +kernel
theorem dL_law_533 : decode cL_law 533 = .ok (.aload_n 0, 1) := by decide +kernel
theorem dL_law_534 : decode cL_law 534 = .ok (.iload_n 3, 1) := by decide +kernel
theorem dL_law_535 : decode cL_law 535 = .ok (.iconst 3, 1) := by decide +kernel
theorem dL_law_536 : decode cL_law 536 = .ok (.iadd, 1) := by decide +kernel
theorem dL_law_537 : decode cL_law 537 = .ok (.iaload, 1) := by decide +kernel
theorem dL_law_538 : decode cL_law 538 = .ok (.aload_n 0, 1) := by decide +kernel
theorem dL_law_539 : decode cL_law 539 = .ok (.iload_n 3, 1) := by decide +kernel
theorem dL_law_540 : decode cL_law 540 = .ok (.iconst 4, 1) := by decide +kernel
theorem dL_law_541 : decode cL_law 541 = .ok (.iadd, 1) := by decide +kernel
theorem dL_law_542 : decode cL_law 542 = .ok (.iaload, 1) := by decide +kernel
theorem dL_law_543 : decode cL_law 543 = .ok (.invokevirtual 69, 3) := by decide +kernel
theorem dL_law_546 : decode cL_law 546 = .ok (.if_icmp .eq 140, 3) := by decide +kernel
theorem dL_law_549 : decode cL_law 549 = .ok (.iconst 0, 1) := by decide +kernel
theorem dL_law_550 : decode cL_law 550 = .ok (.ireturn, 1) := by decide +kernel
theorem dL_law_551 : decode cL_law 551 = .ok (.aload_n 1, 1) := by decide +kernel
theorem dL_law_552 : decode cL_law 552 = .ok (.aload_n 0, 1) := by decide +kernel
theorem dL_law_553 : decode cL_law 553 = .ok (.iload_n 3, 1) := by decide +kernel
theorem dL_law_554 : decode cL_law 554 = .ok (.iconst 1, 1) := by decide +kernel
theorem dL_law_555 : decode cL_law 555 = .ok (.iadd, 1) := by decide +kernel
theorem dL_law_556 : decode cL_law 556 = .ok (.iaload, 1) := by decide +kernel
theorem dL_law_557 : decode cL_law 557 = .ok (.invokevirtual 70, 3) := by decide +kernel
theorem dL_law_560 : decode cL_law 560 = .ok (.aload_n 2, 1) := by decide +kernel
theorem dL_law_561 : decode cL_law 561 = .ok (.aload_n 0, 1) := by decide +kernel
theorem dL_law_562 : decode cL_law 562 = .ok (.iload_n 3, 1) := by decide +kernel
theorem dL_law_563 : decode cL_law 563 = .ok (.iconst 1, 1) := by decide +kernel
theorem dL_law_564 : decode cL_law 564 = .ok (.iadd, 1) := by decide +kernel
theorem dL_law_565 : decode cL_law 565 = .ok (.iaload, 1) := by decide +kernel
theorem dL_law_566 : decode cL_law 566 = .ok (.invokevirtual 73, 3) := by decide +kernel
theorem dL_law_569 : decode cL_law 569 = .ok (.if_icmp .eq 117, 3) := by decide +kernel
theorem dL_law_572 : decode cL_law 572 = .ok (.iconst 0, 1) := by decide +kernel
theorem dL_law_573 : decode cL_law 573 = .ok (.ireturn, 1) := by decide +kernel
theorem dL_law_574 : decode cL_law 574 = .ok (.aload_n 1, 1) := by decide +kernel
theorem dL_law_575 : decode cL_law 575 = .ok (.aload_n 0, 1) := by decide +kernel
theorem dL_law_576 : decode cL_law 576 = .ok (.iload_n 3, 1) := by decide +kernel
theorem dL_law_577 : decode cL_law 577 = .ok (.iconst 1, 1) := by decide +kernel
theorem dL_law_578 : decode cL_law 578 = .ok (.iadd, 1) := by decide +kernel
theorem dL_law_579 : decode cL_law 579 = .ok (.iaload, 1) := by decide +kernel
theorem dL_law_580 : decode cL_law 580 = .ok (.invokevirtual 74, 3) := by decide +kernel
theorem dL_law_583 : decode cL_law 583 = .ok (.aload_n 2, 1) := by decide +kernel
theorem dL_law_584 : decode cL_law 584 = .ok (.aload_n 0, 1) := by decide +kernel
theorem dL_law_585 : decode cL_law 585 = .ok (.iload_n 3, 1) := by decide +kernel
theorem dL_law_586 : decode cL_law 586 = .ok (.iconst 1, 1) := by decide +kernel
theorem dL_law_587 : decode cL_law 587 = .ok (.iadd, 1) := by decide +kernel
theorem dL_law_588 : decode cL_law 588 = .ok (.iaload, 1) := by decide +kernel
theorem dL_law_589 : decode cL_law 589 = .ok (.invokevirtual 77, 3) := by decide +kernel
theorem dL_law_592 : decode cL_law 592 = .ok (.if_icmp .eq 94, 3) := by decide +kernel
theorem dL_law_595 : decode cL_law 595 = .ok (.iconst 0, 1) := by decide +kernel
theorem dL_law_596 : decode cL_law 596 = .ok (.ireturn, 1) := by decide +kernel
theorem dL_law_597 : decode cL_law 597 = .ok (.aload_n 1, 1) := by decide +kernel
theorem dL_law_598 : decode cL_law 598 = .ok (.aload_n 0, 1) := by decide +kernel
theorem dL_law_599 : decode cL_law 599 = .ok (.iload_n 3, 1) := by decide +kernel
theorem dL_law_600 : decode cL_law 600 = .ok (.iconst 1, 1) := by decide +kernel
theorem dL_law_601 : decode cL_law 601 = .ok (.iadd, 1) := by decide +kernel
theorem dL_law_602 : decode cL_law 602 = .ok (.iaload, 1) := by decide +kernel
theorem dL_law_603 : decode cL_law 603 = .ok (.invokevirtual 78, 3) := by decide +kernel
theorem dL_law_606 : decode cL_law 606 = .ok (.aload_n 2, 1) := by decide +kernel
theorem dL_law_607 : decode cL_law 607 = .ok (.aload_n 0, 1) := by decide +kernel
theorem dL_law_608 : decode cL_law 608 = .ok (.iload_n 3, 1) := by decide +kernel
theorem dL_law_609 : decode cL_law 609 = .ok (.iconst 1, 1) := by decide +kernel
theorem dL_law_610 : decode cL_law 610 = .ok (.iadd, 1) := by decide +kernel
theorem dL_law_611 : decode cL_law 611 = .ok (.iaload, 1) := by decide +kernel
theorem dL_law_612 : decode cL_law 612 = .ok (.invokevirtual 81, 3) := by decide +kernel
theorem dL_law_615 : decode cL_law 615 = .ok (.if_icmp .eq 71, 3) := by decide +kernel
theorem dL_law_618 : decode cL_law 618 = .ok (.iconst 0, 1) := by decide +kernel
theorem dL_law_619 : decode cL_law 619 = .ok (.ireturn, 1) := by decide +kernel
theorem dL_law_620 : decode cL_law 620 = .ok (.aload_n 1, 1) := by decide +kernel
theorem dL_law_621 : decode cL_law 621 = .ok (.invokevirtual 82, 3) := by decide +kernel
theorem dL_law_624 : decode cL_law 624 = .ok (.aload_n 2, 1) := by decide +kernel
theorem dL_law_625 : decode cL_law 625 = .ok (.invokevirtual 85, 3) := by decide +kernel
theorem dL_law_628 : decode cL_law 628 = .ok (.if_icmp .eq 58, 3) := by decide +kernel
theorem dL_law_631 : decode cL_law 631 = .ok (.iconst 0, 1) := by decide +kernel
theorem dL_law_632 : decode cL_law 632 = .ok (.ireturn, 1) := by decide +kernel
theorem dL_law_633 : decode cL_law 633 = .ok (.aload_n 1, 1) := by decide +kernel
theorem dL_law_634 : decode cL_law 634 = .ok (.invokevirtual 86, 3) := by decide +kernel
theorem dL_law_637 : decode cL_law 637 = .ok (.aload_n 2, 1) := by decide +kernel
theorem dL_law_638 : decode cL_law 638 = .ok (.invokevirtual 89, 3) := by decide +kernel
theorem dL_law_641 : decode cL_law 641 = .ok (.if_icmp .eq 45, 3) := by decide +kernel
theorem dL_law_644 : decode cL_law 644 = .ok (.iconst 0, 1) := by decide +kernel
theorem dL_law_645 : decode cL_law 645 = .ok (.ireturn, 1) := by decide +kernel
theorem dL_law_646 : decode cL_law 646 = .ok (.aload_n 1, 1) := by decide +kernel
theorem dL_law_647 : decode cL_law 647 = .ok (.invokevirtual 90, 3) := by decide +kernel
theorem dL_law_650 : decode cL_law 650 = .ok (.aload_n 2, 1) := by decide +kernel
theorem dL_law_651 : decode cL_law 651 = .ok (.invokevirtual 93, 3) := by decide +kernel
theorem dL_law_654 : decode cL_law 654 = .ok (.if_icmp .eq 32, 3) := by decide +kernel
theorem dL_law_657 : decode cL_law 657 = .ok (.iconst 0, 1) := by decide +kernel
theorem dL_law_658 : decode cL_law 658 = .ok (.ireturn, 1) := by decide +kernel
theorem dL_law_659 : decode cL_law 659 = .ok (.aload_n 1, 1) := by decide +kernel
theorem dL_law_660 : decode cL_law 660 = .ok (.invokevirtual 94, 3) := by decide +kernel
theorem dL_law_663 : decode cL_law 663 = .ok (.aload_n 2, 1) := by decide +kernel
theorem dL_law_664 : decode cL_law 664 = .ok (.invokevirtual 97, 3) := by decide +kernel
theorem dL_law_667 : decode cL_law 667 = .ok (.if_icmp .eq 19, 3) := by decide +kernel
theorem dL_law_670 : decode cL_law 670 = .ok (.iconst 0, 1) := by decide +kernel
theorem dL_law_671 : decode cL_law 671 = .ok (.ireturn, 1) := by decide +kernel
theorem dL_law_672 : decode cL_law 672 = .ok (.aload_n 1, 1) := by decide +kernel
theorem dL_law_673 : decode cL_law 673 = .ok (.invokevirtual 98, 3) := by decide +kernel
theorem dL_law_676 : decode cL_law 676 = .ok (.aload_n 2, 1) := by decide +kernel
theorem dL_law_677 : decode cL_law 677 = .ok (.invokevirtual 102, 3) := by decide +kernel
theorem dL_law_680 : decode cL_law 680 = .ok (.lcmp, 1) := by decide +kernel
theorem dL_law_681 : decode cL_law 681 = .ok (.ifCond .eq 5, 3) := by decide +kernel
theorem dL_law_684 : decode cL_law 684 = .ok (.iconst 0, 1) := by decide +kernel
theorem dL_law_685 : decode cL_law 685 = .ok (.ireturn, 1) := by decide +kernel
theorem dL_law_686 : decode cL_law 686 = .ok (.iinc 3 5, 3) := by decide +kernel
theorem dL_law_689 : decode cL_law 689 = .ok (.goto (-671), 3) := by decide +kernel
theorem dL_law_692 : decode cL_law 692 = .ok (.iconst 1, 1) := by decide +kernel
theorem dL_law_693 : decode cL_law 693 = .ok (.ireturn, 1) := by decide +kernel
