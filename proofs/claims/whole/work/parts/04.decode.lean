theorem dX0_init_0 : decode cX0_init 0 = .ok (.aload_n 0, 1) := by decide +kernel
theorem dX0_init_1 : decode cX0_init 1 = .ok (.invokespecial 3, 3) := by decide +kernel
theorem dX0_init_4 : decode cX0_init 4 = .ok (.aload_n 0, 1) := by decide +kernel
theorem dX0_init_5 : decode cX0_init 5 = .ok (.iconst 3, 1) := by decide +kernel
theorem dX0_init_6 : decode cX0_init 6 = .ok (.putfield 9, 3) := by decide +kernel
theorem dX0_init_9 : decode cX0_init 9 = .ok (.aload_n 0, 1) := by decide +kernel
theorem dX0_init_10 : decode cX0_init 10 = .ok (.iconst 3, 1) := by decide +kernel
theorem dX0_init_11 : decode cX0_init 11 = .ok (.putfield 15, 3) := by decide +kernel
theorem dX0_init_14 : decode cX0_init 14 = .ok (.aload_n 0, 1) := by decide +kernel
theorem dX0_init_15 : decode cX0_init 15 = .ok (.bipush 12, 2) := by decide +kernel
theorem dX0_init_17 : decode cX0_init 17 = .ok (.putfield 18, 3) := by decide +kernel
theorem dX0_init_20 : decode cX0_init 20 = .ok (.aload_n 0, 1) := by decide +kernel
theorem dX0_init_21 : decode cX0_init 21 = .ok (.iconst 0, 1) := by decide +kernel
theorem dX0_init_22 : decode cX0_init 22 = .ok (.putfield 21, 3) := by decide +kernel
theorem dX0_init_25 : decode cX0_init 25 = .ok (.aload_n 0, 1) := by decide +kernel
theorem dX0_init_26 : decode cX0_init 26 = .ok (.iconst 1, 1) := by decide +kernel
theorem dX0_init_27 : decode cX0_init 27 = .ok (.putfield 24, 3) := by decide +kernel
theorem dX0_init_30 : decode cX0_init 30 = .ok (.aload_n 0, 1) := by decide +kernel
theorem dX0_init_31 : decode cX0_init 31 = .ok (.iconst 0, 1) := by decide +kernel
theorem dX0_init_32 : decode cX0_init 32 = .ok (.putfield 27, 3) := by decide +kernel
theorem dX0_init_35 : decode cX0_init 35 = .ok (.aload_n 0, 1) := by decide +kernel
theorem dX0_init_36 : decode cX0_init 36 = .ok (.iconst 0, 1) := by decide +kernel
theorem dX0_init_37 : decode cX0_init 37 = .ok (.putfield 30, 3) := by decide +kernel
theorem dX0_init_40 : decode cX0_init 40 = .ok (.aload_n 0, 1) := by decide +kernel
theorem dX0_init_41 : decode cX0_init 41 = .ok (.iconst 0, 1) := by decide +kernel
theorem dX0_init_42 : decode cX0_init 42 = .ok (.putfield 33, 3) := by decide +kernel
theorem dX0_init_45 : decode cX0_init 45 = .ok (.aload_n 0, 1) := by decide +kernel
theorem dX0_init_46 : decode cX0_init 46 = .ok (.bipush 6, 2) := by decide +kernel
theorem dX0_init_48 : decode cX0_init 48 = .ok (.anewarray 36, 3) := by decide +kernel
theorem dX0_init_51 : decode cX0_init 51 = .ok (.putfield 38, 3) := by decide +kernel
theorem dX0_init_54 : decode cX0_init 54 = .ok (.aload_n 0, 1) := by decide +kernel
theorem dX0_init_55 : decode cX0_init 55 = .ok (.new 36, 3) := by decide +kernel
theorem dX0_init_58 : decode cX0_init 58 = .ok (.dup, 1) := by decide +kernel
theorem dX0_init_59 : decode cX0_init 59 = .ok (.invokespecial 42, 3) := by decide +kernel
theorem dX0_init_62 : decode cX0_init 62 = .ok (.putfield 43, 3) := by decide +kernel
theorem dX0_init_65 : decode cX0_init 65 = .ok (.aload_n 0, 1) := by decide +kernel
theorem dX0_init_66 : decode cX0_init 66 = .ok (.bipush 40, 2) := by decide +kernel
theorem dX0_init_68 : decode cX0_init 68 = .ok (.newarray .int, 2) := by decide +kernel
theorem dX0_init_70 : decode cX0_init 70 = .ok (.putfield 47, 3) := by decide +kernel
theorem dX0_init_73 : decode cX0_init 73 = .ok (.aload_n 0, 1) := by decide +kernel
theorem dX0_init_74 : decode cX0_init 74 = .ok (.bipush 25, 2) := by decide +kernel
theorem dX0_init_76 : decode cX0_init 76 = .ok (.newarray .int, 2) := by decide +kernel
theorem dX0_init_78 : decode cX0_init 78 = .ok (.putfield 51, 3) := by decide +kernel
theorem dX0_init_81 : decode cX0_init 81 = .ok (.iconst 0, 1) := by decide +kernel
theorem dX0_init_82 : decode cX0_init 82 = .ok (.istore_n 1, 1) := by decide +kernel
theorem dX0_init_83 : decode cX0_init 83 = .ok (.iload_n 1, 1) := by decide +kernel
theorem dX0_init_84 : decode cX0_init 84 = .ok (.bipush 6, 2) := by decide +kernel
theorem dX0_init_86 : decode cX0_init 86 = .ok (.if_icmp .ge 22, 3) := by decide +kernel
theorem dX0_init_89 : decode cX0_init 89 = .ok (.aload_n 0, 1) := by decide +kernel
theorem dX0_init_90 : decode cX0_init 90 = .ok (.getfield 38, 3) := by decide +kernel
theorem dX0_init_93 : decode cX0_init 93 = .ok (.iload_n 1, 1) := by decide +kernel
theorem dX0_init_94 : decode cX0_init 94 = .ok (.new 36, 3) := by decide +kernel
theorem dX0_init_97 : decode cX0_init 97 = .ok (.dup, 1) := by decide +kernel
theorem dX0_init_98 : decode cX0_init 98 = .ok (.invokespecial 42, 3) := by decide +kernel
theorem dX0_init_101 : decode cX0_init 101 = .ok (.aastore, 1) := by decide +kernel
theorem dX0_init_102 : decode cX0_init 102 = .ok (.iinc 1 1, 3) := by decide +kernel
theorem dX0_init_105 : decode cX0_init 105 = .ok (.goto (-22), 3) := by decide +kernel
theorem dX0_init_108 : decode cX0_init 108 = .ok (.return_, 1) := by decide +kernel
theorem dX0_take_0 : decode cX0_take 0 = .ok (.aload_n 0, 1) := by decide +kernel
theorem dX0_take_1 : decode cX0_take 1 = .ok (.aload_n 1, 1) := by decide +kernel
theorem dX0_take_2 : decode cX0_take 2 = .ok (.getfield 9, 3) := by decide +kernel
theorem dX0_take_5 : decode cX0_take 5 = .ok (.putfield 9, 3) := by decide +kernel
theorem dX0_take_8 : decode cX0_take 8 = .ok (.aload_n 0, 1) := by decide +kernel
theorem dX0_take_9 : decode cX0_take 9 = .ok (.aload_n 1, 1) := by decide +kernel
theorem dX0_take_10 : decode cX0_take 10 = .ok (.getfield 15, 3) := by decide +kernel
theorem dX0_take_13 : decode cX0_take 13 = .ok (.putfield 15, 3) := by decide +kernel
theorem dX0_take_16 : decode cX0_take 16 = .ok (.aload_n 0, 1) := by decide +kernel
theorem dX0_take_17 : decode cX0_take 17 = .ok (.aload_n 1, 1) := by decide +kernel
theorem dX0_take_18 : decode cX0_take 18 = .ok (.getfield 18, 3) := by decide +kernel
theorem dX0_take_21 : decode cX0_take 21 = .ok (.putfield 18, 3) := by decide +kernel
theorem dX0_take_24 : decode cX0_take 24 = .ok (.aload_n 0, 1) := by decide +kernel
theorem dX0_take_25 : decode cX0_take 25 = .ok (.aload_n 1, 1) := by decide +kernel
theorem dX0_take_26 : decode cX0_take 26 = .ok (.getfield 21, 3) := by decide +kernel
theorem dX0_take_29 : decode cX0_take 29 = .ok (.putfield 21, 3) := by decide +kernel
theorem dX0_take_32 : decode cX0_take 32 = .ok (.aload_n 0, 1) := by decide +kernel
theorem dX0_take_33 : decode cX0_take 33 = .ok (.aload_n 1, 1) := by decide +kernel
theorem dX0_take_34 : decode cX0_take 34 = .ok (.getfield 24, 3) := by decide +kernel
theorem dX0_take_37 : decode cX0_take 37 = .ok (.putfield 24, 3) := by decide +kernel
theorem dX0_take_40 : decode cX0_take 40 = .ok (.aload_n 0, 1) := by decide +kernel
theorem dX0_take_41 : decode cX0_take 41 = .ok (.aload_n 1, 1) := by decide +kernel
theorem dX0_take_42 : decode cX0_take 42 = .ok (.getfield 27, 3) := by decide +kernel
theorem dX0_take_45 : decode cX0_take 45 = .ok (.putfield 27, 3) := by decide +kernel
theorem dX0_take_48 : decode cX0_take 48 = .ok (.aload_n 0, 1) := by decide +kernel
theorem dX0_take_49 : decode cX0_take 49 = .ok (.aload_n 1, 1) := by decide +kernel
theorem dX0_take_50 : decode cX0_take 50 = .ok (.getfield 30, 3) := by decide +kernel
theorem dX0_take_53 : decode cX0_take 53 = .ok (.putfield 30, 3) := by decide +kernel
theorem dX0_take_56 : decode cX0_take 56 = .ok (.aload_n 0, 1) := by decide +kernel
theorem dX0_take_57 : decode cX0_take 57 = .ok (.aload_n 1, 1) := by decide +kernel
theorem dX0_take_58 : decode cX0_take 58 = .ok (.getfield 33, 3) := by decide +kernel
theorem dX0_take_61 : decode cX0_take 61 = .ok (.putfield 33, 3) := by decide +kernel
theorem dX0_take_64 : decode cX0_take 64 = .ok (.iconst 0, 1) := by decide +kernel
theorem dX0_take_65 : decode cX0_take 65 = .ok (.istore_n 2, 1) := by decide +kernel
theorem dX0_take_66 : decode cX0_take 66 = .ok (.iload_n 2, 1) := by decide +kernel
theorem dX0_take_67 : decode cX0_take 67 = .ok (.bipush 6, 2) := by decide +kernel
theorem dX0_take_69 : decode cX0_take 69 = .ok (.if_icmp .ge 22, 3) := by decide +kernel
theorem dX0_take_72 : decode cX0_take 72 = .ok (.aload_n 0, 1) := by decide +kernel
theorem dX0_take_73 : decode cX0_take 73 = .ok (.iload_n 2, 1) := by decide +kernel
theorem dX0_take_74 : decode cX0_take 74 = .ok (.invokevirtual 54, 3) := by decide +kernel
theorem dX0_take_77 : decode cX0_take 77 = .ok (.aload_n 1, 1) := by decide +kernel
theorem dX0_take_78 : decode cX0_take 78 = .ok (.iload_n 2, 1) := by decide +kernel
theorem dX0_take_79 : decode cX0_take 79 = .ok (.invokevirtual 54, 3) := by decide +kernel
theorem dX0_take_82 : decode cX0_take 82 = .ok (.invokevirtual 58, 3) := by decide +kernel
theorem dX0_take_85 : decode cX0_take 85 = .ok (.iinc 2 1, 3) := by decide +kernel
theorem dX0_take_88 : decode cX0_take 88 = .ok (.goto (-22), 3) := by decide +kernel
theorem dX0_take_91 : decode cX0_take 91 = .ok (.aload_n 1, 1) := by decide +kernel
theorem dX0_take_92 : decode cX0_take 92 = .ok (.getfield 47, 3) := by decide +kernel
theorem dX0_take_95 : decode cX0_take 95 = .ok (.iconst 0, 1) := by decide +kernel
theorem dX0_take_96 : decode cX0_take 96 = .ok (.aload_n 0, 1) := by decide +kernel
theorem dX0_take_97 : decode cX0_take 97 = .ok (.getfield 47, 3) := by decide +kernel
theorem dX0_take_100 : decode cX0_take 100 = .ok (.iconst 0, 1) := by decide +kernel
theorem dX0_take_101 : decode cX0_take 101 = .ok (.aload_n 0, 1) := by decide +kernel
theorem dX0_take_102 : decode cX0_take 102 = .ok (.getfield 47, 3) := by decide +kernel
theorem dX0_take_105 : decode cX0_take 105 = .ok (.arraylength, 1) := by decide +kernel
theorem dX0_take_106 : decode cX0_take 106 = .ok (.invokestatic 62, 3) := by decide +kernel
theorem dX0_take_109 : decode cX0_take 109 = .ok (.aload_n 1, 1) := by decide +kernel
theorem dX0_take_110 : decode cX0_take 110 = .ok (.getfield 51, 3) := by decide +kernel
theorem dX0_take_113 : decode cX0_take 113 = .ok (.iconst 0, 1) := by decide +kernel
theorem dX0_take_114 : decode cX0_take 114 = .ok (.aload_n 0, 1) := by decide +kernel
theorem dX0_take_115 : decode cX0_take 115 = .ok (.getfield 51, 3) := by decide +kernel
theorem dX0_take_118 : decode cX0_take 118 = .ok (.iconst 0, 1) := by decide +kernel
theorem dX0_take_119 : decode cX0_take 119 = .ok (.aload_n 0, 1) := by decide +kernel
theorem dX0_take_120 : decode cX0_take 120 = .ok (.getfield 51, 3) := by decide +kernel
theorem dX0_take_123 : decode cX0_take 123 = .ok (.arraylength, 1) := by decide +kernel
theorem dX0_take_124 : decode cX0_take 124 = .ok (.invokestatic 62, 3) := by decide +kernel
theorem dX0_take_127 : decode cX0_take 127 = .ok (.return_, 1) := by decide +kernel
theorem dX0_isEmpty_0 : decode cX0_isEmpty 0 = .ok (.aload_n 0, 1) := by decide +kernel
theorem dX0_isEmpty_1 : decode cX0_isEmpty 1 = .ok (.getfield 27, 3) := by decide +kernel
theorem dX0_isEmpty_4 : decode cX0_isEmpty 4 = .ok (.ifCond .ne 14, 3) := by decide +kernel
theorem dX0_isEmpty_7 : decode cX0_isEmpty 7 = .ok (.aload_n 0, 1) := by decide +kernel
theorem dX0_isEmpty_8 : decode cX0_isEmpty 8 = .ok (.getfield 30, 3) := by decide +kernel
theorem dX0_isEmpty_11 : decode cX0_isEmpty 11 = .ok (.ifCond .ne 7, 3) := by decide +kernel
theorem dX0_isEmpty_14 : decode cX0_isEmpty 14 = .ok (.iconst 1, 1) := by decide +kernel
theorem dX0_isEmpty_15 : decode cX0_isEmpty 15 = .ok (.goto 4, 3) := by decide +kernel
theorem dX0_isEmpty_18 : decode cX0_isEmpty 18 = .ok (.iconst 0, 1) := by decide +kernel
theorem dX0_isEmpty_19 : decode cX0_isEmpty 19 = .ok (.ireturn, 1) := by decide +kernel
theorem dX0_keyAt_0 : decode cX0_keyAt 0 = .ok (.iload_n 1, 1) := by decide +kernel
theorem dX0_keyAt_1 : decode cX0_keyAt 1 = .ok (.ifCond .lt 21, 3) := by decide +kernel
theorem dX0_keyAt_4 : decode cX0_keyAt 4 = .ok (.iload_n 1, 1) := by decide +kernel
theorem dX0_keyAt_5 : decode cX0_keyAt 5 = .ok (.aload_n 0, 1) := by decide +kernel
theorem dX0_keyAt_6 : decode cX0_keyAt 6 = .ok (.getfield 38, 3) := by decide +kernel
theorem dX0_keyAt_9 : decode cX0_keyAt 9 = .ok (.arraylength, 1) := by decide +kernel
theorem dX0_keyAt_10 : decode cX0_keyAt 10 = .ok (.if_icmp .ge 12, 3) := by decide +kernel
theorem dX0_keyAt_13 : decode cX0_keyAt 13 = .ok (.aload_n 0, 1) := by decide +kernel
theorem dX0_keyAt_14 : decode cX0_keyAt 14 = .ok (.getfield 38, 3) := by decide +kernel
theorem dX0_keyAt_17 : decode cX0_keyAt 17 = .ok (.iload_n 1, 1) := by decide +kernel
theorem dX0_keyAt_18 : decode cX0_keyAt 18 = .ok (.aaload, 1) := by decide +kernel
theorem dX0_keyAt_19 : decode cX0_keyAt 19 = .ok (.goto 7, 3) := by decide +kernel
theorem dX0_keyAt_22 : decode cX0_keyAt 22 = .ok (.aload_n 0, 1) := by decide +kernel
theorem dX0_keyAt_23 : decode cX0_keyAt 23 = .ok (.getfield 43, 3) := by decide +kernel
theorem dX0_keyAt_26 : decode cX0_keyAt 26 = .ok (.areturn, 1) := by decide +kernel
theorem dX0_addKey_0 : decode cX0_addKey 0 = .ok (.aload_n 0, 1) := by decide +kernel
theorem dX0_addKey_1 : decode cX0_addKey 1 = .ok (.getfield 27, 3) := by decide +kernel
theorem dX0_addKey_4 : decode cX0_addKey 4 = .ok (.bipush 6, 2) := by decide +kernel
theorem dX0_addKey_6 : decode cX0_addKey 6 = .ok (.if_icmp .lt 5, 3) := by decide +kernel
theorem dX0_addKey_9 : decode cX0_addKey 9 = .ok (.iconst (-1), 1) := by decide +kernel
theorem dX0_addKey_10 : decode cX0_addKey 10 = .ok (.ireturn, 1) := by decide +kernel
theorem dX0_addKey_11 : decode cX0_addKey 11 = .ok (.aload_n 0, 1) := by decide +kernel
theorem dX0_addKey_12 : decode cX0_addKey 12 = .ok (.aload_n 0, 1) := by decide +kernel
theorem dX0_addKey_13 : decode cX0_addKey 13 = .ok (.getfield 27, 3) := by decide +kernel
theorem dX0_addKey_16 : decode cX0_addKey 16 = .ok (.invokevirtual 54, 3) := by decide +kernel
theorem dX0_addKey_19 : decode cX0_addKey 19 = .ok (.iload_n 1, 1) := by decide +kernel
theorem dX0_addKey_20 : decode cX0_addKey 20 = .ok (.iload_n 2, 1) := by decide +kernel
theorem dX0_addKey_21 : decode cX0_addKey 21 = .ok (.invokevirtual 68, 3) := by decide +kernel
theorem dX0_addKey_24 : decode cX0_addKey 24 = .ok (.aload_n 0, 1) := by decide +kernel
theorem dX0_addKey_25 : decode cX0_addKey 25 = .ok (.dup, 1) := by decide +kernel
theorem dX0_addKey_26 : decode cX0_addKey 26 = .ok (.getfield 27, 3) := by decide +kernel
theorem dX0_addKey_29 : decode cX0_addKey 29 = .ok (.iconst 1, 1) := by decide +kernel
theorem dX0_addKey_30 : decode cX0_addKey 30 = .ok (.iadd, 1) := by decide +kernel
theorem dX0_addKey_31 : decode cX0_addKey 31 = .ok (.putfield 27, 3) := by decide +kernel
theorem dX0_addKey_34 : decode cX0_addKey 34 = .ok (.aload_n 0, 1) := by decide +kernel
theorem dX0_addKey_35 : decode cX0_addKey 35 = .ok (.getfield 27, 3) := by decide +kernel
theorem dX0_addKey_38 : decode cX0_addKey 38 = .ok (.iconst 1, 1) := by decide +kernel
theorem dX0_addKey_39 : decode cX0_addKey 39 = .ok (.isub, 1) := by decide +kernel
theorem dX0_addKey_40 : decode cX0_addKey 40 = .ok (.ireturn, 1) := by decide +kernel
theorem dX0_addLock_0 : decode cX0_addLock 0 = .ok (.aload_n 0, 1) := by decide +kernel
theorem dX0_addLock_1 : decode cX0_addLock 1 = .ok (.getfield 30, 3) := by decide +kernel
theorem dX0_addLock_4 : decode cX0_addLock 4 = .ok (.bipush 8, 2) := by decide +kernel
theorem dX0_addLock_6 : decode cX0_addLock 6 = .ok (.if_icmp .lt 5, 3) := by decide +kernel
theorem dX0_addLock_9 : decode cX0_addLock 9 = .ok (.iconst (-1), 1) := by decide +kernel
theorem dX0_addLock_10 : decode cX0_addLock 10 = .ok (.ireturn, 1) := by decide +kernel
theorem dX0_addLock_11 : decode cX0_addLock 11 = .ok (.aload_n 0, 1) := by decide +kernel
theorem dX0_addLock_12 : decode cX0_addLock 12 = .ok (.getfield 30, 3) := by decide +kernel
theorem dX0_addLock_15 : decode cX0_addLock 15 = .ok (.istore_n 2, 1) := by decide +kernel
theorem dX0_addLock_16 : decode cX0_addLock 16 = .ok (.aload_n 0, 1) := by decide +kernel
theorem dX0_addLock_17 : decode cX0_addLock 17 = .ok (.dup, 1) := by decide +kernel
theorem dX0_addLock_18 : decode cX0_addLock 18 = .ok (.getfield 30, 3) := by decide +kernel
theorem dX0_addLock_21 : decode cX0_addLock 21 = .ok (.iconst 1, 1) := by decide +kernel
theorem dX0_addLock_22 : decode cX0_addLock 22 = .ok (.iadd, 1) := by decide +kernel
theorem dX0_addLock_23 : decode cX0_addLock 23 = .ok (.putfield 30, 3) := by decide +kernel
theorem dX0_addLock_26 : decode cX0_addLock 26 = .ok (.aload_n 0, 1) := by decide +kernel
theorem dX0_addLock_27 : decode cX0_addLock 27 = .ok (.iload_n 1, 1) := by decide +kernel
theorem dX0_addLock_28 : decode cX0_addLock 28 = .ok (.ifCond .eq 14, 3) := by decide +kernel
theorem dX0_addLock_31 : decode cX0_addLock 31 = .ok (.aload_n 0, 1) := by decide +kernel
theorem dX0_addLock_32 : decode cX0_addLock 32 = .ok (.getfield 33, 3) := by decide +kernel
theorem dX0_addLock_35 : decode cX0_addLock 35 = .ok (.iconst 1, 1) := by decide +kernel
theorem dX0_addLock_36 : decode cX0_addLock 36 = .ok (.iload_n 2, 1) := by decide +kernel
theorem dX0_addLock_37 : decode cX0_addLock 37 = .ok (.ishl, 1) := by decide +kernel
theorem dX0_addLock_38 : decode cX0_addLock 38 = .ok (.ior, 1) := by decide +kernel
theorem dX0_addLock_39 : decode cX0_addLock 39 = .ok (.goto 7, 3) := by decide +kernel
theorem dX0_addLock_42 : decode cX0_addLock 42 = .ok (.aload_n 0, 1) := by decide +kernel
theorem dX0_addLock_43 : decode cX0_addLock 43 = .ok (.getfield 33, 3) := by decide +kernel
theorem dX0_addLock_46 : decode cX0_addLock 46 = .ok (.putfield 33, 3) := by decide +kernel
theorem dX0_addLock_49 : decode cX0_addLock 49 = .ok (.iconst 0, 1) := by decide +kernel
theorem dX0_addLock_50 : decode cX0_addLock 50 = .ok (.istore_n 3, 1) := by decide +kernel
theorem dX0_addLock_51 : decode cX0_addLock 51 = .ok (.iload_n 3, 1) := by decide +kernel
theorem dX0_addLock_52 : decode cX0_addLock 52 = .ok (.iconst 5, 1) := by decide +kernel
theorem dX0_addLock_53 : decode cX0_addLock 53 = .ok (.if_icmp .ge 16, 3) := by decide +kernel
theorem dX0_addLock_56 : decode cX0_addLock 56 = .ok (.aload_n 0, 1) := by decide +kernel
theorem dX0_addLock_57 : decode cX0_addLock 57 = .ok (.iload_n 2, 1) := by decide +kernel
theorem dX0_addLock_58 : decode cX0_addLock 58 = .ok (.iload_n 3, 1) := by decide +kernel
theorem dX0_addLock_59 : decode cX0_addLock 59 = .ok (.iconst 0, 1) := by decide +kernel
theorem dX0_addLock_60 : decode cX0_addLock 60 = .ok (.invokevirtual 72, 3) := by decide +kernel
theorem dX0_addLock_63 : decode cX0_addLock 63 = .ok (.iinc 3 1, 3) := by decide +kernel
theorem dX0_addLock_66 : decode cX0_addLock 66 = .ok (.goto (-15), 3) := by decide +kernel
theorem dX0_addLock_69 : decode cX0_addLock 69 = .ok (.iload_n 2, 1) := by decide +kernel
theorem dX0_addLock_70 : decode cX0_addLock 70 = .ok (.ireturn, 1) := by decide +kernel
theorem dX0_hasWard_0 : decode cX0_hasWard 0 = .ok (.aload_n 0, 1) := by decide +kernel
theorem dX0_hasWard_1 : decode cX0_hasWard 1 = .ok (.getfield 33, 3) := by decide +kernel
theorem dX0_hasWard_4 : decode cX0_hasWard 4 = .ok (.iload_n 1, 1) := by decide +kernel
theorem dX0_hasWard_5 : decode cX0_hasWard 5 = .ok (.invokestatic 76, 3) := by decide +kernel
theorem dX0_hasWard_8 : decode cX0_hasWard 8 = .ok (.ireturn, 1) := by decide +kernel
theorem dX0_asksAt_0 : decode cX0_asksAt 0 = .ok (.aload_n 0, 1) := by decide +kernel
theorem dX0_asksAt_1 : decode cX0_asksAt 1 = .ok (.getfield 47, 3) := by decide +kernel
theorem dX0_asksAt_4 : decode cX0_asksAt 4 = .ok (.iload_n 1, 1) := by decide +kernel
theorem dX0_asksAt_5 : decode cX0_asksAt 5 = .ok (.iconst 5, 1) := by decide +kernel
theorem dX0_asksAt_6 : decode cX0_asksAt 6 = .ok (.imul, 1) := by decide +kernel
theorem dX0_asksAt_7 : decode cX0_asksAt 7 = .ok (.iload_n 2, 1) := by decide +kernel
theorem dX0_asksAt_8 : decode cX0_asksAt 8 = .ok (.iadd, 1) := by decide +kernel
theorem dX0_asksAt_9 : decode cX0_asksAt 9 = .ok (.invokestatic 80, 3) := by decide +kernel
theorem dX0_asksAt_12 : decode cX0_asksAt 12 = .ok (.ireturn, 1) := by decide +kernel
theorem dX0_putAsks_0 : decode cX0_putAsks 0 = .ok (.aload_n 0, 1) := by decide +kernel
theorem dX0_putAsks_1 : decode cX0_putAsks 1 = .ok (.getfield 47, 3) := by decide +kernel
theorem dX0_putAsks_4 : decode cX0_putAsks 4 = .ok (.iload_n 1, 1) := by decide +kernel
theorem dX0_putAsks_5 : decode cX0_putAsks 5 = .ok (.iconst 5, 1) := by decide +kernel
theorem dX0_putAsks_6 : decode cX0_putAsks 6 = .ok (.imul, 1) := by decide +kernel
theorem dX0_putAsks_7 : decode cX0_putAsks 7 = .ok (.iload_n 2, 1) := by decide +kernel
theorem dX0_putAsks_8 : decode cX0_putAsks 8 = .ok (.iadd, 1) := by decide +kernel
theorem dX0_putAsks_9 : decode cX0_putAsks 9 = .ok (.iload_n 3, 1) := by decide +kernel
theorem dX0_putAsks_10 : decode cX0_putAsks 10 = .ok (.invokestatic 84, 3) := by decide +kernel
theorem dX0_putAsks_13 : decode cX0_putAsks 13 = .ok (.iconst 1, 1) := by decide +kernel
theorem dX0_putAsks_14 : decode cX0_putAsks 14 = .ok (.iload_n 1, 1) := by decide +kernel
theorem dX0_putAsks_15 : decode cX0_putAsks 15 = .ok (.ishl, 1) := by decide +kernel
theorem dX0_putAsks_16 : decode cX0_putAsks 16 = .ok (.istore 4, 2) := by decide +kernel
theorem dX0_putAsks_18 : decode cX0_putAsks 18 = .ok (.iconst 0, 1) := by decide +kernel
theorem dX0_putAsks_19 : decode cX0_putAsks 19 = .ok (.istore 5, 2) := by decide +kernel
theorem dX0_putAsks_21 : decode cX0_putAsks 21 = .ok (.iload 5, 2) := by decide +kernel
theorem dX0_putAsks_23 : decode cX0_putAsks 23 = .ok (.iconst 5, 1) := by decide +kernel
theorem dX0_putAsks_24 : decode cX0_putAsks 24 = .ok (.if_icmp .ge 52, 3) := by decide +kernel
theorem dX0_putAsks_27 : decode cX0_putAsks 27 = .ok (.aload_n 0, 1) := by decide +kernel
theorem dX0_putAsks_28 : decode cX0_putAsks 28 = .ok (.iload_n 2, 1) := by decide +kernel
theorem dX0_putAsks_29 : decode cX0_putAsks 29 = .ok (.iload 5, 2) := by decide +kernel
theorem dX0_putAsks_31 : decode cX0_putAsks 31 = .ok (.invokevirtual 88, 3) := by decide +kernel
theorem dX0_putAsks_34 : decode cX0_putAsks 34 = .ok (.iload 4, 2) := by decide +kernel
theorem dX0_putAsks_36 : decode cX0_putAsks 36 = .ok (.iconst (-1), 1) := by decide +kernel
theorem dX0_putAsks_37 : decode cX0_putAsks 37 = .ok (.ixor, 1) := by decide +kernel
theorem dX0_putAsks_38 : decode cX0_putAsks 38 = .ok (.iand, 1) := by decide +kernel
theorem dX0_putAsks_39 : decode cX0_putAsks 39 = .ok (.istore 6, 2) := by decide +kernel
theorem dX0_putAsks_41 : decode cX0_putAsks 41 = .ok (.aload_n 0, 1) := by decide +kernel
theorem dX0_putAsks_42 : decode cX0_putAsks 42 = .ok (.getfield 51, 3) := by decide +kernel
theorem dX0_putAsks_45 : decode cX0_putAsks 45 = .ok (.iload_n 2, 1) := by decide +kernel
theorem dX0_putAsks_46 : decode cX0_putAsks 46 = .ok (.iconst 5, 1) := by decide +kernel
theorem dX0_putAsks_47 : decode cX0_putAsks 47 = .ok (.imul, 1) := by decide +kernel
theorem dX0_putAsks_48 : decode cX0_putAsks 48 = .ok (.iload 5, 2) := by decide +kernel
theorem dX0_putAsks_50 : decode cX0_putAsks 50 = .ok (.iadd, 1) := by decide +kernel
theorem dX0_putAsks_51 : decode cX0_putAsks 51 = .ok (.iload 5, 2) := by decide +kernel
theorem dX0_putAsks_53 : decode cX0_putAsks 53 = .ok (.iload_n 3, 1) := by decide +kernel
theorem dX0_putAsks_54 : decode cX0_putAsks 54 = .ok (.if_icmp .lt 11, 3) := by decide +kernel
theorem dX0_putAsks_57 : decode cX0_putAsks 57 = .ok (.iload 6, 2) := by decide +kernel
theorem dX0_putAsks_59 : decode cX0_putAsks 59 = .ok (.iload 4, 2) := by decide +kernel
theorem dX0_putAsks_61 : decode cX0_putAsks 61 = .ok (.ior, 1) := by decide +kernel
theorem dX0_putAsks_62 : decode cX0_putAsks 62 = .ok (.goto 5, 3) := by decide +kernel
theorem dX0_putAsks_65 : decode cX0_putAsks 65 = .ok (.iload 6, 2) := by decide +kernel
theorem dX0_putAsks_67 : decode cX0_putAsks 67 = .ok (.invokestatic 84, 3) := by decide +kernel
theorem dX0_putAsks_70 : decode cX0_putAsks 70 = .ok (.iinc 5 1, 3) := by decide +kernel
theorem dX0_putAsks_73 : decode cX0_putAsks 73 = .ok (.goto (-52), 3) := by decide +kernel
theorem dX0_putAsks_76 : decode cX0_putAsks 76 = .ok (.return_, 1) := by decide +kernel
theorem dX0_locksWithin_0 : decode cX0_locksWithin 0 = .ok (.aload_n 0, 1) := by decide +kernel
theorem dX0_locksWithin_1 : decode cX0_locksWithin 1 = .ok (.getfield 51, 3) := by decide +kernel
theorem dX0_locksWithin_4 : decode cX0_locksWithin 4 = .ok (.iload_n 1, 1) := by decide +kernel
theorem dX0_locksWithin_5 : decode cX0_locksWithin 5 = .ok (.iconst 5, 1) := by decide +kernel
theorem dX0_locksWithin_6 : decode cX0_locksWithin 6 = .ok (.imul, 1) := by decide +kernel
theorem dX0_locksWithin_7 : decode cX0_locksWithin 7 = .ok (.iload_n 2, 1) := by decide +kernel
theorem dX0_locksWithin_8 : decode cX0_locksWithin 8 = .ok (.iadd, 1) := by decide +kernel
theorem dX0_locksWithin_9 : decode cX0_locksWithin 9 = .ok (.invokestatic 80, 3) := by decide +kernel
theorem dX0_locksWithin_12 : decode cX0_locksWithin 12 = .ok (.ireturn, 1) := by decide +kernel
theorem dX0_asksTogether_0 : decode cX0_asksTogether 0 = .ok (.iconst 0, 1) := by decide +kernel
theorem dX0_asksTogether_1 : decode cX0_asksTogether 1 = .ok (.istore_n 2, 1) := by decide +kernel
theorem dX0_asksTogether_2 : decode cX0_asksTogether 2 = .ok (.iconst 0, 1) := by decide +kernel
theorem dX0_asksTogether_3 : decode cX0_asksTogether 3 = .ok (.istore_n 3, 1) := by decide +kernel
theorem dX0_asksTogether_4 : decode cX0_asksTogether 4 = .ok (.iload_n 3, 1) := by decide +kernel
theorem dX0_asksTogether_5 : decode cX0_asksTogether 5 = .ok (.aload_n 0, 1) := by decide +kernel
theorem dX0_asksTogether_6 : decode cX0_asksTogether 6 = .ok (.getfield 9, 3) := by decide +kernel
theorem dX0_asksTogether_9 : decode cX0_asksTogether 9 = .ok (.if_icmp .ge 18, 3) := by decide +kernel
theorem dX0_asksTogether_12 : decode cX0_asksTogether 12 = .ok (.iload_n 2, 1) := by decide +kernel
theorem dX0_asksTogether_13 : decode cX0_asksTogether 13 = .ok (.aload_n 0, 1) := by decide +kernel
theorem dX0_asksTogether_14 : decode cX0_asksTogether 14 = .ok (.iload_n 1, 1) := by decide +kernel
theorem dX0_asksTogether_15 : decode cX0_asksTogether 15 = .ok (.iload_n 3, 1) := by decide +kernel
theorem dX0_asksTogether_16 : decode cX0_asksTogether 16 = .ok (.invokevirtual 92, 3) := by decide +kernel
theorem dX0_asksTogether_19 : decode cX0_asksTogether 19 = .ok (.iadd, 1) := by decide +kernel
theorem dX0_asksTogether_20 : decode cX0_asksTogether 20 = .ok (.istore_n 2, 1) := by decide +kernel
theorem dX0_asksTogether_21 : decode cX0_asksTogether 21 = .ok (.iinc 3 1, 3) := by decide +kernel
theorem dX0_asksTogether_24 : decode cX0_asksTogether 24 = .ok (.goto (-20), 3) := by decide +kernel
theorem dX0_asksTogether_27 : decode cX0_asksTogether 27 = .ok (.iload_n 2, 1) := by decide +kernel
theorem dX0_asksTogether_28 : decode cX0_asksTogether 28 = .ok (.ireturn, 1) := by decide +kernel
theorem dX0_asksAsMuch_0 : decode cX0_asksAsMuch 0 = .ok (.iconst 0, 1) := by decide +kernel
theorem dX0_asksAsMuch_1 : decode cX0_asksAsMuch 1 = .ok (.istore_n 3, 1) := by decide +kernel
theorem dX0_asksAsMuch_2 : decode cX0_asksAsMuch 2 = .ok (.iload_n 3, 1) := by decide +kernel
theorem dX0_asksAsMuch_3 : decode cX0_asksAsMuch 3 = .ok (.aload_n 0, 1) := by decide +kernel
theorem dX0_asksAsMuch_4 : decode cX0_asksAsMuch 4 = .ok (.getfield 9, 3) := by decide +kernel
theorem dX0_asksAsMuch_7 : decode cX0_asksAsMuch 7 = .ok (.if_icmp .ge 26, 3) := by decide +kernel
theorem dX0_asksAsMuch_10 : decode cX0_asksAsMuch 10 = .ok (.aload_n 0, 1) := by decide +kernel
theorem dX0_asksAsMuch_11 : decode cX0_asksAsMuch 11 = .ok (.iload_n 1, 1) := by decide +kernel
theorem dX0_asksAsMuch_12 : decode cX0_asksAsMuch 12 = .ok (.iload_n 3, 1) := by decide +kernel
theorem dX0_asksAsMuch_13 : decode cX0_asksAsMuch 13 = .ok (.invokevirtual 92, 3) := by decide +kernel
theorem dX0_asksAsMuch_16 : decode cX0_asksAsMuch 16 = .ok (.aload_n 0, 1) := by decide +kernel
theorem dX0_asksAsMuch_17 : decode cX0_asksAsMuch 17 = .ok (.iload_n 2, 1) := by decide +kernel
theorem dX0_asksAsMuch_18 : decode cX0_asksAsMuch 18 = .ok (.iload_n 3, 1) := by decide +kernel
theorem dX0_asksAsMuch_19 : decode cX0_asksAsMuch 19 = .ok (.invokevirtual 92, 3) := by decide +kernel
theorem dX0_asksAsMuch_22 : decode cX0_asksAsMuch 22 = .ok (.if_icmp .ge 5, 3) := by decide +kernel
theorem dX0_asksAsMuch_25 : decode cX0_asksAsMuch 25 = .ok (.iconst 0, 1) := by decide +kernel
theorem dX0_asksAsMuch_26 : decode cX0_asksAsMuch 26 = .ok (.ireturn, 1) := by decide +kernel
theorem dX0_asksAsMuch_27 : decode cX0_asksAsMuch 27 = .ok (.iinc 3 1, 3) := by decide +kernel
theorem dX0_asksAsMuch_30 : decode cX0_asksAsMuch 30 = .ok (.goto (-28), 3) := by decide +kernel
theorem dX0_asksAsMuch_33 : decode cX0_asksAsMuch 33 = .ok (.iconst 1, 1) := by decide +kernel
theorem dX0_asksAsMuch_34 : decode cX0_asksAsMuch 34 = .ok (.ireturn, 1) := by decide +kernel
theorem dX0_sum_0 : decode cX0_sum 0 = .ok (.iconst 0, 1) := by decide +kernel
theorem dX0_sum_1 : decode cX0_sum 1 = .ok (.istore_n 2, 1) := by decide +kernel
theorem dX0_sum_2 : decode cX0_sum 2 = .ok (.iconst 0, 1) := by decide +kernel
theorem dX0_sum_3 : decode cX0_sum 3 = .ok (.istore_n 3, 1) := by decide +kernel
theorem dX0_sum_4 : decode cX0_sum 4 = .ok (.iload_n 3, 1) := by decide +kernel
theorem dX0_sum_5 : decode cX0_sum 5 = .ok (.aload_n 0, 1) := by decide +kernel
theorem dX0_sum_6 : decode cX0_sum 6 = .ok (.getfield 9, 3) := by decide +kernel
theorem dX0_sum_9 : decode cX0_sum 9 = .ok (.if_icmp .ge 21, 3) := by decide +kernel
theorem dX0_sum_12 : decode cX0_sum 12 = .ok (.iload_n 3, 1) := by decide +kernel
theorem dX0_sum_13 : decode cX0_sum 13 = .ok (.aload_n 1, 1) := by decide +kernel
theorem dX0_sum_14 : decode cX0_sum 14 = .ok (.arraylength, 1) := by decide +kernel
theorem dX0_sum_15 : decode cX0_sum 15 = .ok (.if_icmp .ge 15, 3) := by decide +kernel
theorem dX0_sum_18 : decode cX0_sum 18 = .ok (.iload_n 2, 1) := by decide +kernel
theorem dX0_sum_19 : decode cX0_sum 19 = .ok (.aload_n 1, 1) := by decide +kernel
theorem dX0_sum_20 : decode cX0_sum 20 = .ok (.iload_n 3, 1) := by decide +kernel
theorem dX0_sum_21 : decode cX0_sum 21 = .ok (.iaload, 1) := by decide +kernel
theorem dX0_sum_22 : decode cX0_sum 22 = .ok (.iadd, 1) := by decide +kernel
theorem dX0_sum_23 : decode cX0_sum 23 = .ok (.istore_n 2, 1) := by decide +kernel
theorem dX0_sum_24 : decode cX0_sum 24 = .ok (.iinc 3 1, 3) := by decide +kernel
theorem dX0_sum_27 : decode cX0_sum 27 = .ok (.goto (-23), 3) := by decide +kernel
theorem dX0_sum_30 : decode cX0_sum 30 = .ok (.iload_n 2, 1) := by decide +kernel
theorem dX0_sum_31 : decode cX0_sum 31 = .ok (.ireturn, 1) := by decide +kernel
theorem dX0_bears_0 : decode cX0_bears 0 = .ok (.aload_n 1, 1) := by decide +kernel
theorem dX0_bears_1 : decode cX0_bears 1 = .ok (.getfield 95, 3) := by decide +kernel
theorem dX0_bears_4 : decode cX0_bears 4 = .ok (.iconst 2, 1) := by decide +kernel
theorem dX0_bears_5 : decode cX0_bears 5 = .ok (.if_icmp .eq 16, 3) := by decide +kernel
theorem dX0_bears_8 : decode cX0_bears 8 = .ok (.aload_n 1, 1) := by decide +kernel
theorem dX0_bears_9 : decode cX0_bears 9 = .ok (.getfield 95, 3) := by decide +kernel
theorem dX0_bears_12 : decode cX0_bears 12 = .ok (.iconst 4, 1) := by decide +kernel
theorem dX0_bears_13 : decode cX0_bears 13 = .ok (.if_icmp .eq 8, 3) := by decide +kernel
theorem dX0_bears_16 : decode cX0_bears 16 = .ok (.aload_n 0, 1) := by decide +kernel
theorem dX0_bears_17 : decode cX0_bears 17 = .ok (.getfield 18, 3) := by decide +kernel
theorem dX0_bears_20 : decode cX0_bears 20 = .ok (.ireturn, 1) := by decide +kernel
theorem dX0_bears_21 : decode cX0_bears 21 = .ok (.aload_n 0, 1) := by decide +kernel
theorem dX0_bears_22 : decode cX0_bears 22 = .ok (.getfield 18, 3) := by decide +kernel
theorem dX0_bears_25 : decode cX0_bears 25 = .ok (.aload_n 1, 1) := by decide +kernel
theorem dX0_bears_26 : decode cX0_bears 26 = .ok (.getfield 98, 3) := by decide +kernel
theorem dX0_bears_29 : decode cX0_bears 29 = .ok (.if_icmp .le 15, 3) := by decide +kernel
theorem dX0_bears_32 : decode cX0_bears 32 = .ok (.aload_n 0, 1) := by decide +kernel
theorem dX0_bears_33 : decode cX0_bears 33 = .ok (.getfield 18, 3) := by decide +kernel
theorem dX0_bears_36 : decode cX0_bears 36 = .ok (.aload_n 1, 1) := by decide +kernel
theorem dX0_bears_37 : decode cX0_bears 37 = .ok (.getfield 98, 3) := by decide +kernel
theorem dX0_bears_40 : decode cX0_bears 40 = .ok (.isub, 1) := by decide +kernel
theorem dX0_bears_41 : decode cX0_bears 41 = .ok (.goto 4, 3) := by decide +kernel
theorem dX0_bears_44 : decode cX0_bears 44 = .ok (.iconst 0, 1) := by decide +kernel
theorem dX0_bears_45 : decode cX0_bears 45 = .ok (.ireturn, 1) := by decide +kernel
theorem dX0_breaks_0 : decode cX0_breaks 0 = .ok (.aload_n 0, 1) := by decide +kernel
theorem dX0_breaks_1 : decode cX0_breaks 1 = .ok (.aload_n 2, 1) := by decide +kernel
theorem dX0_breaks_2 : decode cX0_breaks 2 = .ok (.invokevirtual 101, 3) := by decide +kernel
theorem dX0_breaks_5 : decode cX0_breaks 5 = .ok (.aload_n 0, 1) := by decide +kernel
theorem dX0_breaks_6 : decode cX0_breaks 6 = .ok (.aload_n 1, 1) := by decide +kernel
theorem dX0_breaks_7 : decode cX0_breaks 7 = .ok (.invokevirtual 105, 3) := by decide +kernel
theorem dX0_breaks_10 : decode cX0_breaks 10 = .ok (.if_icmp .le 7, 3) := by decide +kernel
theorem dX0_breaks_13 : decode cX0_breaks 13 = .ok (.iconst 1, 1) := by decide +kernel
theorem dX0_breaks_14 : decode cX0_breaks 14 = .ok (.goto 4, 3) := by decide +kernel
theorem dX0_breaks_17 : decode cX0_breaks 17 = .ok (.iconst 0, 1) := by decide +kernel
theorem dX0_breaks_18 : decode cX0_breaks 18 = .ok (.ireturn, 1) := by decide +kernel
theorem dX0_wornPlace_0 : decode cX0_wornPlace 0 = .ok (.aload_n 1, 1) := by decide +kernel
theorem dX0_wornPlace_1 : decode cX0_wornPlace 1 = .ok (.getfield 95, 3) := by decide +kernel
theorem dX0_wornPlace_4 : decode cX0_wornPlace 4 = .ok (.iconst 1, 1) := by decide +kernel
theorem dX0_wornPlace_5 : decode cX0_wornPlace 5 = .ok (.if_icmp .ne 22, 3) := by decide +kernel
theorem dX0_wornPlace_8 : decode cX0_wornPlace 8 = .ok (.aload_n 0, 1) := by decide +kernel
theorem dX0_wornPlace_9 : decode cX0_wornPlace 9 = .ok (.getfield 9, 3) := by decide +kernel
theorem dX0_wornPlace_12 : decode cX0_wornPlace 12 = .ok (.ifCond .le 15, 3) := by decide +kernel
theorem dX0_wornPlace_15 : decode cX0_wornPlace 15 = .ok (.aload_n 1, 1) := by decide +kernel
theorem dX0_wornPlace_16 : decode cX0_wornPlace 16 = .ok (.getfield 98, 3) := by decide +kernel
theorem dX0_wornPlace_19 : decode cX0_wornPlace 19 = .ok (.aload_n 0, 1) := by decide +kernel
theorem dX0_wornPlace_20 : decode cX0_wornPlace 20 = .ok (.getfield 9, 3) := by decide +kernel
theorem dX0_wornPlace_23 : decode cX0_wornPlace 23 = .ok (.irem, 1) := by decide +kernel
theorem dX0_wornPlace_24 : decode cX0_wornPlace 24 = .ok (.goto 4, 3) := by decide +kernel
theorem dX0_wornPlace_27 : decode cX0_wornPlace 27 = .ok (.iconst (-1), 1) := by decide +kernel
theorem dX0_wornPlace_28 : decode cX0_wornPlace 28 = .ok (.ireturn, 1) := by decide +kernel
theorem dX0_depth_0 : decode cX0_depth 0 = .ok (.aload_n 2, 1) := by decide +kernel
theorem dX0_depth_1 : decode cX0_depth 1 = .ok (.iload_n 3, 1) := by decide +kernel
theorem dX0_depth_2 : decode cX0_depth 2 = .ok (.invokestatic 80, 3) := by decide +kernel
theorem dX0_depth_5 : decode cX0_depth 5 = .ok (.istore 4, 2) := by decide +kernel
theorem dX0_depth_7 : decode cX0_depth 7 = .ok (.iload 4, 2) := by decide +kernel
theorem dX0_depth_9 : decode cX0_depth 9 = .ok (.aload_n 0, 1) := by decide +kernel
theorem dX0_depth_10 : decode cX0_depth 10 = .ok (.getfield 15, 3) := by decide +kernel
theorem dX0_depth_13 : decode cX0_depth 13 = .ok (.if_icmp .ge 19, 3) := by decide +kernel
theorem dX0_depth_16 : decode cX0_depth 16 = .ok (.iload_n 3, 1) := by decide +kernel
theorem dX0_depth_17 : decode cX0_depth 17 = .ok (.aload_n 0, 1) := by decide +kernel
theorem dX0_depth_18 : decode cX0_depth 18 = .ok (.aload_n 1, 1) := by decide +kernel
theorem dX0_depth_19 : decode cX0_depth 19 = .ok (.invokevirtual 109, 3) := by decide +kernel
theorem dX0_depth_22 : decode cX0_depth 22 = .ok (.if_icmp .ne 10, 3) := by decide +kernel
theorem dX0_depth_25 : decode cX0_depth 25 = .ok (.iload 4, 2) := by decide +kernel
theorem dX0_depth_27 : decode cX0_depth 27 = .ok (.iconst 1, 1) := by decide +kernel
theorem dX0_depth_28 : decode cX0_depth 28 = .ok (.iadd, 1) := by decide +kernel
theorem dX0_depth_29 : decode cX0_depth 29 = .ok (.goto 5, 3) := by decide +kernel
theorem dX0_depth_32 : decode cX0_depth 32 = .ok (.iload 4, 2) := by decide +kernel
theorem dX0_depth_34 : decode cX0_depth 34 = .ok (.ireturn, 1) := by decide +kernel
theorem dX0_fitted_0 : decode cX0_fitted 0 = .ok (.aload_n 0, 1) := by decide +kernel
theorem dX0_fitted_1 : decode cX0_fitted 1 = .ok (.getfield 30, 3) := by decide +kernel
theorem dX0_fitted_4 : decode cX0_fitted 4 = .ok (.invokestatic 112, 3) := by decide +kernel
theorem dX0_fitted_7 : decode cX0_fitted 7 = .ok (.istore_n 3, 1) := by decide +kernel
theorem dX0_fitted_8 : decode cX0_fitted 8 = .ok (.aload_n 0, 1) := by decide +kernel
theorem dX0_fitted_9 : decode cX0_fitted 9 = .ok (.aload_n 1, 1) := by decide +kernel
theorem dX0_fitted_10 : decode cX0_fitted 10 = .ok (.invokevirtual 109, 3) := by decide +kernel
theorem dX0_fitted_13 : decode cX0_fitted 13 = .ok (.istore 4, 2) := by decide +kernel
theorem dX0_fitted_15 : decode cX0_fitted 15 = .ok (.iconst 0, 1) := by decide +kernel
theorem dX0_fitted_16 : decode cX0_fitted 16 = .ok (.istore 5, 2) := by decide +kernel
theorem dX0_fitted_18 : decode cX0_fitted 18 = .ok (.iload 5, 2) := by decide +kernel
theorem dX0_fitted_20 : decode cX0_fitted 20 = .ok (.aload_n 0, 1) := by decide +kernel
theorem dX0_fitted_21 : decode cX0_fitted 21 = .ok (.getfield 9, 3) := by decide +kernel
theorem dX0_fitted_24 : decode cX0_fitted 24 = .ok (.if_icmp .ge 61, 3) := by decide +kernel
theorem dX0_fitted_27 : decode cX0_fitted 27 = .ok (.aload_n 2, 1) := by decide +kernel
theorem dX0_fitted_28 : decode cX0_fitted 28 = .ok (.iload 5, 2) := by decide +kernel
theorem dX0_fitted_30 : decode cX0_fitted 30 = .ok (.invokestatic 80, 3) := by decide +kernel
theorem dX0_fitted_33 : decode cX0_fitted 33 = .ok (.istore 6, 2) := by decide +kernel
theorem dX0_fitted_35 : decode cX0_fitted 35 = .ok (.iload 6, 2) := by decide +kernel
theorem dX0_fitted_37 : decode cX0_fitted 37 = .ok (.aload_n 0, 1) := by decide +kernel
theorem dX0_fitted_38 : decode cX0_fitted 38 = .ok (.getfield 15, 3) := by decide +kernel
theorem dX0_fitted_41 : decode cX0_fitted 41 = .ok (.if_icmp .ge 17, 3) := by decide +kernel
theorem dX0_fitted_44 : decode cX0_fitted 44 = .ok (.iload 5, 2) := by decide +kernel
theorem dX0_fitted_46 : decode cX0_fitted 46 = .ok (.iload 4, 2) := by decide +kernel
theorem dX0_fitted_48 : decode cX0_fitted 48 = .ok (.if_icmp .ne 10, 3) := by decide +kernel
theorem dX0_fitted_51 : decode cX0_fitted 51 = .ok (.iload 6, 2) := by decide +kernel
theorem dX0_fitted_53 : decode cX0_fitted 53 = .ok (.iconst 1, 1) := by decide +kernel
theorem dX0_fitted_54 : decode cX0_fitted 54 = .ok (.iadd, 1) := by decide +kernel
theorem dX0_fitted_55 : decode cX0_fitted 55 = .ok (.goto 5, 3) := by decide +kernel
theorem dX0_fitted_58 : decode cX0_fitted 58 = .ok (.iload 6, 2) := by decide +kernel
theorem dX0_fitted_60 : decode cX0_fitted 60 = .ok (.istore 7, 2) := by decide +kernel
theorem dX0_fitted_62 : decode cX0_fitted 62 = .ok (.iload_n 3, 1) := by decide +kernel
theorem dX0_fitted_63 : decode cX0_fitted 63 = .ok (.aload_n 0, 1) := by decide +kernel
theorem dX0_fitted_64 : decode cX0_fitted 64 = .ok (.getfield 51, 3) := by decide +kernel
theorem dX0_fitted_67 : decode cX0_fitted 67 = .ok (.iload 5, 2) := by decide +kernel
theorem dX0_fitted_69 : decode cX0_fitted 69 = .ok (.iconst 5, 1) := by decide +kernel
theorem dX0_fitted_70 : decode cX0_fitted 70 = .ok (.imul, 1) := by decide +kernel
theorem dX0_fitted_71 : decode cX0_fitted 71 = .ok (.iload 7, 2) := by decide +kernel
theorem dX0_fitted_73 : decode cX0_fitted 73 = .ok (.iadd, 1) := by decide +kernel
theorem dX0_fitted_74 : decode cX0_fitted 74 = .ok (.invokestatic 80, 3) := by decide +kernel
theorem dX0_fitted_77 : decode cX0_fitted 77 = .ok (.iand, 1) := by decide +kernel
theorem dX0_fitted_78 : decode cX0_fitted 78 = .ok (.istore_n 3, 1) := by decide +kernel
theorem dX0_fitted_79 : decode cX0_fitted 79 = .ok (.iinc 5 1, 3) := by decide +kernel
theorem dX0_fitted_82 : decode cX0_fitted 82 = .ok (.goto (-64), 3) := by decide +kernel
theorem dX0_fitted_85 : decode cX0_fitted 85 = .ok (.iload_n 3, 1) := by decide +kernel
theorem dX0_fitted_86 : decode cX0_fitted 86 = .ok (.ireturn, 1) := by decide +kernel
theorem dX0_openedByCuts_0 : decode cX0_openedByCuts 0 = .ok (.aload_n 0, 1) := by decide +kernel
theorem dX0_openedByCuts_1 : decode cX0_openedByCuts 1 = .ok (.aload_n 1, 1) := by decide +kernel
theorem dX0_openedByCuts_2 : decode cX0_openedByCuts 2 = .ok (.aload_n 2, 1) := by decide +kernel
theorem dX0_openedByCuts_3 : decode cX0_openedByCuts 3 = .ok (.invokevirtual 116, 3) := by decide +kernel
theorem dX0_openedByCuts_6 : decode cX0_openedByCuts 6 = .ok (.ifCond .eq 5, 3) := by decide +kernel
theorem dX0_openedByCuts_9 : decode cX0_openedByCuts 9 = .ok (.iconst 0, 1) := by decide +kernel
theorem dX0_openedByCuts_10 : decode cX0_openedByCuts 10 = .ok (.ireturn, 1) := by decide +kernel
theorem dX0_openedByCuts_11 : decode cX0_openedByCuts 11 = .ok (.aload_n 0, 1) := by decide +kernel
theorem dX0_openedByCuts_12 : decode cX0_openedByCuts 12 = .ok (.aload_n 1, 1) := by decide +kernel
theorem dX0_openedByCuts_13 : decode cX0_openedByCuts 13 = .ok (.aload_n 2, 1) := by decide +kernel
theorem dX0_openedByCuts_14 : decode cX0_openedByCuts 14 = .ok (.invokevirtual 120, 3) := by decide +kernel
theorem dX0_openedByCuts_17 : decode cX0_openedByCuts 17 = .ok (.istore_n 3, 1) := by decide +kernel
theorem dX0_openedByCuts_18 : decode cX0_openedByCuts 18 = .ok (.aload_n 1, 1) := by decide +kernel
theorem dX0_openedByCuts_19 : decode cX0_openedByCuts 19 = .ok (.iconst 3, 1) := by decide +kernel
theorem dX0_openedByCuts_20 : decode cX0_openedByCuts 20 = .ok (.invokevirtual 124, 3) := by decide +kernel
theorem dX0_openedByCuts_23 : decode cX0_openedByCuts 23 = .ok (.ifCond .eq 7, 3) := by decide +kernel
theorem dX0_openedByCuts_26 : decode cX0_openedByCuts 26 = .ok (.iload_n 3, 1) := by decide +kernel
theorem dX0_openedByCuts_27 : decode cX0_openedByCuts 27 = .ok (.goto 11, 3) := by decide +kernel
theorem dX0_openedByCuts_30 : decode cX0_openedByCuts 30 = .ok (.iload_n 3, 1) := by decide +kernel
theorem dX0_openedByCuts_31 : decode cX0_openedByCuts 31 = .ok (.aload_n 0, 1) := by decide +kernel
theorem dX0_openedByCuts_32 : decode cX0_openedByCuts 32 = .ok (.getfield 33, 3) := by decide +kernel
theorem dX0_openedByCuts_35 : decode cX0_openedByCuts 35 = .ok (.iconst (-1), 1) := by decide +kernel
theorem dX0_openedByCuts_36 : decode cX0_openedByCuts 36 = .ok (.ixor, 1) := by decide +kernel
theorem dX0_openedByCuts_37 : decode cX0_openedByCuts 37 = .ok (.iand, 1) := by decide +kernel
theorem dX0_openedByCuts_38 : decode cX0_openedByCuts 38 = .ok (.ireturn, 1) := by decide +kernel
theorem dX0_openedBesides_0 : decode cX0_openedBesides 0 = .ok (.iconst 0, 1) := by decide +kernel
theorem dX0_openedBesides_1 : decode cX0_openedBesides 1 = .ok (.istore_n 2, 1) := by decide +kernel
theorem dX0_openedBesides_2 : decode cX0_openedBesides 2 = .ok (.iconst 0, 1) := by decide +kernel
theorem dX0_openedBesides_3 : decode cX0_openedBesides 3 = .ok (.istore_n 3, 1) := by decide +kernel
theorem dX0_openedBesides_4 : decode cX0_openedBesides 4 = .ok (.iload_n 3, 1) := by decide +kernel
theorem dX0_openedBesides_5 : decode cX0_openedBesides 5 = .ok (.aload_n 0, 1) := by decide +kernel
theorem dX0_openedBesides_6 : decode cX0_openedBesides 6 = .ok (.getfield 27, 3) := by decide +kernel
theorem dX0_openedBesides_9 : decode cX0_openedBesides 9 = .ok (.if_icmp .ge 46, 3) := by decide +kernel
theorem dX0_openedBesides_12 : decode cX0_openedBesides 12 = .ok (.aload_n 1, 1) := by decide +kernel
theorem dX0_openedBesides_13 : decode cX0_openedBesides 13 = .ok (.getfield 95, 3) := by decide +kernel
theorem dX0_openedBesides_16 : decode cX0_openedBesides 16 = .ok (.iconst 5, 1) := by decide +kernel
theorem dX0_openedBesides_17 : decode cX0_openedBesides 17 = .ok (.if_icmp .ne 38, 3) := by decide +kernel
theorem dX0_openedBesides_20 : decode cX0_openedBesides 20 = .ok (.aload_n 0, 1) := by decide +kernel
theorem dX0_openedBesides_21 : decode cX0_openedBesides 21 = .ok (.iload_n 3, 1) := by decide +kernel
theorem dX0_openedBesides_22 : decode cX0_openedBesides 22 = .ok (.invokevirtual 54, 3) := by decide +kernel
theorem dX0_openedBesides_25 : decode cX0_openedBesides 25 = .ok (.astore 4, 2) := by decide +kernel
theorem dX0_openedBesides_27 : decode cX0_openedBesides 27 = .ok (.aload 4, 2) := by decide +kernel
theorem dX0_openedBesides_29 : decode cX0_openedBesides 29 = .ok (.getfield 95, 3) := by decide +kernel
theorem dX0_openedBesides_32 : decode cX0_openedBesides 32 = .ok (.ifCond .ne 17, 3) := by decide +kernel
theorem dX0_openedBesides_35 : decode cX0_openedBesides 35 = .ok (.iload_n 2, 1) := by decide +kernel
theorem dX0_openedBesides_36 : decode cX0_openedBesides 36 = .ok (.aload_n 0, 1) := by decide +kernel
theorem dX0_openedBesides_37 : decode cX0_openedBesides 37 = .ok (.aload 4, 2) := by decide +kernel
theorem dX0_openedBesides_39 : decode cX0_openedBesides 39 = .ok (.aload 4, 2) := by decide +kernel
theorem dX0_openedBesides_41 : decode cX0_openedBesides 41 = .ok (.getfield 128, 3) := by decide +kernel
theorem dX0_openedBesides_44 : decode cX0_openedBesides 44 = .ok (.invokevirtual 131, 3) := by decide +kernel
theorem dX0_openedBesides_47 : decode cX0_openedBesides 47 = .ok (.ior, 1) := by decide +kernel
theorem dX0_openedBesides_48 : decode cX0_openedBesides 48 = .ok (.istore_n 2, 1) := by decide +kernel
theorem dX0_openedBesides_49 : decode cX0_openedBesides 49 = .ok (.iinc 3 1, 3) := by decide +kernel
theorem dX0_openedBesides_52 : decode cX0_openedBesides 52 = .ok (.goto (-48), 3) := by decide +kernel
theorem dX0_openedBesides_55 : decode cX0_openedBesides 55 = .ok (.iload_n 2, 1) := by decide +kernel
theorem dX0_openedBesides_56 : decode cX0_openedBesides 56 = .ok (.ireturn, 1) := by decide +kernel
theorem dX0_openedAs_0 : decode cX0_openedAs 0 = .ok (.aload_n 0, 1) := by decide +kernel
theorem dX0_openedAs_1 : decode cX0_openedAs 1 = .ok (.aload_n 1, 1) := by decide +kernel
theorem dX0_openedAs_2 : decode cX0_openedAs 2 = .ok (.aload_n 2, 1) := by decide +kernel
theorem dX0_openedAs_3 : decode cX0_openedAs 3 = .ok (.invokevirtual 116, 3) := by decide +kernel
theorem dX0_openedAs_6 : decode cX0_openedAs 6 = .ok (.ifCond .eq 7, 3) := by decide +kernel
theorem dX0_openedAs_9 : decode cX0_openedAs 9 = .ok (.iconst 0, 1) := by decide +kernel
theorem dX0_openedAs_10 : decode cX0_openedAs 10 = .ok (.goto 11, 3) := by decide +kernel
theorem dX0_openedAs_13 : decode cX0_openedAs 13 = .ok (.aload_n 0, 1) := by decide +kernel
theorem dX0_openedAs_14 : decode cX0_openedAs 14 = .ok (.aload_n 1, 1) := by decide +kernel
theorem dX0_openedAs_15 : decode cX0_openedAs 15 = .ok (.aload_n 2, 1) := by decide +kernel
theorem dX0_openedAs_16 : decode cX0_openedAs 16 = .ok (.invokevirtual 131, 3) := by decide +kernel
theorem dX0_openedAs_19 : decode cX0_openedAs 19 = .ok (.iload_n 3, 1) := by decide +kernel
theorem dX0_openedAs_20 : decode cX0_openedAs 20 = .ok (.ior, 1) := by decide +kernel
theorem dX0_openedAs_21 : decode cX0_openedAs 21 = .ok (.ireturn, 1) := by decide +kernel
theorem dX0_openedBy_0 : decode cX0_openedBy 0 = .ok (.aload_n 0, 1) := by decide +kernel
theorem dX0_openedBy_1 : decode cX0_openedBy 1 = .ok (.iload_n 1, 1) := by decide +kernel
theorem dX0_openedBy_2 : decode cX0_openedBy 2 = .ok (.invokevirtual 54, 3) := by decide +kernel
theorem dX0_openedBy_5 : decode cX0_openedBy 5 = .ok (.astore_n 2, 1) := by decide +kernel
theorem dX0_openedBy_6 : decode cX0_openedBy 6 = .ok (.aload_n 0, 1) := by decide +kernel
theorem dX0_openedBy_7 : decode cX0_openedBy 7 = .ok (.aload_n 2, 1) := by decide +kernel
theorem dX0_openedBy_8 : decode cX0_openedBy 8 = .ok (.aload_n 2, 1) := by decide +kernel
theorem dX0_openedBy_9 : decode cX0_openedBy 9 = .ok (.getfield 128, 3) := by decide +kernel
theorem dX0_openedBy_12 : decode cX0_openedBy 12 = .ok (.aload_n 0, 1) := by decide +kernel
theorem dX0_openedBy_13 : decode cX0_openedBy 13 = .ok (.aload_n 2, 1) := by decide +kernel
theorem dX0_openedBy_14 : decode cX0_openedBy 14 = .ok (.invokevirtual 134, 3) := by decide +kernel
theorem dX0_openedBy_17 : decode cX0_openedBy 17 = .ok (.invokevirtual 137, 3) := by decide +kernel
theorem dX0_openedBy_20 : decode cX0_openedBy 20 = .ok (.ireturn, 1) := by decide +kernel
theorem dX0_openersOf_0 : decode cX0_openersOf 0 = .ok (.iconst 0, 1) := by decide +kernel
theorem dX0_openersOf_1 : decode cX0_openersOf 1 = .ok (.istore_n 2, 1) := by decide +kernel
theorem dX0_openersOf_2 : decode cX0_openersOf 2 = .ok (.iconst 0, 1) := by decide +kernel
theorem dX0_openersOf_3 : decode cX0_openersOf 3 = .ok (.istore_n 3, 1) := by decide +kernel
theorem dX0_openersOf_4 : decode cX0_openersOf 4 = .ok (.iload_n 3, 1) := by decide +kernel
theorem dX0_openersOf_5 : decode cX0_openersOf 5 = .ok (.aload_n 0, 1) := by decide +kernel
theorem dX0_openersOf_6 : decode cX0_openersOf 6 = .ok (.getfield 27, 3) := by decide +kernel
theorem dX0_openersOf_9 : decode cX0_openersOf 9 = .ok (.if_icmp .ge 27, 3) := by decide +kernel
theorem dX0_openersOf_12 : decode cX0_openersOf 12 = .ok (.aload_n 0, 1) := by decide +kernel
theorem dX0_openersOf_13 : decode cX0_openersOf 13 = .ok (.iload_n 3, 1) := by decide +kernel
theorem dX0_openersOf_14 : decode cX0_openersOf 14 = .ok (.invokevirtual 141, 3) := by decide +kernel
theorem dX0_openersOf_17 : decode cX0_openersOf 17 = .ok (.iload_n 1, 1) := by decide +kernel
theorem dX0_openersOf_18 : decode cX0_openersOf 18 = .ok (.invokestatic 76, 3) := by decide +kernel
theorem dX0_openersOf_21 : decode cX0_openersOf 21 = .ok (.ifCond .eq 9, 3) := by decide +kernel
theorem dX0_openersOf_24 : decode cX0_openersOf 24 = .ok (.iload_n 2, 1) := by decide +kernel
theorem dX0_openersOf_25 : decode cX0_openersOf 25 = .ok (.iconst 1, 1) := by decide +kernel
theorem dX0_openersOf_26 : decode cX0_openersOf 26 = .ok (.iload_n 3, 1) := by decide +kernel
theorem dX0_openersOf_27 : decode cX0_openersOf 27 = .ok (.ishl, 1) := by decide +kernel
theorem dX0_openersOf_28 : decode cX0_openersOf 28 = .ok (.ior, 1) := by decide +kernel
theorem dX0_openersOf_29 : decode cX0_openersOf 29 = .ok (.istore_n 2, 1) := by decide +kernel
theorem dX0_openersOf_30 : decode cX0_openersOf 30 = .ok (.iinc 3 1, 3) := by decide +kernel
theorem dX0_openersOf_33 : decode cX0_openersOf 33 = .ok (.goto (-29), 3) := by decide +kernel
theorem dX0_openersOf_36 : decode cX0_openersOf 36 = .ok (.iload_n 2, 1) := by decide +kernel
theorem dX0_openersOf_37 : decode cX0_openersOf 37 = .ok (.ireturn, 1) := by decide +kernel
theorem dX0_brokenKeys_0 : decode cX0_brokenKeys 0 = .ok (.iconst 0, 1) := by decide +kernel
theorem dX0_brokenKeys_1 : decode cX0_brokenKeys 1 = .ok (.istore_n 1, 1) := by decide +kernel
theorem dX0_brokenKeys_2 : decode cX0_brokenKeys 2 = .ok (.iconst 0, 1) := by decide +kernel
theorem dX0_brokenKeys_3 : decode cX0_brokenKeys 3 = .ok (.istore_n 2, 1) := by decide +kernel
theorem dX0_brokenKeys_4 : decode cX0_brokenKeys 4 = .ok (.iload_n 2, 1) := by decide +kernel
theorem dX0_brokenKeys_5 : decode cX0_brokenKeys 5 = .ok (.aload_n 0, 1) := by decide +kernel
theorem dX0_brokenKeys_6 : decode cX0_brokenKeys 6 = .ok (.getfield 27, 3) := by decide +kernel
theorem dX0_brokenKeys_9 : decode cX0_brokenKeys 9 = .ok (.if_icmp .ge 35, 3) := by decide +kernel
theorem dX0_brokenKeys_12 : decode cX0_brokenKeys 12 = .ok (.aload_n 0, 1) := by decide +kernel
theorem dX0_brokenKeys_13 : decode cX0_brokenKeys 13 = .ok (.aload_n 0, 1) := by decide +kernel
theorem dX0_brokenKeys_14 : decode cX0_brokenKeys 14 = .ok (.iload_n 2, 1) := by decide +kernel
theorem dX0_brokenKeys_15 : decode cX0_brokenKeys 15 = .ok (.invokevirtual 54, 3) := by decide +kernel
theorem dX0_brokenKeys_18 : decode cX0_brokenKeys 18 = .ok (.aload_n 0, 1) := by decide +kernel
theorem dX0_brokenKeys_19 : decode cX0_brokenKeys 19 = .ok (.iload_n 2, 1) := by decide +kernel
theorem dX0_brokenKeys_20 : decode cX0_brokenKeys 20 = .ok (.invokevirtual 54, 3) := by decide +kernel
theorem dX0_brokenKeys_23 : decode cX0_brokenKeys 23 = .ok (.getfield 128, 3) := by decide +kernel
theorem dX0_brokenKeys_26 : decode cX0_brokenKeys 26 = .ok (.invokevirtual 116, 3) := by decide +kernel
theorem dX0_brokenKeys_29 : decode cX0_brokenKeys 29 = .ok (.ifCond .eq 9, 3) := by decide +kernel
theorem dX0_brokenKeys_32 : decode cX0_brokenKeys 32 = .ok (.iload_n 1, 1) := by decide +kernel
theorem dX0_brokenKeys_33 : decode cX0_brokenKeys 33 = .ok (.iconst 1, 1) := by decide +kernel
theorem dX0_brokenKeys_34 : decode cX0_brokenKeys 34 = .ok (.iload_n 2, 1) := by decide +kernel
theorem dX0_brokenKeys_35 : decode cX0_brokenKeys 35 = .ok (.ishl, 1) := by decide +kernel
theorem dX0_brokenKeys_36 : decode cX0_brokenKeys 36 = .ok (.ior, 1) := by decide +kernel
theorem dX0_brokenKeys_37 : decode cX0_brokenKeys 37 = .ok (.istore_n 1, 1) := by decide +kernel
theorem dX0_brokenKeys_38 : decode cX0_brokenKeys 38 = .ok (.iinc 2 1, 3) := by decide +kernel
theorem dX0_brokenKeys_41 : decode cX0_brokenKeys 41 = .ok (.goto (-37), 3) := by decide +kernel
theorem dX0_brokenKeys_44 : decode cX0_brokenKeys 44 = .ok (.iload_n 1, 1) := by decide +kernel
theorem dX0_brokenKeys_45 : decode cX0_brokenKeys 45 = .ok (.ireturn, 1) := by decide +kernel
theorem dX0_deepen_0 : decode cX0_deepen 0 = .ok (.aload_n 1, 1) := by decide +kernel
theorem dX0_deepen_1 : decode cX0_deepen 1 = .ok (.getfield 128, 3) := by decide +kernel
theorem dX0_deepen_4 : decode cX0_deepen 4 = .ok (.iload_n 2, 1) := by decide +kernel
theorem dX0_deepen_5 : decode cX0_deepen 5 = .ok (.invokestatic 80, 3) := by decide +kernel
theorem dX0_deepen_8 : decode cX0_deepen 8 = .ok (.istore_n 3, 1) := by decide +kernel
theorem dX0_deepen_9 : decode cX0_deepen 9 = .ok (.iload_n 3, 1) := by decide +kernel
theorem dX0_deepen_10 : decode cX0_deepen 10 = .ok (.aload_n 0, 1) := by decide +kernel
theorem dX0_deepen_11 : decode cX0_deepen 11 = .ok (.getfield 15, 3) := by decide +kernel
theorem dX0_deepen_14 : decode cX0_deepen 14 = .ok (.if_icmp .lt 5, 3) := by decide +kernel
theorem dX0_deepen_17 : decode cX0_deepen 17 = .ok (.iconst 0, 1) := by decide +kernel
theorem dX0_deepen_18 : decode cX0_deepen 18 = .ok (.ireturn, 1) := by decide +kernel
theorem dX0_deepen_19 : decode cX0_deepen 19 = .ok (.aload_n 1, 1) := by decide +kernel
theorem dX0_deepen_20 : decode cX0_deepen 20 = .ok (.getfield 128, 3) := by decide +kernel
theorem dX0_deepen_23 : decode cX0_deepen 23 = .ok (.iload_n 2, 1) := by decide +kernel
theorem dX0_deepen_24 : decode cX0_deepen 24 = .ok (.iload_n 3, 1) := by decide +kernel
theorem dX0_deepen_25 : decode cX0_deepen 25 = .ok (.iconst 1, 1) := by decide +kernel
theorem dX0_deepen_26 : decode cX0_deepen 26 = .ok (.iadd, 1) := by decide +kernel
theorem dX0_deepen_27 : decode cX0_deepen 27 = .ok (.invokestatic 84, 3) := by decide +kernel
theorem dX0_deepen_30 : decode cX0_deepen 30 = .ok (.iconst 1, 1) := by decide +kernel
theorem dX0_deepen_31 : decode cX0_deepen 31 = .ok (.ireturn, 1) := by decide +kernel
theorem dX0_cost_0 : decode cX0_cost 0 = .ok (.iconst 0, 1) := by decide +kernel
theorem dX0_cost_1 : decode cX0_cost 1 = .ok (.istore_n 3, 1) := by decide +kernel
theorem dX0_cost_2 : decode cX0_cost 2 = .ok (.iconst 0, 1) := by decide +kernel
theorem dX0_cost_3 : decode cX0_cost 3 = .ok (.istore 4, 2) := by decide +kernel
theorem dX0_cost_5 : decode cX0_cost 5 = .ok (.iload 4, 2) := by decide +kernel
theorem dX0_cost_7 : decode cX0_cost 7 = .ok (.aload_n 0, 1) := by decide +kernel
theorem dX0_cost_8 : decode cX0_cost 8 = .ok (.getfield 9, 3) := by decide +kernel
theorem dX0_cost_11 : decode cX0_cost 11 = .ok (.if_icmp .ge 44, 3) := by decide +kernel
theorem dX0_cost_14 : decode cX0_cost 14 = .ok (.aload_n 1, 1) := by decide +kernel
theorem dX0_cost_15 : decode cX0_cost 15 = .ok (.getfield 128, 3) := by decide +kernel
theorem dX0_cost_18 : decode cX0_cost 18 = .ok (.iload 4, 2) := by decide +kernel
theorem dX0_cost_20 : decode cX0_cost 20 = .ok (.invokestatic 80, 3) := by decide +kernel
theorem dX0_cost_23 : decode cX0_cost 23 = .ok (.iconst 1, 1) := by decide +kernel
theorem dX0_cost_24 : decode cX0_cost 24 = .ok (.iadd, 1) := by decide +kernel
theorem dX0_cost_25 : decode cX0_cost 25 = .ok (.istore 5, 2) := by decide +kernel
theorem dX0_cost_27 : decode cX0_cost 27 = .ok (.iload 5, 2) := by decide +kernel
theorem dX0_cost_29 : decode cX0_cost 29 = .ok (.aload_n 2, 1) := by decide +kernel
theorem dX0_cost_30 : decode cX0_cost 30 = .ok (.iload 4, 2) := by decide +kernel
theorem dX0_cost_32 : decode cX0_cost 32 = .ok (.invokestatic 80, 3) := by decide +kernel
theorem dX0_cost_35 : decode cX0_cost 35 = .ok (.if_icmp .gt 14, 3) := by decide +kernel
theorem dX0_cost_38 : decode cX0_cost 38 = .ok (.iload_n 3, 1) := by decide +kernel
theorem dX0_cost_39 : decode cX0_cost 39 = .ok (.iload 5, 2) := by decide +kernel
theorem dX0_cost_41 : decode cX0_cost 41 = .ok (.iadd, 1) := by decide +kernel
theorem dX0_cost_42 : decode cX0_cost 42 = .ok (.istore_n 3, 1) := by decide +kernel
theorem dX0_cost_43 : decode cX0_cost 43 = .ok (.iinc 5 1, 3) := by decide +kernel
theorem dX0_cost_46 : decode cX0_cost 46 = .ok (.goto (-19), 3) := by decide +kernel
theorem dX0_cost_49 : decode cX0_cost 49 = .ok (.iinc 4 1, 3) := by decide +kernel
theorem dX0_cost_52 : decode cX0_cost 52 = .ok (.goto (-47), 3) := by decide +kernel
theorem dX0_cost_55 : decode cX0_cost 55 = .ok (.iload_n 3, 1) := by decide +kernel
theorem dX0_cost_56 : decode cX0_cost 56 = .ok (.ireturn, 1) := by decide +kernel
theorem dX0_advance_0 : decode cX0_advance 0 = .ok (.aload_n 0, 1) := by decide +kernel
theorem dX0_advance_1 : decode cX0_advance 1 = .ok (.getfield 9, 3) := by decide +kernel
theorem dX0_advance_4 : decode cX0_advance 4 = .ok (.iconst 1, 1) := by decide +kernel
theorem dX0_advance_5 : decode cX0_advance 5 = .ok (.isub, 1) := by decide +kernel
theorem dX0_advance_6 : decode cX0_advance 6 = .ok (.istore_n 3, 1) := by decide +kernel
theorem dX0_advance_7 : decode cX0_advance 7 = .ok (.iload_n 3, 1) := by decide +kernel
theorem dX0_advance_8 : decode cX0_advance 8 = .ok (.ifCond .lt 45, 3) := by decide +kernel
theorem dX0_advance_11 : decode cX0_advance 11 = .ok (.aload_n 1, 1) := by decide +kernel
theorem dX0_advance_12 : decode cX0_advance 12 = .ok (.iload_n 3, 1) := by decide +kernel
theorem dX0_advance_13 : decode cX0_advance 13 = .ok (.invokestatic 80, 3) := by decide +kernel
theorem dX0_advance_16 : decode cX0_advance 16 = .ok (.aload_n 0, 1) := by decide +kernel
theorem dX0_advance_17 : decode cX0_advance 17 = .ok (.getfield 15, 3) := by decide +kernel
theorem dX0_advance_20 : decode cX0_advance 20 = .ok (.if_icmp .ge 17, 3) := by decide +kernel
theorem dX0_advance_23 : decode cX0_advance 23 = .ok (.aload_n 1, 1) := by decide +kernel
theorem dX0_advance_24 : decode cX0_advance 24 = .ok (.iload_n 3, 1) := by decide +kernel
theorem dX0_advance_25 : decode cX0_advance 25 = .ok (.aload_n 1, 1) := by decide +kernel
theorem dX0_advance_26 : decode cX0_advance 26 = .ok (.iload_n 3, 1) := by decide +kernel
theorem dX0_advance_27 : decode cX0_advance 27 = .ok (.invokestatic 80, 3) := by decide +kernel
theorem dX0_advance_30 : decode cX0_advance 30 = .ok (.iconst 1, 1) := by decide +kernel
theorem dX0_advance_31 : decode cX0_advance 31 = .ok (.iadd, 1) := by decide +kernel
theorem dX0_advance_32 : decode cX0_advance 32 = .ok (.invokestatic 84, 3) := by decide +kernel
theorem dX0_advance_35 : decode cX0_advance 35 = .ok (.iconst 1, 1) := by decide +kernel
theorem dX0_advance_36 : decode cX0_advance 36 = .ok (.ireturn, 1) := by decide +kernel
theorem dX0_advance_37 : decode cX0_advance 37 = .ok (.aload_n 1, 1) := by decide +kernel
theorem dX0_advance_38 : decode cX0_advance 38 = .ok (.iload_n 3, 1) := by decide +kernel
theorem dX0_advance_39 : decode cX0_advance 39 = .ok (.aload_n 2, 1) := by decide +kernel
theorem dX0_advance_40 : decode cX0_advance 40 = .ok (.iload_n 3, 1) := by decide +kernel
theorem dX0_advance_41 : decode cX0_advance 41 = .ok (.invokestatic 80, 3) := by decide +kernel
theorem dX0_advance_44 : decode cX0_advance 44 = .ok (.invokestatic 84, 3) := by decide +kernel
theorem dX0_advance_47 : decode cX0_advance 47 = .ok (.iinc 3 (-1), 3) := by decide +kernel
theorem dX0_advance_50 : decode cX0_advance 50 = .ok (.goto (-43), 3) := by decide +kernel
theorem dX0_advance_53 : decode cX0_advance 53 = .ok (.iconst 0, 1) := by decide +kernel
theorem dX0_advance_54 : decode cX0_advance 54 = .ok (.ireturn, 1) := by decide +kernel
theorem dX0_draw_0 : decode cX0_draw 0 = .ok (.aload_n 0, 1) := by decide +kernel
theorem dX0_draw_1 : decode cX0_draw 1 = .ok (.aload_n 0, 1) := by decide +kernel
theorem dX0_draw_2 : decode cX0_draw 2 = .ok (.getfield 24, 3) := by decide +kernel
theorem dX0_draw_5 : decode cX0_draw 5 = .ok (.ldc 144, 2) := by decide +kernel
theorem dX0_draw_7 : decode cX0_draw 7 = .ok (.imul, 1) := by decide +kernel
theorem dX0_draw_8 : decode cX0_draw 8 = .ok (.sipush 12345, 3) := by decide +kernel
theorem dX0_draw_11 : decode cX0_draw 11 = .ok (.iadd, 1) := by decide +kernel
theorem dX0_draw_12 : decode cX0_draw 12 = .ok (.putfield 24, 3) := by decide +kernel
theorem dX0_draw_15 : decode cX0_draw 15 = .ok (.iload_n 1, 1) := by decide +kernel
theorem dX0_draw_16 : decode cX0_draw 16 = .ok (.ifCond .le 15, 3) := by decide +kernel
theorem dX0_draw_19 : decode cX0_draw 19 = .ok (.aload_n 0, 1) := by decide +kernel
theorem dX0_draw_20 : decode cX0_draw 20 = .ok (.getfield 24, 3) := by decide +kernel
theorem dX0_draw_23 : decode cX0_draw 23 = .ok (.bipush 16, 2) := by decide +kernel
theorem dX0_draw_25 : decode cX0_draw 25 = .ok (.iushr, 1) := by decide +kernel
theorem dX0_draw_26 : decode cX0_draw 26 = .ok (.iload_n 1, 1) := by decide +kernel
theorem dX0_draw_27 : decode cX0_draw 27 = .ok (.irem, 1) := by decide +kernel
theorem dX0_draw_28 : decode cX0_draw 28 = .ok (.goto 4, 3) := by decide +kernel
theorem dX0_draw_31 : decode cX0_draw 31 = .ok (.iconst 0, 1) := by decide +kernel
theorem dX0_draw_32 : decode cX0_draw 32 = .ok (.ireturn, 1) := by decide +kernel
theorem dX0_wear_0 : decode cX0_wear 0 = .ok (.aload_n 0, 1) := by decide +kernel
theorem dX0_wear_1 : decode cX0_wear 1 = .ok (.iconst 4, 1) := by decide +kernel
theorem dX0_wear_2 : decode cX0_wear 2 = .ok (.invokevirtual 145, 3) := by decide +kernel
theorem dX0_wear_5 : decode cX0_wear 5 = .ok (.ifCond .ne 23, 3) := by decide +kernel
theorem dX0_wear_8 : decode cX0_wear 8 = .ok (.aload_n 0, 1) := by decide +kernel
theorem dX0_wear_9 : decode cX0_wear 9 = .ok (.aload_n 1, 1) := by decide +kernel
theorem dX0_wear_10 : decode cX0_wear 10 = .ok (.aload_n 0, 1) := by decide +kernel
theorem dX0_wear_11 : decode cX0_wear 11 = .ok (.aload_n 0, 1) := by decide +kernel
theorem dX0_wear_12 : decode cX0_wear 12 = .ok (.getfield 9, 3) := by decide +kernel
theorem dX0_wear_15 : decode cX0_wear 15 = .ok (.invokevirtual 145, 3) := by decide +kernel
theorem dX0_wear_18 : decode cX0_wear 18 = .ok (.invokevirtual 148, 3) := by decide +kernel
theorem dX0_wear_21 : decode cX0_wear 21 = .ok (.ifCond .eq 7, 3) := by decide +kernel
theorem dX0_wear_24 : decode cX0_wear 24 = .ok (.iconst 1, 1) := by decide +kernel
theorem dX0_wear_25 : decode cX0_wear 25 = .ok (.goto 4, 3) := by decide +kernel
theorem dX0_wear_28 : decode cX0_wear 28 = .ok (.iconst 0, 1) := by decide +kernel
theorem dX0_wear_29 : decode cX0_wear 29 = .ok (.ireturn, 1) := by decide +kernel
theorem dX0_passDay_0 : decode cX0_passDay 0 = .ok (.aload_n 0, 1) := by decide +kernel
theorem dX0_passDay_1 : decode cX0_passDay 1 = .ok (.aload_n 0, 1) := by decide +kernel
theorem dX0_passDay_2 : decode cX0_passDay 2 = .ok (.getfield 27, 3) := by decide +kernel
theorem dX0_passDay_5 : decode cX0_passDay 5 = .ok (.invokevirtual 145, 3) := by decide +kernel
theorem dX0_passDay_8 : decode cX0_passDay 8 = .ok (.istore_n 1, 1) := by decide +kernel
theorem dX0_passDay_9 : decode cX0_passDay 9 = .ok (.aload_n 0, 1) := by decide +kernel
theorem dX0_passDay_10 : decode cX0_passDay 10 = .ok (.aload_n 0, 1) := by decide +kernel
theorem dX0_passDay_11 : decode cX0_passDay 11 = .ok (.getfield 30, 3) := by decide +kernel
theorem dX0_passDay_14 : decode cX0_passDay 14 = .ok (.invokevirtual 145, 3) := by decide +kernel
theorem dX0_passDay_17 : decode cX0_passDay 17 = .ok (.istore_n 2, 1) := by decide +kernel
theorem dX0_passDay_18 : decode cX0_passDay 18 = .ok (.aload_n 0, 1) := by decide +kernel
theorem dX0_passDay_19 : decode cX0_passDay 19 = .ok (.iload_n 1, 1) := by decide +kernel
theorem dX0_passDay_20 : decode cX0_passDay 20 = .ok (.invokevirtual 141, 3) := by decide +kernel
theorem dX0_passDay_23 : decode cX0_passDay 23 = .ok (.iload_n 2, 1) := by decide +kernel
theorem dX0_passDay_24 : decode cX0_passDay 24 = .ok (.invokestatic 76, 3) := by decide +kernel
theorem dX0_passDay_27 : decode cX0_passDay 27 = .ok (.ifCond .ne 5, 3) := by decide +kernel
theorem dX0_passDay_30 : decode cX0_passDay 30 = .ok (.iconst 0, 1) := by decide +kernel
theorem dX0_passDay_31 : decode cX0_passDay 31 = .ok (.ireturn, 1) := by decide +kernel
theorem dX0_passDay_32 : decode cX0_passDay 32 = .ok (.aload_n 0, 1) := by decide +kernel
theorem dX0_passDay_33 : decode cX0_passDay 33 = .ok (.aload_n 0, 1) := by decide +kernel
theorem dX0_passDay_34 : decode cX0_passDay 34 = .ok (.iload_n 1, 1) := by decide +kernel
theorem dX0_passDay_35 : decode cX0_passDay 35 = .ok (.invokevirtual 54, 3) := by decide +kernel
theorem dX0_passDay_38 : decode cX0_passDay 38 = .ok (.invokevirtual 152, 3) := by decide +kernel
theorem dX0_passDay_41 : decode cX0_passDay 41 = .ok (.pop, 1) := by decide +kernel
theorem dX0_passDay_42 : decode cX0_passDay 42 = .ok (.iconst 1, 1) := by decide +kernel
theorem dX0_passDay_43 : decode cX0_passDay 43 = .ok (.ireturn, 1) := by decide +kernel
theorem dX1_init_0 : decode cX1_init 0 = .ok (.aload_n 0, 1) := by decide +kernel
theorem dX1_init_1 : decode cX1_init 1 = .ok (.invokespecial 3, 3) := by decide +kernel
theorem dX1_init_4 : decode cX1_init 4 = .ok (.aload_n 0, 1) := by decide +kernel
theorem dX1_init_5 : decode cX1_init 5 = .ok (.iconst 0, 1) := by decide +kernel
theorem dX1_init_6 : decode cX1_init 6 = .ok (.putfield 9, 3) := by decide +kernel
theorem dX1_init_9 : decode cX1_init 9 = .ok (.aload_n 0, 1) := by decide +kernel
theorem dX1_init_10 : decode cX1_init 10 = .ok (.iconst 0, 1) := by decide +kernel
theorem dX1_init_11 : decode cX1_init 11 = .ok (.putfield 15, 3) := by decide +kernel
theorem dX1_init_14 : decode cX1_init 14 = .ok (.aload_n 0, 1) := by decide +kernel
theorem dX1_init_15 : decode cX1_init 15 = .ok (.iconst 0, 1) := by decide +kernel
theorem dX1_init_16 : decode cX1_init 16 = .ok (.putfield 18, 3) := by decide +kernel
theorem dX1_init_19 : decode cX1_init 19 = .ok (.aload_n 0, 1) := by decide +kernel
theorem dX1_init_20 : decode cX1_init 20 = .ok (.iconst 5, 1) := by decide +kernel
theorem dX1_init_21 : decode cX1_init 21 = .ok (.newarray .int, 2) := by decide +kernel
theorem dX1_init_23 : decode cX1_init 23 = .ok (.putfield 21, 3) := by decide +kernel
theorem dX1_init_26 : decode cX1_init 26 = .ok (.return_, 1) := by decide +kernel
theorem dX1_begin_0 : decode cX1_begin 0 = .ok (.aload_n 0, 1) := by decide +kernel
theorem dX1_begin_1 : decode cX1_begin 1 = .ok (.iload_n 1, 1) := by decide +kernel
theorem dX1_begin_2 : decode cX1_begin 2 = .ok (.putfield 9, 3) := by decide +kernel
theorem dX1_begin_5 : decode cX1_begin 5 = .ok (.aload_n 0, 1) := by decide +kernel
theorem dX1_begin_6 : decode cX1_begin 6 = .ok (.iload_n 2, 1) := by decide +kernel
theorem dX1_begin_7 : decode cX1_begin 7 = .ok (.putfield 15, 3) := by decide +kernel
theorem dX1_begin_10 : decode cX1_begin 10 = .ok (.aload_n 0, 1) := by decide +kernel
theorem dX1_begin_11 : decode cX1_begin 11 = .ok (.iconst 0, 1) := by decide +kernel
theorem dX1_begin_12 : decode cX1_begin 12 = .ok (.putfield 18, 3) := by decide +kernel
theorem dX1_begin_15 : decode cX1_begin 15 = .ok (.aload_n 0, 1) := by decide +kernel
theorem dX1_begin_16 : decode cX1_begin 16 = .ok (.getfield 21, 3) := by decide +kernel
theorem dX1_begin_19 : decode cX1_begin 19 = .ok (.iconst 0, 1) := by decide +kernel
theorem dX1_begin_20 : decode cX1_begin 20 = .ok (.invokestatic 25, 3) := by decide +kernel
theorem dX1_begin_23 : decode cX1_begin 23 = .ok (.return_, 1) := by decide +kernel
theorem dX1_take_0 : decode cX1_take 0 = .ok (.aload_n 0, 1) := by decide +kernel
theorem dX1_take_1 : decode cX1_take 1 = .ok (.aload_n 1, 1) := by decide +kernel
theorem dX1_take_2 : decode cX1_take 2 = .ok (.getfield 9, 3) := by decide +kernel
theorem dX1_take_5 : decode cX1_take 5 = .ok (.putfield 9, 3) := by decide +kernel
theorem dX1_take_8 : decode cX1_take 8 = .ok (.aload_n 0, 1) := by decide +kernel
theorem dX1_take_9 : decode cX1_take 9 = .ok (.aload_n 1, 1) := by decide +kernel
theorem dX1_take_10 : decode cX1_take 10 = .ok (.getfield 15, 3) := by decide +kernel
theorem dX1_take_13 : decode cX1_take 13 = .ok (.putfield 15, 3) := by decide +kernel
theorem dX1_take_16 : decode cX1_take 16 = .ok (.aload_n 0, 1) := by decide +kernel
theorem dX1_take_17 : decode cX1_take 17 = .ok (.aload_n 1, 1) := by decide +kernel
theorem dX1_take_18 : decode cX1_take 18 = .ok (.getfield 18, 3) := by decide +kernel
theorem dX1_take_21 : decode cX1_take 21 = .ok (.putfield 18, 3) := by decide +kernel
theorem dX1_take_24 : decode cX1_take 24 = .ok (.aload_n 1, 1) := by decide +kernel
theorem dX1_take_25 : decode cX1_take 25 = .ok (.getfield 21, 3) := by decide +kernel
theorem dX1_take_28 : decode cX1_take 28 = .ok (.iconst 0, 1) := by decide +kernel
theorem dX1_take_29 : decode cX1_take 29 = .ok (.aload_n 0, 1) := by decide +kernel
theorem dX1_take_30 : decode cX1_take 30 = .ok (.getfield 21, 3) := by decide +kernel
theorem dX1_take_33 : decode cX1_take 33 = .ok (.iconst 0, 1) := by decide +kernel
theorem dX1_take_34 : decode cX1_take 34 = .ok (.iconst 5, 1) := by decide +kernel
theorem dX1_take_35 : decode cX1_take 35 = .ok (.invokestatic 31, 3) := by decide +kernel
theorem dX1_take_38 : decode cX1_take 38 = .ok (.return_, 1) := by decide +kernel
theorem dX1_isOfKind_0 : decode cX1_isOfKind 0 = .ok (.iload_n 1, 1) := by decide +kernel
theorem dX1_isOfKind_1 : decode cX1_isOfKind 1 = .ok (.ifCond .eq 11, 3) := by decide +kernel
theorem dX1_isOfKind_4 : decode cX1_isOfKind 4 = .ok (.iload_n 1, 1) := by decide +kernel
theorem dX1_isOfKind_5 : decode cX1_isOfKind 5 = .ok (.aload_n 0, 1) := by decide +kernel
theorem dX1_isOfKind_6 : decode cX1_isOfKind 6 = .ok (.getfield 9, 3) := by decide +kernel
theorem dX1_isOfKind_9 : decode cX1_isOfKind 9 = .ok (.if_icmp .ne 5, 3) := by decide +kernel
theorem dX1_isOfKind_12 : decode cX1_isOfKind 12 = .ok (.iconst 1, 1) := by decide +kernel
theorem dX1_isOfKind_13 : decode cX1_isOfKind 13 = .ok (.ireturn, 1) := by decide +kernel
theorem dX1_isOfKind_14 : decode cX1_isOfKind 14 = .ok (.iload_n 1, 1) := by decide +kernel
theorem dX1_isOfKind_15 : decode cX1_isOfKind 15 = .ok (.iconst 2, 1) := by decide +kernel
theorem dX1_isOfKind_16 : decode cX1_isOfKind 16 = .ok (.if_icmp .ne 11, 3) := by decide +kernel
theorem dX1_isOfKind_19 : decode cX1_isOfKind 19 = .ok (.aload_n 0, 1) := by decide +kernel
theorem dX1_isOfKind_20 : decode cX1_isOfKind 20 = .ok (.getfield 9, 3) := by decide +kernel
theorem dX1_isOfKind_23 : decode cX1_isOfKind 23 = .ok (.iconst 4, 1) := by decide +kernel
theorem dX1_isOfKind_24 : decode cX1_isOfKind 24 = .ok (.if_icmp .eq 16, 3) := by decide +kernel
theorem dX1_isOfKind_27 : decode cX1_isOfKind 27 = .ok (.iload_n 1, 1) := by decide +kernel
theorem dX1_isOfKind_28 : decode cX1_isOfKind 28 = .ok (.iconst 3, 1) := by decide +kernel
theorem dX1_isOfKind_29 : decode cX1_isOfKind 29 = .ok (.if_icmp .ne 15, 3) := by decide +kernel
theorem dX1_isOfKind_32 : decode cX1_isOfKind 32 = .ok (.aload_n 0, 1) := by decide +kernel
theorem dX1_isOfKind_33 : decode cX1_isOfKind 33 = .ok (.getfield 9, 3) := by decide +kernel
theorem dX1_isOfKind_36 : decode cX1_isOfKind 36 = .ok (.iconst 5, 1) := by decide +kernel
theorem dX1_isOfKind_37 : decode cX1_isOfKind 37 = .ok (.if_icmp .ne 7, 3) := by decide +kernel
theorem dX1_isOfKind_40 : decode cX1_isOfKind 40 = .ok (.iconst 1, 1) := by decide +kernel
theorem dX1_isOfKind_41 : decode cX1_isOfKind 41 = .ok (.goto 4, 3) := by decide +kernel
theorem dX1_isOfKind_44 : decode cX1_isOfKind 44 = .ok (.iconst 0, 1) := by decide +kernel
theorem dX1_isOfKind_45 : decode cX1_isOfKind 45 = .ok (.ireturn, 1) := by decide +kernel
theorem dX1_allow_0 : decode cX1_allow 0 = .ok (.iconst 1, 1) := by decide +kernel
theorem dX1_allow_1 : decode cX1_allow 1 = .ok (.iload_n 1, 1) := by decide +kernel
theorem dX1_allow_2 : decode cX1_allow 2 = .ok (.ishl, 1) := by decide +kernel
theorem dX1_allow_3 : decode cX1_allow 3 = .ok (.istore_n 3, 1) := by decide +kernel
theorem dX1_allow_4 : decode cX1_allow 4 = .ok (.aload_n 0, 1) := by decide +kernel
theorem dX1_allow_5 : decode cX1_allow 5 = .ok (.getfield 18, 3) := by decide +kernel
theorem dX1_allow_8 : decode cX1_allow 8 = .ok (.istore 4, 2) := by decide +kernel
theorem dX1_allow_10 : decode cX1_allow 10 = .ok (.aload_n 0, 1) := by decide +kernel
theorem dX1_allow_11 : decode cX1_allow 11 = .ok (.iload_n 2, 1) := by decide +kernel
theorem dX1_allow_12 : decode cX1_allow 12 = .ok (.ifCond .eq 12, 3) := by decide +kernel
theorem dX1_allow_15 : decode cX1_allow 15 = .ok (.aload_n 0, 1) := by decide +kernel
theorem dX1_allow_16 : decode cX1_allow 16 = .ok (.getfield 18, 3) := by decide +kernel
theorem dX1_allow_19 : decode cX1_allow 19 = .ok (.iload_n 3, 1) := by decide +kernel
theorem dX1_allow_20 : decode cX1_allow 20 = .ok (.ior, 1) := by decide +kernel
theorem dX1_allow_21 : decode cX1_allow 21 = .ok (.goto 11, 3) := by decide +kernel
theorem dX1_allow_24 : decode cX1_allow 24 = .ok (.aload_n 0, 1) := by decide +kernel
theorem dX1_allow_25 : decode cX1_allow 25 = .ok (.getfield 18, 3) := by decide +kernel
theorem dX1_allow_28 : decode cX1_allow 28 = .ok (.iload_n 3, 1) := by decide +kernel
theorem dX1_allow_29 : decode cX1_allow 29 = .ok (.iconst (-1), 1) := by decide +kernel
theorem dX1_allow_30 : decode cX1_allow 30 = .ok (.ixor, 1) := by decide +kernel
theorem dX1_allow_31 : decode cX1_allow 31 = .ok (.iand, 1) := by decide +kernel
theorem dX1_allow_32 : decode cX1_allow 32 = .ok (.putfield 18, 3) := by decide +kernel
theorem dX1_allow_35 : decode cX1_allow 35 = .ok (.aload_n 0, 1) := by decide +kernel
theorem dX1_allow_36 : decode cX1_allow 36 = .ok (.getfield 18, 3) := by decide +kernel
theorem dX1_allow_39 : decode cX1_allow 39 = .ok (.iload 4, 2) := by decide +kernel
theorem dX1_allow_41 : decode cX1_allow 41 = .ok (.if_icmp .eq 7, 3) := by decide +kernel
theorem dX1_allow_44 : decode cX1_allow 44 = .ok (.iconst 1, 1) := by decide +kernel
theorem dX1_allow_45 : decode cX1_allow 45 = .ok (.goto 4, 3) := by decide +kernel
theorem dX1_allow_48 : decode cX1_allow 48 = .ok (.iconst 0, 1) := by decide +kernel
theorem dX1_allow_49 : decode cX1_allow 49 = .ok (.ireturn, 1) := by decide +kernel
theorem dX2_init_0 : decode cX2_init 0 = .ok (.aload_n 0, 1) := by decide +kernel
theorem dX2_init_1 : decode cX2_init 1 = .ok (.invokespecial 3, 3) := by decide +kernel
theorem dX2_init_4 : decode cX2_init 4 = .ok (.aload_n 0, 1) := by decide +kernel
theorem dX2_init_5 : decode cX2_init 5 = .ok (.iconst (-1), 1) := by decide +kernel
theorem dX2_init_6 : decode cX2_init 6 = .ok (.putfield 9, 3) := by decide +kernel
theorem dX2_init_9 : decode cX2_init 9 = .ok (.aload_n 0, 1) := by decide +kernel
theorem dX2_init_10 : decode cX2_init 10 = .ok (.iconst 0, 1) := by decide +kernel
theorem dX2_init_11 : decode cX2_init 11 = .ok (.putfield 15, 3) := by decide +kernel
theorem dX2_init_14 : decode cX2_init 14 = .ok (.aload_n 0, 1) := by decide +kernel
theorem dX2_init_15 : decode cX2_init 15 = .ok (.bipush 40, 2) := by decide +kernel
theorem dX2_init_17 : decode cX2_init 17 = .ok (.newarray .long, 2) := by decide +kernel
theorem dX2_init_19 : decode cX2_init 19 = .ok (.putfield 18, 3) := by decide +kernel
theorem dX2_init_22 : decode cX2_init 22 = .ok (.return_, 1) := by decide +kernel
theorem dX2_isKey_0 : decode cX2_isKey 0 = .ok (.aload_n 0, 1) := by decide +kernel
theorem dX2_isKey_1 : decode cX2_isKey 1 = .ok (.getfield 9, 3) := by decide +kernel
theorem dX2_isKey_4 : decode cX2_isKey 4 = .ok (.bipush 10, 2) := by decide +kernel
theorem dX2_isKey_6 : decode cX2_isKey 6 = .ok (.if_icmp .lt 7, 3) := by decide +kernel
theorem dX2_isKey_9 : decode cX2_isKey 9 = .ok (.iconst 1, 1) := by decide +kernel
theorem dX2_isKey_10 : decode cX2_isKey 10 = .ok (.goto 4, 3) := by decide +kernel
theorem dX2_isKey_13 : decode cX2_isKey 13 = .ok (.iconst 0, 1) := by decide +kernel
theorem dX2_isKey_14 : decode cX2_isKey 14 = .ok (.ireturn, 1) := by decide +kernel
theorem dX2_isRow_0 : decode cX2_isRow 0 = .ok (.aload_n 0, 1) := by decide +kernel
theorem dX2_isRow_1 : decode cX2_isRow 1 = .ok (.getfield 9, 3) := by decide +kernel
theorem dX2_isRow_4 : decode cX2_isRow 4 = .ok (.iconst 0, 1) := by decide +kernel
theorem dX2_isRow_5 : decode cX2_isRow 5 = .ok (.iconst 4, 1) := by decide +kernel
theorem dX2_isRow_6 : decode cX2_isRow 6 = .ok (.invokestatic 22, 3) := by decide +kernel
theorem dX2_isRow_9 : decode cX2_isRow 9 = .ok (.ireturn, 1) := by decide +kernel
theorem dX2_whyNoRow_0 : decode cX2_whyNoRow 0 = .ok (.aload_n 0, 1) := by decide +kernel
theorem dX2_whyNoRow_1 : decode cX2_whyNoRow 1 = .ok (.invokevirtual 26, 3) := by decide +kernel
theorem dX2_whyNoRow_4 : decode cX2_whyNoRow 4 = .ok (.ifCond .eq 8, 3) := by decide +kernel
theorem dX2_whyNoRow_7 : decode cX2_whyNoRow 7 = .ok (.bipush (-3), 2) := by decide +kernel
theorem dX2_whyNoRow_9 : decode cX2_whyNoRow 9 = .ok (.goto 5, 3) := by decide +kernel
theorem dX2_whyNoRow_12 : decode cX2_whyNoRow 12 = .ok (.bipush (-4), 2) := by decide +kernel
theorem dX2_whyNoRow_14 : decode cX2_whyNoRow 14 = .ok (.ireturn, 1) := by decide +kernel
theorem dX2_beginRow_0 : decode cX2_beginRow 0 = .ok (.aload_n 0, 1) := by decide +kernel
theorem dX2_beginRow_1 : decode cX2_beginRow 1 = .ok (.iload_n 1, 1) := by decide +kernel
theorem dX2_beginRow_2 : decode cX2_beginRow 2 = .ok (.putfield 9, 3) := by decide +kernel
theorem dX2_beginRow_5 : decode cX2_beginRow 5 = .ok (.aload_n 0, 1) := by decide +kernel
theorem dX2_beginRow_6 : decode cX2_beginRow 6 = .ok (.iload_n 2, 1) := by decide +kernel
theorem dX2_beginRow_7 : decode cX2_beginRow 7 = .ok (.putfield 15, 3) := by decide +kernel
theorem dX2_beginRow_10 : decode cX2_beginRow 10 = .ok (.aload_n 0, 1) := by decide +kernel
theorem dX2_beginRow_11 : decode cX2_beginRow 11 = .ok (.getfield 18, 3) := by decide +kernel
theorem dX2_beginRow_14 : decode cX2_beginRow 14 = .ok (.lconst 0, 1) := by decide +kernel
theorem dX2_beginRow_15 : decode cX2_beginRow 15 = .ok (.invokestatic 30, 3) := by decide +kernel
theorem dX2_beginRow_18 : decode cX2_beginRow 18 = .ok (.return_, 1) := by decide +kernel
theorem dX2_hasElement_0 : decode cX2_hasElement 0 = .ok (.aload_n 0, 1) := by decide +kernel
theorem dX2_hasElement_1 : decode cX2_hasElement 1 = .ok (.invokevirtual 36, 3) := by decide +kernel
theorem dX2_hasElement_4 : decode cX2_hasElement 4 = .ok (.ifCond .eq 28, 3) := by decide +kernel
theorem dX2_hasElement_7 : decode cX2_hasElement 7 = .ok (.iload_n 1, 1) := by decide +kernel
theorem dX2_hasElement_8 : decode cX2_hasElement 8 = .ok (.ifCond .lt 24, 3) := by decide +kernel
theorem dX2_hasElement_11 : decode cX2_hasElement 11 = .ok (.iload_n 1, 1) := by decide +kernel
theorem dX2_hasElement_12 : decode cX2_hasElement 12 = .ok (.aload_n 0, 1) := by decide +kernel
theorem dX2_hasElement_13 : decode cX2_hasElement 13 = .ok (.getfield 15, 3) := by decide +kernel
theorem dX2_hasElement_16 : decode cX2_hasElement 16 = .ok (.if_icmp .ge 16, 3) := by decide +kernel
theorem dX2_hasElement_19 : decode cX2_hasElement 19 = .ok (.iload_n 1, 1) := by decide +kernel
theorem dX2_hasElement_20 : decode cX2_hasElement 20 = .ok (.aload_n 0, 1) := by decide +kernel
theorem dX2_hasElement_21 : decode cX2_hasElement 21 = .ok (.getfield 18, 3) := by decide +kernel
theorem dX2_hasElement_24 : decode cX2_hasElement 24 = .ok (.arraylength, 1) := by decide +kernel
theorem dX2_hasElement_25 : decode cX2_hasElement 25 = .ok (.if_icmp .ge 7, 3) := by decide +kernel
theorem dX2_hasElement_28 : decode cX2_hasElement 28 = .ok (.iconst 1, 1) := by decide +kernel
theorem dX2_hasElement_29 : decode cX2_hasElement 29 = .ok (.goto 4, 3) := by decide +kernel
theorem dX2_hasElement_32 : decode cX2_hasElement 32 = .ok (.iconst 0, 1) := by decide +kernel
theorem dX2_hasElement_33 : decode cX2_hasElement 33 = .ok (.ireturn, 1) := by decide +kernel
theorem dX2_elementAt_0 : decode cX2_elementAt 0 = .ok (.aload_n 0, 1) := by decide +kernel
theorem dX2_elementAt_1 : decode cX2_elementAt 1 = .ok (.iload_n 1, 1) := by decide +kernel
theorem dX2_elementAt_2 : decode cX2_elementAt 2 = .ok (.invokevirtual 39, 3) := by decide +kernel
theorem dX2_elementAt_5 : decode cX2_elementAt 5 = .ok (.ifCond .eq 12, 3) := by decide +kernel
theorem dX2_elementAt_8 : decode cX2_elementAt 8 = .ok (.aload_n 0, 1) := by decide +kernel
theorem dX2_elementAt_9 : decode cX2_elementAt 9 = .ok (.getfield 18, 3) := by decide +kernel
theorem dX2_elementAt_12 : decode cX2_elementAt 12 = .ok (.iload_n 1, 1) := by decide +kernel
theorem dX2_elementAt_13 : decode cX2_elementAt 13 = .ok (.laload, 1) := by decide +kernel
theorem dX2_elementAt_14 : decode cX2_elementAt 14 = .ok (.goto 4, 3) := by decide +kernel
theorem dX2_elementAt_17 : decode cX2_elementAt 17 = .ok (.lconst 0, 1) := by decide +kernel
theorem dX2_elementAt_18 : decode cX2_elementAt 18 = .ok (.lreturn, 1) := by decide +kernel
theorem dX2_putElement_0 : decode cX2_putElement 0 = .ok (.aload_n 0, 1) := by decide +kernel
theorem dX2_putElement_1 : decode cX2_putElement 1 = .ok (.iload_n 1, 1) := by decide +kernel
theorem dX2_putElement_2 : decode cX2_putElement 2 = .ok (.invokevirtual 39, 3) := by decide +kernel
theorem dX2_putElement_5 : decode cX2_putElement 5 = .ok (.ifCond .eq 14, 3) := by decide +kernel
theorem dX2_putElement_8 : decode cX2_putElement 8 = .ok (.aload_n 0, 1) := by decide +kernel
theorem dX2_putElement_9 : decode cX2_putElement 9 = .ok (.getfield 18, 3) := by decide +kernel
theorem dX2_putElement_12 : decode cX2_putElement 12 = .ok (.iload_n 1, 1) := by decide +kernel
theorem dX2_putElement_13 : decode cX2_putElement 13 = .ok (.aload_n 0, 1) := by decide +kernel
theorem dX2_putElement_14 : decode cX2_putElement 14 = .ok (.lload_n 2, 1) := by decide +kernel
theorem dX2_putElement_15 : decode cX2_putElement 15 = .ok (.invokevirtual 43, 3) := by decide +kernel
theorem dX2_putElement_18 : decode cX2_putElement 18 = .ok (.lastore, 1) := by decide +kernel
theorem dX2_putElement_19 : decode cX2_putElement 19 = .ok (.return_, 1) := by decide +kernel
theorem dX2_narrowed_0 : decode cX2_narrowed 0 = .ok (.aload_n 0, 1) := by decide +kernel
theorem dX2_narrowed_1 : decode cX2_narrowed 1 = .ok (.getfield 9, 3) := by decide +kernel
theorem dX2_narrowed_4 : decode cX2_narrowed 4 = .ok (.tableswitch 62 0 4 #[36, 41, 46, 62, 50], 36) := by decide +kernel
theorem dX2_narrowed_40 : decode cX2_narrowed 40 = .ok (.lload_n 1, 1) := by decide +kernel
theorem dX2_narrowed_41 : decode cX2_narrowed 41 = .ok (.l2i, 1) := by decide +kernel
theorem dX2_narrowed_42 : decode cX2_narrowed 42 = .ok (.i2b, 1) := by decide +kernel
theorem dX2_narrowed_43 : decode cX2_narrowed 43 = .ok (.i2l, 1) := by decide +kernel
theorem dX2_narrowed_44 : decode cX2_narrowed 44 = .ok (.lreturn, 1) := by decide +kernel
theorem dX2_narrowed_45 : decode cX2_narrowed 45 = .ok (.lload_n 1, 1) := by decide +kernel
theorem dX2_narrowed_46 : decode cX2_narrowed 46 = .ok (.l2i, 1) := by decide +kernel
theorem dX2_narrowed_47 : decode cX2_narrowed 47 = .ok (.i2s, 1) := by decide +kernel
theorem dX2_narrowed_48 : decode cX2_narrowed 48 = .ok (.i2l, 1) := by decide +kernel
theorem dX2_narrowed_49 : decode cX2_narrowed 49 = .ok (.lreturn, 1) := by decide +kernel
theorem dX2_narrowed_50 : decode cX2_narrowed 50 = .ok (.lload_n 1, 1) := by decide +kernel
theorem dX2_narrowed_51 : decode cX2_narrowed 51 = .ok (.l2i, 1) := by decide +kernel
theorem dX2_narrowed_52 : decode cX2_narrowed 52 = .ok (.i2l, 1) := by decide +kernel
theorem dX2_narrowed_53 : decode cX2_narrowed 53 = .ok (.lreturn, 1) := by decide +kernel
theorem dX2_narrowed_54 : decode cX2_narrowed 54 = .ok (.lload_n 1, 1) := by decide +kernel
theorem dX2_narrowed_55 : decode cX2_narrowed 55 = .ok (.lconst 0, 1) := by decide +kernel
theorem dX2_narrowed_56 : decode cX2_narrowed 56 = .ok (.lcmp, 1) := by decide +kernel
theorem dX2_narrowed_57 : decode cX2_narrowed 57 = .ok (.ifCond .eq 7, 3) := by decide +kernel
theorem dX2_narrowed_60 : decode cX2_narrowed 60 = .ok (.lconst 1, 1) := by decide +kernel
theorem dX2_narrowed_61 : decode cX2_narrowed 61 = .ok (.goto 4, 3) := by decide +kernel
theorem dX2_narrowed_64 : decode cX2_narrowed 64 = .ok (.lconst 0, 1) := by decide +kernel
theorem dX2_narrowed_65 : decode cX2_narrowed 65 = .ok (.lreturn, 1) := by decide +kernel
theorem dX2_narrowed_66 : decode cX2_narrowed 66 = .ok (.lload_n 1, 1) := by decide +kernel
theorem dX2_narrowed_67 : decode cX2_narrowed 67 = .ok (.lreturn, 1) := by decide +kernel
theorem dX2_hasPart_0 : decode cX2_hasPart 0 = .ok (.iload_n 2, 1) := by decide +kernel
theorem dX2_hasPart_1 : decode cX2_hasPart 1 = .ok (.ifCond .lt 29, 3) := by decide +kernel
theorem dX2_hasPart_4 : decode cX2_hasPart 4 = .ok (.iload_n 2, 1) := by decide +kernel
theorem dX2_hasPart_5 : decode cX2_hasPart 5 = .ok (.aload_n 0, 1) := by decide +kernel
theorem dX2_hasPart_6 : decode cX2_hasPart 6 = .ok (.getfield 15, 3) := by decide +kernel
theorem dX2_hasPart_9 : decode cX2_hasPart 9 = .ok (.if_icmp .gt 21, 3) := by decide +kernel
theorem dX2_hasPart_12 : decode cX2_hasPart 12 = .ok (.iload_n 1, 1) := by decide +kernel
theorem dX2_hasPart_13 : decode cX2_hasPart 13 = .ok (.ifCond .lt 17, 3) := by decide +kernel
theorem dX2_hasPart_16 : decode cX2_hasPart 16 = .ok (.iload_n 1, 1) := by decide +kernel
theorem dX2_hasPart_17 : decode cX2_hasPart 17 = .ok (.aload_n 0, 1) := by decide +kernel
theorem dX2_hasPart_18 : decode cX2_hasPart 18 = .ok (.getfield 15, 3) := by decide +kernel
theorem dX2_hasPart_21 : decode cX2_hasPart 21 = .ok (.iload_n 2, 1) := by decide +kernel
theorem dX2_hasPart_22 : decode cX2_hasPart 22 = .ok (.isub, 1) := by decide +kernel
theorem dX2_hasPart_23 : decode cX2_hasPart 23 = .ok (.if_icmp .gt 7, 3) := by decide +kernel
theorem dX2_hasPart_26 : decode cX2_hasPart 26 = .ok (.iconst 1, 1) := by decide +kernel
theorem dX2_hasPart_27 : decode cX2_hasPart 27 = .ok (.goto 4, 3) := by decide +kernel
theorem dX2_hasPart_30 : decode cX2_hasPart 30 = .ok (.iconst 0, 1) := by decide +kernel
theorem dX2_hasPart_31 : decode cX2_hasPart 31 = .ok (.ireturn, 1) := by decide +kernel
theorem dX2_dropKeysFrom_0 : decode cX2_dropKeysFrom 0 = .ok (.aload_n 0, 1) := by decide +kernel
theorem dX2_dropKeysFrom_1 : decode cX2_dropKeysFrom 1 = .ok (.getfield 9, 3) := by decide +kernel
theorem dX2_dropKeysFrom_4 : decode cX2_dropKeysFrom 4 = .ok (.bipush 10, 2) := by decide +kernel
theorem dX2_dropKeysFrom_6 : decode cX2_dropKeysFrom 6 = .ok (.isub, 1) := by decide +kernel
theorem dX2_dropKeysFrom_7 : decode cX2_dropKeysFrom 7 = .ok (.iload_n 1, 1) := by decide +kernel
theorem dX2_dropKeysFrom_8 : decode cX2_dropKeysFrom 8 = .ok (.if_icmp .lt 8, 3) := by decide +kernel
theorem dX2_dropKeysFrom_11 : decode cX2_dropKeysFrom 11 = .ok (.aload_n 0, 1) := by decide +kernel
theorem dX2_dropKeysFrom_12 : decode cX2_dropKeysFrom 12 = .ok (.iconst (-1), 1) := by decide +kernel
theorem dX2_dropKeysFrom_13 : decode cX2_dropKeysFrom 13 = .ok (.putfield 9, 3) := by decide +kernel
theorem dX2_dropKeysFrom_16 : decode cX2_dropKeysFrom 16 = .ok (.return_, 1) := by decide +kernel
theorem dX3_init_0 : decode cX3_init 0 = .ok (.aload_n 0, 1) := by decide +kernel
theorem dX3_init_1 : decode cX3_init 1 = .ok (.invokespecial 3, 3) := by decide +kernel
theorem dX3_init_4 : decode cX3_init 4 = .ok (.aload_n 0, 1) := by decide +kernel
theorem dX3_init_5 : decode cX3_init 5 = .ok (.sipush 250, 3) := by decide +kernel
theorem dX3_init_8 : decode cX3_init 8 = .ok (.newarray .int, 2) := by decide +kernel
theorem dX3_init_10 : decode cX3_init 10 = .ok (.putfield 9, 3) := by decide +kernel
theorem dX3_init_13 : decode cX3_init 13 = .ok (.aload_n 0, 1) := by decide +kernel
theorem dX3_init_14 : decode cX3_init 14 = .ok (.iconst 0, 1) := by decide +kernel
theorem dX3_init_15 : decode cX3_init 15 = .ok (.putfield 15, 3) := by decide +kernel
theorem dX3_init_18 : decode cX3_init 18 = .ok (.aload_n 0, 1) := by decide +kernel
theorem dX3_init_19 : decode cX3_init 19 = .ok (.iconst 0, 1) := by decide +kernel
theorem dX3_init_20 : decode cX3_init 20 = .ok (.putfield 19, 3) := by decide +kernel
theorem dX3_init_23 : decode cX3_init 23 = .ok (.aload_n 0, 1) := by decide +kernel
theorem dX3_init_24 : decode cX3_init 24 = .ok (.iconst 0, 1) := by decide +kernel
theorem dX3_init_25 : decode cX3_init 25 = .ok (.putfield 22, 3) := by decide +kernel
theorem dX3_init_28 : decode cX3_init 28 = .ok (.aload_n 0, 1) := by decide +kernel
theorem dX3_init_29 : decode cX3_init 29 = .ok (.iconst 0, 1) := by decide +kernel
theorem dX3_init_30 : decode cX3_init 30 = .ok (.putfield 25, 3) := by decide +kernel
theorem dX3_init_33 : decode cX3_init 33 = .ok (.return_, 1) := by decide +kernel
theorem dX3_add_0 : decode cX3_add 0 = .ok (.aload_n 0, 1) := by decide +kernel
theorem dX3_add_1 : decode cX3_add 1 = .ok (.getfield 15, 3) := by decide +kernel
theorem dX3_add_4 : decode cX3_add 4 = .ok (.sipush 250, 3) := by decide +kernel
theorem dX3_add_7 : decode cX3_add 7 = .ok (.if_icmp .lt 5, 3) := by decide +kernel
theorem dX3_add_10 : decode cX3_add 10 = .ok (.iconst 0, 1) := by decide +kernel
theorem dX3_add_11 : decode cX3_add 11 = .ok (.ireturn, 1) := by decide +kernel
theorem dX3_add_12 : decode cX3_add 12 = .ok (.aload_n 0, 1) := by decide +kernel
theorem dX3_add_13 : decode cX3_add 13 = .ok (.getfield 9, 3) := by decide +kernel
theorem dX3_add_16 : decode cX3_add 16 = .ok (.aload_n 0, 1) := by decide +kernel
theorem dX3_add_17 : decode cX3_add 17 = .ok (.getfield 15, 3) := by decide +kernel
theorem dX3_add_20 : decode cX3_add 20 = .ok (.iload_n 1, 1) := by decide +kernel
theorem dX3_add_21 : decode cX3_add 21 = .ok (.invokestatic 28, 3) := by decide +kernel
theorem dX3_add_24 : decode cX3_add 24 = .ok (.aload_n 0, 1) := by decide +kernel
theorem dX3_add_25 : decode cX3_add 25 = .ok (.dup, 1) := by decide +kernel
theorem dX3_add_26 : decode cX3_add 26 = .ok (.getfield 15, 3) := by decide +kernel
theorem dX3_add_29 : decode cX3_add 29 = .ok (.iconst 1, 1) := by decide +kernel
theorem dX3_add_30 : decode cX3_add 30 = .ok (.iadd, 1) := by decide +kernel
theorem dX3_add_31 : decode cX3_add 31 = .ok (.putfield 15, 3) := by decide +kernel
theorem dX3_add_34 : decode cX3_add 34 = .ok (.iconst 1, 1) := by decide +kernel
theorem dX3_add_35 : decode cX3_add 35 = .ok (.ireturn, 1) := by decide +kernel
theorem dX3_readInto_0 : decode cX3_readInto 0 = .ok (.aload_n 0, 1) := by decide +kernel
theorem dX3_readInto_1 : decode cX3_readInto 1 = .ok (.iconst 0, 1) := by decide +kernel
theorem dX3_readInto_2 : decode cX3_readInto 2 = .ok (.putfield 25, 3) := by decide +kernel
theorem dX3_readInto_5 : decode cX3_readInto 5 = .ok (.aload_n 0, 1) := by decide +kernel
theorem dX3_readInto_6 : decode cX3_readInto 6 = .ok (.invokevirtual 32, 3) := by decide +kernel
theorem dX3_readInto_9 : decode cX3_readInto 9 = .ok (.iconst 1, 1) := by decide +kernel
theorem dX3_readInto_10 : decode cX3_readInto 10 = .ok (.istore_n 2, 1) := by decide +kernel
theorem dX3_readInto_11 : decode cX3_readInto 11 = .ok (.iload_n 2, 1) := by decide +kernel
theorem dX3_readInto_12 : decode cX3_readInto 12 = .ok (.sipush 250, 3) := by decide +kernel
theorem dX3_readInto_15 : decode cX3_readInto 15 = .ok (.if_icmp .gt 42, 3) := by decide +kernel
theorem dX3_readInto_18 : decode cX3_readInto 18 = .ok (.aload_n 0, 1) := by decide +kernel
theorem dX3_readInto_19 : decode cX3_readInto 19 = .ok (.aload_n 1, 1) := by decide +kernel
theorem dX3_readInto_20 : decode cX3_readInto 20 = .ok (.invokevirtual 35, 3) := by decide +kernel
theorem dX3_readInto_23 : decode cX3_readInto 23 = .ok (.ifCond .ne 5, 3) := by decide +kernel
theorem dX3_readInto_26 : decode cX3_readInto 26 = .ok (.iconst (-1), 1) := by decide +kernel
theorem dX3_readInto_27 : decode cX3_readInto 27 = .ok (.ireturn, 1) := by decide +kernel
theorem dX3_readInto_28 : decode cX3_readInto 28 = .ok (.aload_n 0, 1) := by decide +kernel
theorem dX3_readInto_29 : decode cX3_readInto 29 = .ok (.getfield 19, 3) := by decide +kernel
theorem dX3_readInto_32 : decode cX3_readInto 32 = .ok (.ifCond .ne 5, 3) := by decide +kernel
theorem dX3_readInto_35 : decode cX3_readInto 35 = .ok (.iload_n 2, 1) := by decide +kernel
theorem dX3_readInto_36 : decode cX3_readInto 36 = .ok (.ireturn, 1) := by decide +kernel
theorem dX3_readInto_37 : decode cX3_readInto 37 = .ok (.aload_n 0, 1) := by decide +kernel
theorem dX3_readInto_38 : decode cX3_readInto 38 = .ok (.getfield 19, 3) := by decide +kernel
theorem dX3_readInto_41 : decode cX3_readInto 41 = .ok (.iconst 3, 1) := by decide +kernel
theorem dX3_readInto_42 : decode cX3_readInto 42 = .ok (.if_icmp .eq 5, 3) := by decide +kernel
theorem dX3_readInto_45 : decode cX3_readInto 45 = .ok (.iconst (-1), 1) := by decide +kernel
theorem dX3_readInto_46 : decode cX3_readInto 46 = .ok (.ireturn, 1) := by decide +kernel
theorem dX3_readInto_47 : decode cX3_readInto 47 = .ok (.aload_n 0, 1) := by decide +kernel
theorem dX3_readInto_48 : decode cX3_readInto 48 = .ok (.invokevirtual 32, 3) := by decide +kernel
theorem dX3_readInto_51 : decode cX3_readInto 51 = .ok (.iinc 2 1, 3) := by decide +kernel
theorem dX3_readInto_54 : decode cX3_readInto 54 = .ok (.goto (-43), 3) := by decide +kernel
theorem dX3_readInto_57 : decode cX3_readInto 57 = .ok (.iconst (-1), 1) := by decide +kernel
theorem dX3_readInto_58 : decode cX3_readInto 58 = .ok (.ireturn, 1) := by decide +kernel
theorem dX3_toNextToken_0 : decode cX3_toNextToken 0 = .ok (.aload_n 0, 1) := by decide +kernel
theorem dX3_toNextToken_1 : decode cX3_toNextToken 1 = .ok (.aload_n 0, 1) := by decide +kernel
theorem dX3_toNextToken_2 : decode cX3_toNextToken 2 = .ok (.getfield 25, 3) := by decide +kernel
theorem dX3_toNextToken_5 : decode cX3_toNextToken 5 = .ok (.putfield 22, 3) := by decide +kernel
theorem dX3_toNextToken_8 : decode cX3_toNextToken 8 = .ok (.aload_n 0, 1) := by decide +kernel
theorem dX3_toNextToken_9 : decode cX3_toNextToken 9 = .ok (.getfield 22, 3) := by decide +kernel
theorem dX3_toNextToken_12 : decode cX3_toNextToken 12 = .ok (.aload_n 0, 1) := by decide +kernel
theorem dX3_toNextToken_13 : decode cX3_toNextToken 13 = .ok (.getfield 15, 3) := by decide +kernel
theorem dX3_toNextToken_16 : decode cX3_toNextToken 16 = .ok (.if_icmp .ge 32, 3) := by decide +kernel
theorem dX3_toNextToken_19 : decode cX3_toNextToken 19 = .ok (.aload_n 0, 1) := by decide +kernel
theorem dX3_toNextToken_20 : decode cX3_toNextToken 20 = .ok (.getfield 9, 3) := by decide +kernel
theorem dX3_toNextToken_23 : decode cX3_toNextToken 23 = .ok (.aload_n 0, 1) := by decide +kernel
theorem dX3_toNextToken_24 : decode cX3_toNextToken 24 = .ok (.getfield 22, 3) := by decide +kernel
theorem dX3_toNextToken_27 : decode cX3_toNextToken 27 = .ok (.invokestatic 39, 3) := by decide +kernel
theorem dX3_toNextToken_30 : decode cX3_toNextToken 30 = .ok (.bipush 32, 2) := by decide +kernel
theorem dX3_toNextToken_32 : decode cX3_toNextToken 32 = .ok (.if_icmp .ne 16, 3) := by decide +kernel
theorem dX3_toNextToken_35 : decode cX3_toNextToken 35 = .ok (.aload_n 0, 1) := by decide +kernel
theorem dX3_toNextToken_36 : decode cX3_toNextToken 36 = .ok (.dup, 1) := by decide +kernel
theorem dX3_toNextToken_37 : decode cX3_toNextToken 37 = .ok (.getfield 22, 3) := by decide +kernel
theorem dX3_toNextToken_40 : decode cX3_toNextToken 40 = .ok (.iconst 1, 1) := by decide +kernel
theorem dX3_toNextToken_41 : decode cX3_toNextToken 41 = .ok (.iadd, 1) := by decide +kernel
theorem dX3_toNextToken_42 : decode cX3_toNextToken 42 = .ok (.putfield 22, 3) := by decide +kernel
theorem dX3_toNextToken_45 : decode cX3_toNextToken 45 = .ok (.goto (-37), 3) := by decide +kernel
theorem dX3_toNextToken_48 : decode cX3_toNextToken 48 = .ok (.aload_n 0, 1) := by decide +kernel
theorem dX3_toNextToken_49 : decode cX3_toNextToken 49 = .ok (.aload_n 0, 1) := by decide +kernel
theorem dX3_toNextToken_50 : decode cX3_toNextToken 50 = .ok (.getfield 22, 3) := by decide +kernel
theorem dX3_toNextToken_53 : decode cX3_toNextToken 53 = .ok (.aload_n 0, 1) := by decide +kernel
theorem dX3_toNextToken_54 : decode cX3_toNextToken 54 = .ok (.getfield 15, 3) := by decide +kernel
theorem dX3_toNextToken_57 : decode cX3_toNextToken 57 = .ok (.if_icmp .ge 21, 3) := by decide +kernel
theorem dX3_toNextToken_60 : decode cX3_toNextToken 60 = .ok (.aload_n 0, 1) := by decide +kernel
theorem dX3_toNextToken_61 : decode cX3_toNextToken 61 = .ok (.aload_n 0, 1) := by decide +kernel
theorem dX3_toNextToken_62 : decode cX3_toNextToken 62 = .ok (.getfield 9, 3) := by decide +kernel
theorem dX3_toNextToken_65 : decode cX3_toNextToken 65 = .ok (.aload_n 0, 1) := by decide +kernel
theorem dX3_toNextToken_66 : decode cX3_toNextToken 66 = .ok (.getfield 22, 3) := by decide +kernel
theorem dX3_toNextToken_69 : decode cX3_toNextToken 69 = .ok (.invokestatic 39, 3) := by decide +kernel
theorem dX3_toNextToken_72 : decode cX3_toNextToken 72 = .ok (.invokevirtual 43, 3) := by decide +kernel
theorem dX3_toNextToken_75 : decode cX3_toNextToken 75 = .ok (.goto 4, 3) := by decide +kernel
theorem dX3_toNextToken_78 : decode cX3_toNextToken 78 = .ok (.iconst 0, 1) := by decide +kernel
theorem dX3_toNextToken_79 : decode cX3_toNextToken 79 = .ok (.putfield 19, 3) := by decide +kernel
theorem dX3_toNextToken_82 : decode cX3_toNextToken 82 = .ok (.aload_n 0, 1) := by decide +kernel
theorem dX3_toNextToken_83 : decode cX3_toNextToken 83 = .ok (.aload_n 0, 1) := by decide +kernel
theorem dX3_toNextToken_84 : decode cX3_toNextToken 84 = .ok (.getfield 22, 3) := by decide +kernel
theorem dX3_toNextToken_87 : decode cX3_toNextToken 87 = .ok (.aload_n 0, 1) := by decide +kernel
theorem dX3_toNextToken_88 : decode cX3_toNextToken 88 = .ok (.getfield 15, 3) := by decide +kernel
theorem dX3_toNextToken_91 : decode cX3_toNextToken 91 = .ok (.if_icmp .ge 12, 3) := by decide +kernel
theorem dX3_toNextToken_94 : decode cX3_toNextToken 94 = .ok (.aload_n 0, 1) := by decide +kernel
theorem dX3_toNextToken_95 : decode cX3_toNextToken 95 = .ok (.getfield 22, 3) := by decide +kernel
theorem dX3_toNextToken_98 : decode cX3_toNextToken 98 = .ok (.iconst 1, 1) := by decide +kernel
theorem dX3_toNextToken_99 : decode cX3_toNextToken 99 = .ok (.iadd, 1) := by decide +kernel
theorem dX3_toNextToken_100 : decode cX3_toNextToken 100 = .ok (.goto 7, 3) := by decide +kernel
theorem dX3_toNextToken_103 : decode cX3_toNextToken 103 = .ok (.aload_n 0, 1) := by decide +kernel
theorem dX3_toNextToken_104 : decode cX3_toNextToken 104 = .ok (.getfield 22, 3) := by decide +kernel
theorem dX3_toNextToken_107 : decode cX3_toNextToken 107 = .ok (.putfield 25, 3) := by decide +kernel
theorem dX3_toNextToken_110 : decode cX3_toNextToken 110 = .ok (.aload_n 0, 1) := by decide +kernel
theorem dX3_toNextToken_111 : decode cX3_toNextToken 111 = .ok (.getfield 19, 3) := by decide +kernel
theorem dX3_toNextToken_114 : decode cX3_toNextToken 114 = .ok (.iconst 1, 1) := by decide +kernel
theorem dX3_toNextToken_115 : decode cX3_toNextToken 115 = .ok (.if_icmp .eq 11, 3) := by decide +kernel
theorem dX3_toNextToken_118 : decode cX3_toNextToken 118 = .ok (.aload_n 0, 1) := by decide +kernel
theorem dX3_toNextToken_119 : decode cX3_toNextToken 119 = .ok (.getfield 19, 3) := by decide +kernel
theorem dX3_toNextToken_122 : decode cX3_toNextToken 122 = .ok (.iconst 2, 1) := by decide +kernel
theorem dX3_toNextToken_123 : decode cX3_toNextToken 123 = .ok (.if_icmp .ne 49, 3) := by decide +kernel
theorem dX3_toNextToken_126 : decode cX3_toNextToken 126 = .ok (.aload_n 0, 1) := by decide +kernel
theorem dX3_toNextToken_127 : decode cX3_toNextToken 127 = .ok (.getfield 25, 3) := by decide +kernel
theorem dX3_toNextToken_130 : decode cX3_toNextToken 130 = .ok (.aload_n 0, 1) := by decide +kernel
theorem dX3_toNextToken_131 : decode cX3_toNextToken 131 = .ok (.getfield 15, 3) := by decide +kernel
theorem dX3_toNextToken_134 : decode cX3_toNextToken 134 = .ok (.if_icmp .ge 38, 3) := by decide +kernel
theorem dX3_toNextToken_137 : decode cX3_toNextToken 137 = .ok (.aload_n 0, 1) := by decide +kernel
theorem dX3_toNextToken_138 : decode cX3_toNextToken 138 = .ok (.aload_n 0, 1) := by decide +kernel
theorem dX3_toNextToken_139 : decode cX3_toNextToken 139 = .ok (.getfield 9, 3) := by decide +kernel
theorem dX3_toNextToken_142 : decode cX3_toNextToken 142 = .ok (.aload_n 0, 1) := by decide +kernel
theorem dX3_toNextToken_143 : decode cX3_toNextToken 143 = .ok (.getfield 25, 3) := by decide +kernel
theorem dX3_toNextToken_146 : decode cX3_toNextToken 146 = .ok (.invokestatic 39, 3) := by decide +kernel
theorem dX3_toNextToken_149 : decode cX3_toNextToken 149 = .ok (.invokevirtual 43, 3) := by decide +kernel
theorem dX3_toNextToken_152 : decode cX3_toNextToken 152 = .ok (.aload_n 0, 1) := by decide +kernel
theorem dX3_toNextToken_153 : decode cX3_toNextToken 153 = .ok (.getfield 19, 3) := by decide +kernel
theorem dX3_toNextToken_156 : decode cX3_toNextToken 156 = .ok (.if_icmp .ne 16, 3) := by decide +kernel
theorem dX3_toNextToken_159 : decode cX3_toNextToken 159 = .ok (.aload_n 0, 1) := by decide +kernel
theorem dX3_toNextToken_160 : decode cX3_toNextToken 160 = .ok (.dup, 1) := by decide +kernel
theorem dX3_toNextToken_161 : decode cX3_toNextToken 161 = .ok (.getfield 25, 3) := by decide +kernel
theorem dX3_toNextToken_164 : decode cX3_toNextToken 164 = .ok (.iconst 1, 1) := by decide +kernel
theorem dX3_toNextToken_165 : decode cX3_toNextToken 165 = .ok (.iadd, 1) := by decide +kernel
theorem dX3_toNextToken_166 : decode cX3_toNextToken 166 = .ok (.putfield 25, 3) := by decide +kernel
theorem dX3_toNextToken_169 : decode cX3_toNextToken 169 = .ok (.goto (-59), 3) := by decide +kernel
theorem dX3_toNextToken_172 : decode cX3_toNextToken 172 = .ok (.return_, 1) := by decide +kernel
theorem dX3_sortOf_0 : decode cX3_sortOf 0 = .ok (.iload_n 1, 1) := by decide +kernel
theorem dX3_sortOf_1 : decode cX3_sortOf 1 = .ok (.bipush 97, 2) := by decide +kernel
theorem dX3_sortOf_3 : decode cX3_sortOf 3 = .ok (.if_icmp .lt 11, 3) := by decide +kernel
theorem dX3_sortOf_6 : decode cX3_sortOf 6 = .ok (.iload_n 1, 1) := by decide +kernel
theorem dX3_sortOf_7 : decode cX3_sortOf 7 = .ok (.bipush 122, 2) := by decide +kernel
theorem dX3_sortOf_9 : decode cX3_sortOf 9 = .ok (.if_icmp .gt 5, 3) := by decide +kernel
theorem dX3_sortOf_12 : decode cX3_sortOf 12 = .ok (.iconst 1, 1) := by decide +kernel
theorem dX3_sortOf_13 : decode cX3_sortOf 13 = .ok (.ireturn, 1) := by decide +kernel
theorem dX3_sortOf_14 : decode cX3_sortOf 14 = .ok (.iload_n 1, 1) := by decide +kernel
theorem dX3_sortOf_15 : decode cX3_sortOf 15 = .ok (.bipush 48, 2) := by decide +kernel
theorem dX3_sortOf_17 : decode cX3_sortOf 17 = .ok (.if_icmp .lt 11, 3) := by decide +kernel
theorem dX3_sortOf_20 : decode cX3_sortOf 20 = .ok (.iload_n 1, 1) := by decide +kernel
theorem dX3_sortOf_21 : decode cX3_sortOf 21 = .ok (.bipush 57, 2) := by decide +kernel
theorem dX3_sortOf_23 : decode cX3_sortOf 23 = .ok (.if_icmp .gt 5, 3) := by decide +kernel
theorem dX3_sortOf_26 : decode cX3_sortOf 26 = .ok (.iconst 2, 1) := by decide +kernel
theorem dX3_sortOf_27 : decode cX3_sortOf 27 = .ok (.ireturn, 1) := by decide +kernel
theorem dX3_sortOf_28 : decode cX3_sortOf 28 = .ok (.iload_n 1, 1) := by decide +kernel
theorem dX3_sortOf_29 : decode cX3_sortOf 29 = .ok (.bipush 59, 2) := by decide +kernel
theorem dX3_sortOf_31 : decode cX3_sortOf 31 = .ok (.if_icmp .ne 7, 3) := by decide +kernel
theorem dX3_sortOf_34 : decode cX3_sortOf 34 = .ok (.iconst 3, 1) := by decide +kernel
theorem dX3_sortOf_35 : decode cX3_sortOf 35 = .ok (.goto 4, 3) := by decide +kernel
theorem dX3_sortOf_38 : decode cX3_sortOf 38 = .ok (.iconst 4, 1) := by decide +kernel
theorem dX3_sortOf_39 : decode cX3_sortOf 39 = .ok (.ireturn, 1) := by decide +kernel
theorem dX3_isWord_0 : decode cX3_isWord 0 = .ok (.aload_n 0, 1) := by decide +kernel
theorem dX3_isWord_1 : decode cX3_isWord 1 = .ok (.getfield 19, 3) := by decide +kernel
theorem dX3_isWord_4 : decode cX3_isWord 4 = .ok (.iconst 1, 1) := by decide +kernel
theorem dX3_isWord_5 : decode cX3_isWord 5 = .ok (.if_icmp .ne 19, 3) := by decide +kernel
theorem dX3_isWord_8 : decode cX3_isWord 8 = .ok (.aload_n 0, 1) := by decide +kernel
theorem dX3_isWord_9 : decode cX3_isWord 9 = .ok (.getfield 25, 3) := by decide +kernel
theorem dX3_isWord_12 : decode cX3_isWord 12 = .ok (.aload_n 0, 1) := by decide +kernel
theorem dX3_isWord_13 : decode cX3_isWord 13 = .ok (.getfield 22, 3) := by decide +kernel
theorem dX3_isWord_16 : decode cX3_isWord 16 = .ok (.isub, 1) := by decide +kernel
theorem dX3_isWord_17 : decode cX3_isWord 17 = .ok (.aload_n 1, 1) := by decide +kernel
theorem dX3_isWord_18 : decode cX3_isWord 18 = .ok (.invokevirtual 47, 3) := by decide +kernel
theorem dX3_isWord_21 : decode cX3_isWord 21 = .ok (.if_icmp .eq 5, 3) := by decide +kernel
theorem dX3_isWord_24 : decode cX3_isWord 24 = .ok (.iconst 0, 1) := by decide +kernel
theorem dX3_isWord_25 : decode cX3_isWord 25 = .ok (.ireturn, 1) := by decide +kernel
theorem dX3_isWord_26 : decode cX3_isWord 26 = .ok (.iconst 0, 1) := by decide +kernel
theorem dX3_isWord_27 : decode cX3_isWord 27 = .ok (.istore_n 2, 1) := by decide +kernel
theorem dX3_isWord_28 : decode cX3_isWord 28 = .ok (.iload_n 2, 1) := by decide +kernel
theorem dX3_isWord_29 : decode cX3_isWord 29 = .ok (.aload_n 1, 1) := by decide +kernel
theorem dX3_isWord_30 : decode cX3_isWord 30 = .ok (.invokevirtual 47, 3) := by decide +kernel
theorem dX3_isWord_33 : decode cX3_isWord 33 = .ok (.if_icmp .ge 32, 3) := by decide +kernel
theorem dX3_isWord_36 : decode cX3_isWord 36 = .ok (.aload_n 0, 1) := by decide +kernel
theorem dX3_isWord_37 : decode cX3_isWord 37 = .ok (.getfield 9, 3) := by decide +kernel
theorem dX3_isWord_40 : decode cX3_isWord 40 = .ok (.aload_n 0, 1) := by decide +kernel
theorem dX3_isWord_41 : decode cX3_isWord 41 = .ok (.getfield 22, 3) := by decide +kernel
theorem dX3_isWord_44 : decode cX3_isWord 44 = .ok (.iload_n 2, 1) := by decide +kernel
theorem dX3_isWord_45 : decode cX3_isWord 45 = .ok (.iadd, 1) := by decide +kernel
theorem dX3_isWord_46 : decode cX3_isWord 46 = .ok (.invokestatic 39, 3) := by decide +kernel
theorem dX3_isWord_49 : decode cX3_isWord 49 = .ok (.aload_n 1, 1) := by decide +kernel
theorem dX3_isWord_50 : decode cX3_isWord 50 = .ok (.iload_n 2, 1) := by decide +kernel
theorem dX3_isWord_51 : decode cX3_isWord 51 = .ok (.invokevirtual 53, 3) := by decide +kernel
theorem dX3_isWord_54 : decode cX3_isWord 54 = .ok (.if_icmp .eq 5, 3) := by decide +kernel
theorem dX3_isWord_57 : decode cX3_isWord 57 = .ok (.iconst 0, 1) := by decide +kernel
theorem dX3_isWord_58 : decode cX3_isWord 58 = .ok (.ireturn, 1) := by decide +kernel
theorem dX3_isWord_59 : decode cX3_isWord 59 = .ok (.iinc 2 1, 3) := by decide +kernel
theorem dX3_isWord_62 : decode cX3_isWord 62 = .ok (.goto (-34), 3) := by decide +kernel
theorem dX3_isWord_65 : decode cX3_isWord 65 = .ok (.iconst 1, 1) := by decide +kernel
theorem dX3_isWord_66 : decode cX3_isWord 66 = .ok (.ireturn, 1) := by decide +kernel
theorem dX3_readWord_0 : decode cX3_readWord 0 = .ok (.aload_n 0, 1) := by decide +kernel
theorem dX3_readWord_1 : decode cX3_readWord 1 = .ok (.aload_n 1, 1) := by decide +kernel
theorem dX3_readWord_2 : decode cX3_readWord 2 = .ok (.invokevirtual 57, 3) := by decide +kernel
theorem dX3_readWord_5 : decode cX3_readWord 5 = .ok (.ifCond .ne 5, 3) := by decide +kernel
theorem dX3_readWord_8 : decode cX3_readWord 8 = .ok (.iconst 0, 1) := by decide +kernel
theorem dX3_readWord_9 : decode cX3_readWord 9 = .ok (.ireturn, 1) := by decide +kernel
theorem dX3_readWord_10 : decode cX3_readWord 10 = .ok (.aload_n 0, 1) := by decide +kernel
theorem dX3_readWord_11 : decode cX3_readWord 11 = .ok (.invokevirtual 32, 3) := by decide +kernel
theorem dX3_readWord_14 : decode cX3_readWord 14 = .ok (.iconst 1, 1) := by decide +kernel
theorem dX3_readWord_15 : decode cX3_readWord 15 = .ok (.ireturn, 1) := by decide +kernel
theorem dX3_readNumber_0 : decode cX3_readNumber 0 = .ok (.aload_n 0, 1) := by decide +kernel
theorem dX3_readNumber_1 : decode cX3_readNumber 1 = .ok (.getfield 19, 3) := by decide +kernel
theorem dX3_readNumber_4 : decode cX3_readNumber 4 = .ok (.iconst 2, 1) := by decide +kernel
theorem dX3_readNumber_5 : decode cX3_readNumber 5 = .ok (.if_icmp .ne 16, 3) := by decide +kernel
theorem dX3_readNumber_8 : decode cX3_readNumber 8 = .ok (.aload_n 0, 1) := by decide +kernel
theorem dX3_readNumber_9 : decode cX3_readNumber 9 = .ok (.getfield 25, 3) := by decide +kernel
theorem dX3_readNumber_12 : decode cX3_readNumber 12 = .ok (.aload_n 0, 1) := by decide +kernel
theorem dX3_readNumber_13 : decode cX3_readNumber 13 = .ok (.getfield 22, 3) := by decide +kernel
theorem dX3_readNumber_16 : decode cX3_readNumber 16 = .ok (.isub, 1) := by decide +kernel
theorem dX3_readNumber_17 : decode cX3_readNumber 17 = .ok (.iconst 2, 1) := by decide +kernel
theorem dX3_readNumber_18 : decode cX3_readNumber 18 = .ok (.if_icmp .le 5, 3) := by decide +kernel
theorem dX3_readNumber_21 : decode cX3_readNumber 21 = .ok (.iconst (-1), 1) := by decide +kernel
theorem dX3_readNumber_22 : decode cX3_readNumber 22 = .ok (.ireturn, 1) := by decide +kernel
theorem dX3_readNumber_23 : decode cX3_readNumber 23 = .ok (.iconst 0, 1) := by decide +kernel
theorem dX3_readNumber_24 : decode cX3_readNumber 24 = .ok (.istore_n 3, 1) := by decide +kernel
theorem dX3_readNumber_25 : decode cX3_readNumber 25 = .ok (.aload_n 0, 1) := by decide +kernel
theorem dX3_readNumber_26 : decode cX3_readNumber 26 = .ok (.getfield 22, 3) := by decide +kernel
theorem dX3_readNumber_29 : decode cX3_readNumber 29 = .ok (.istore 4, 2) := by decide +kernel
theorem dX3_readNumber_31 : decode cX3_readNumber 31 = .ok (.iload 4, 2) := by decide +kernel
theorem dX3_readNumber_33 : decode cX3_readNumber 33 = .ok (.aload_n 0, 1) := by decide +kernel
theorem dX3_readNumber_34 : decode cX3_readNumber 34 = .ok (.getfield 25, 3) := by decide +kernel
theorem dX3_readNumber_37 : decode cX3_readNumber 37 = .ok (.if_icmp .ge 27, 3) := by decide +kernel
theorem dX3_readNumber_40 : decode cX3_readNumber 40 = .ok (.bipush 10, 2) := by decide +kernel
theorem dX3_readNumber_42 : decode cX3_readNumber 42 = .ok (.iload_n 3, 1) := by decide +kernel
theorem dX3_readNumber_43 : decode cX3_readNumber 43 = .ok (.imul, 1) := by decide +kernel
theorem dX3_readNumber_44 : decode cX3_readNumber 44 = .ok (.aload_n 0, 1) := by decide +kernel
theorem dX3_readNumber_45 : decode cX3_readNumber 45 = .ok (.getfield 9, 3) := by decide +kernel
theorem dX3_readNumber_48 : decode cX3_readNumber 48 = .ok (.iload 4, 2) := by decide +kernel
theorem dX3_readNumber_50 : decode cX3_readNumber 50 = .ok (.invokestatic 39, 3) := by decide +kernel
theorem dX3_readNumber_53 : decode cX3_readNumber 53 = .ok (.iadd, 1) := by decide +kernel
theorem dX3_readNumber_54 : decode cX3_readNumber 54 = .ok (.bipush 48, 2) := by decide +kernel
theorem dX3_readNumber_56 : decode cX3_readNumber 56 = .ok (.isub, 1) := by decide +kernel
theorem dX3_readNumber_57 : decode cX3_readNumber 57 = .ok (.istore_n 3, 1) := by decide +kernel
theorem dX3_readNumber_58 : decode cX3_readNumber 58 = .ok (.iinc 4 1, 3) := by decide +kernel
theorem dX3_readNumber_61 : decode cX3_readNumber 61 = .ok (.goto (-30), 3) := by decide +kernel
theorem dX3_readNumber_64 : decode cX3_readNumber 64 = .ok (.iload_n 3, 1) := by decide +kernel
theorem dX3_readNumber_65 : decode cX3_readNumber 65 = .ok (.iload_n 1, 1) := by decide +kernel
theorem dX3_readNumber_66 : decode cX3_readNumber 66 = .ok (.iload_n 2, 1) := by decide +kernel
theorem dX3_readNumber_67 : decode cX3_readNumber 67 = .ok (.invokestatic 61, 3) := by decide +kernel
theorem dX3_readNumber_70 : decode cX3_readNumber 70 = .ok (.ifCond .ne 5, 3) := by decide +kernel
theorem dX3_readNumber_73 : decode cX3_readNumber 73 = .ok (.iconst (-1), 1) := by decide +kernel
theorem dX3_readNumber_74 : decode cX3_readNumber 74 = .ok (.ireturn, 1) := by decide +kernel
theorem dX3_readNumber_75 : decode cX3_readNumber 75 = .ok (.aload_n 0, 1) := by decide +kernel
theorem dX3_readNumber_76 : decode cX3_readNumber 76 = .ok (.invokevirtual 32, 3) := by decide +kernel
theorem dX3_readNumber_79 : decode cX3_readNumber 79 = .ok (.iload_n 3, 1) := by decide +kernel
theorem dX3_readNumber_80 : decode cX3_readNumber 80 = .ok (.ireturn, 1) := by decide +kernel
theorem dX3_readStatement_0 : decode cX3_readStatement 0 = .ok (.aload_n 0, 1) := by decide +kernel
theorem dX3_readStatement_1 : decode cX3_readStatement 1 = .ok (.ldc 65, 2) := by decide +kernel
theorem dX3_readStatement_3 : decode cX3_readStatement 3 = .ok (.invokevirtual 57, 3) := by decide +kernel
theorem dX3_readStatement_6 : decode cX3_readStatement 6 = .ok (.ifCond .eq 9, 3) := by decide +kernel
theorem dX3_readStatement_9 : decode cX3_readStatement 9 = .ok (.aload_n 0, 1) := by decide +kernel
theorem dX3_readStatement_10 : decode cX3_readStatement 10 = .ok (.aload_n 1, 1) := by decide +kernel
theorem dX3_readStatement_11 : decode cX3_readStatement 11 = .ok (.invokevirtual 67, 3) := by decide +kernel
theorem dX3_readStatement_14 : decode cX3_readStatement 14 = .ok (.ireturn, 1) := by decide +kernel
theorem dX3_readStatement_15 : decode cX3_readStatement 15 = .ok (.aload_n 0, 1) := by decide +kernel
theorem dX3_readStatement_16 : decode cX3_readStatement 16 = .ok (.ldc 70, 2) := by decide +kernel
theorem dX3_readStatement_18 : decode cX3_readStatement 18 = .ok (.invokevirtual 57, 3) := by decide +kernel
theorem dX3_readStatement_21 : decode cX3_readStatement 21 = .ok (.ifCond .eq 9, 3) := by decide +kernel
theorem dX3_readStatement_24 : decode cX3_readStatement 24 = .ok (.aload_n 0, 1) := by decide +kernel
theorem dX3_readStatement_25 : decode cX3_readStatement 25 = .ok (.aload_n 1, 1) := by decide +kernel
theorem dX3_readStatement_26 : decode cX3_readStatement 26 = .ok (.invokevirtual 72, 3) := by decide +kernel
theorem dX3_readStatement_29 : decode cX3_readStatement 29 = .ok (.ireturn, 1) := by decide +kernel
theorem dX3_readStatement_30 : decode cX3_readStatement 30 = .ok (.aload_n 0, 1) := by decide +kernel
theorem dX3_readStatement_31 : decode cX3_readStatement 31 = .ok (.ldc 75, 2) := by decide +kernel
theorem dX3_readStatement_33 : decode cX3_readStatement 33 = .ok (.invokevirtual 77, 3) := by decide +kernel
theorem dX3_readStatement_36 : decode cX3_readStatement 36 = .ok (.ifCond .eq 9, 3) := by decide +kernel
theorem dX3_readStatement_39 : decode cX3_readStatement 39 = .ok (.aload_n 0, 1) := by decide +kernel
theorem dX3_readStatement_40 : decode cX3_readStatement 40 = .ok (.aload_n 1, 1) := by decide +kernel
theorem dX3_readStatement_41 : decode cX3_readStatement 41 = .ok (.invokevirtual 80, 3) := by decide +kernel
theorem dX3_readStatement_44 : decode cX3_readStatement 44 = .ok (.ireturn, 1) := by decide +kernel
theorem dX3_readStatement_45 : decode cX3_readStatement 45 = .ok (.aload_n 0, 1) := by decide +kernel
theorem dX3_readStatement_46 : decode cX3_readStatement 46 = .ok (.ldc 83, 2) := by decide +kernel
theorem dX3_readStatement_48 : decode cX3_readStatement 48 = .ok (.invokevirtual 57, 3) := by decide +kernel
theorem dX3_readStatement_51 : decode cX3_readStatement 51 = .ok (.ifCond .eq 9, 3) := by decide +kernel
theorem dX3_readStatement_54 : decode cX3_readStatement 54 = .ok (.aload_n 0, 1) := by decide +kernel
theorem dX3_readStatement_55 : decode cX3_readStatement 55 = .ok (.aload_n 1, 1) := by decide +kernel
theorem dX3_readStatement_56 : decode cX3_readStatement 56 = .ok (.invokevirtual 85, 3) := by decide +kernel
theorem dX3_readStatement_59 : decode cX3_readStatement 59 = .ok (.ireturn, 1) := by decide +kernel
theorem dX3_readStatement_60 : decode cX3_readStatement 60 = .ok (.aload_n 0, 1) := by decide +kernel
theorem dX3_readStatement_61 : decode cX3_readStatement 61 = .ok (.ldc 88, 2) := by decide +kernel
theorem dX3_readStatement_63 : decode cX3_readStatement 63 = .ok (.invokevirtual 57, 3) := by decide +kernel
theorem dX3_readStatement_66 : decode cX3_readStatement 66 = .ok (.ifCond .eq 9, 3) := by decide +kernel
theorem dX3_readStatement_69 : decode cX3_readStatement 69 = .ok (.aload_n 0, 1) := by decide +kernel
theorem dX3_readStatement_70 : decode cX3_readStatement 70 = .ok (.aload_n 1, 1) := by decide +kernel
theorem dX3_readStatement_71 : decode cX3_readStatement 71 = .ok (.invokevirtual 90, 3) := by decide +kernel
theorem dX3_readStatement_74 : decode cX3_readStatement 74 = .ok (.ireturn, 1) := by decide +kernel
theorem dX3_readStatement_75 : decode cX3_readStatement 75 = .ok (.aload_n 0, 1) := by decide +kernel
theorem dX3_readStatement_76 : decode cX3_readStatement 76 = .ok (.ldc 93, 2) := by decide +kernel
theorem dX3_readStatement_78 : decode cX3_readStatement 78 = .ok (.invokevirtual 77, 3) := by decide +kernel
theorem dX3_readStatement_81 : decode cX3_readStatement 81 = .ok (.ifCond .eq 15, 3) := by decide +kernel
theorem dX3_readStatement_84 : decode cX3_readStatement 84 = .ok (.aload_n 0, 1) := by decide +kernel
theorem dX3_readStatement_85 : decode cX3_readStatement 85 = .ok (.aload_n 1, 1) := by decide +kernel
theorem dX3_readStatement_86 : decode cX3_readStatement 86 = .ok (.invokevirtual 95, 3) := by decide +kernel
theorem dX3_readStatement_89 : decode cX3_readStatement 89 = .ok (.ifCond .eq 7, 3) := by decide +kernel
theorem dX3_readStatement_92 : decode cX3_readStatement 92 = .ok (.iconst 1, 1) := by decide +kernel
theorem dX3_readStatement_93 : decode cX3_readStatement 93 = .ok (.goto 4, 3) := by decide +kernel
theorem dX3_readStatement_96 : decode cX3_readStatement 96 = .ok (.iconst 0, 1) := by decide +kernel
theorem dX3_readStatement_97 : decode cX3_readStatement 97 = .ok (.ireturn, 1) := by decide +kernel
theorem dX3_readPlaces_0 : decode cX3_readPlaces 0 = .ok (.aload_n 1, 1) := by decide +kernel
theorem dX3_readPlaces_1 : decode cX3_readPlaces 1 = .ok (.invokevirtual 98, 3) := by decide +kernel
theorem dX3_readPlaces_4 : decode cX3_readPlaces 4 = .ok (.ifCond .ne 5, 3) := by decide +kernel
theorem dX3_readPlaces_7 : decode cX3_readPlaces 7 = .ok (.iconst 0, 1) := by decide +kernel
theorem dX3_readPlaces_8 : decode cX3_readPlaces 8 = .ok (.ireturn, 1) := by decide +kernel
theorem dX3_readPlaces_9 : decode cX3_readPlaces 9 = .ok (.aload_n 0, 1) := by decide +kernel
theorem dX3_readPlaces_10 : decode cX3_readPlaces 10 = .ok (.invokevirtual 32, 3) := by decide +kernel
theorem dX3_readPlaces_13 : decode cX3_readPlaces 13 = .ok (.aload_n 0, 1) := by decide +kernel
theorem dX3_readPlaces_14 : decode cX3_readPlaces 14 = .ok (.iconst 1, 1) := by decide +kernel
theorem dX3_readPlaces_15 : decode cX3_readPlaces 15 = .ok (.iconst 5, 1) := by decide +kernel
theorem dX3_readPlaces_16 : decode cX3_readPlaces 16 = .ok (.invokevirtual 104, 3) := by decide +kernel
theorem dX3_readPlaces_19 : decode cX3_readPlaces 19 = .ok (.istore_n 2, 1) := by decide +kernel
theorem dX3_readPlaces_20 : decode cX3_readPlaces 20 = .ok (.aload_n 1, 1) := by decide +kernel
theorem dX3_readPlaces_21 : decode cX3_readPlaces 21 = .ok (.iload_n 2, 1) := by decide +kernel
theorem dX3_readPlaces_22 : decode cX3_readPlaces 22 = .ok (.iconst (-1), 1) := by decide +kernel
theorem dX3_readPlaces_23 : decode cX3_readPlaces 23 = .ok (.if_icmp .ne 10, 3) := by decide +kernel
theorem dX3_readPlaces_26 : decode cX3_readPlaces 26 = .ok (.aload_n 1, 1) := by decide +kernel
theorem dX3_readPlaces_27 : decode cX3_readPlaces 27 = .ok (.getfield 108, 3) := by decide +kernel
theorem dX3_readPlaces_30 : decode cX3_readPlaces 30 = .ok (.goto 4, 3) := by decide +kernel
theorem dX3_readPlaces_33 : decode cX3_readPlaces 33 = .ok (.iload_n 2, 1) := by decide +kernel
theorem dX3_readPlaces_34 : decode cX3_readPlaces 34 = .ok (.putfield 108, 3) := by decide +kernel
theorem dX3_readPlaces_37 : decode cX3_readPlaces 37 = .ok (.iload_n 2, 1) := by decide +kernel
theorem dX3_readPlaces_38 : decode cX3_readPlaces 38 = .ok (.iconst (-1), 1) := by decide +kernel
theorem dX3_readPlaces_39 : decode cX3_readPlaces 39 = .ok (.if_icmp .eq 7, 3) := by decide +kernel
theorem dX3_readPlaces_42 : decode cX3_readPlaces 42 = .ok (.iconst 1, 1) := by decide +kernel
theorem dX3_readPlaces_43 : decode cX3_readPlaces 43 = .ok (.goto 4, 3) := by decide +kernel
theorem dX3_readPlaces_46 : decode cX3_readPlaces 46 = .ok (.iconst 0, 1) := by decide +kernel
theorem dX3_readPlaces_47 : decode cX3_readPlaces 47 = .ok (.ireturn, 1) := by decide +kernel
theorem dX3_readDeep_0 : decode cX3_readDeep 0 = .ok (.aload_n 1, 1) := by decide +kernel
theorem dX3_readDeep_1 : decode cX3_readDeep 1 = .ok (.invokevirtual 98, 3) := by decide +kernel
theorem dX3_readDeep_4 : decode cX3_readDeep 4 = .ok (.ifCond .ne 5, 3) := by decide +kernel
theorem dX3_readDeep_7 : decode cX3_readDeep 7 = .ok (.iconst 0, 1) := by decide +kernel
theorem dX3_readDeep_8 : decode cX3_readDeep 8 = .ok (.ireturn, 1) := by decide +kernel
theorem dX3_readDeep_9 : decode cX3_readDeep 9 = .ok (.aload_n 0, 1) := by decide +kernel
theorem dX3_readDeep_10 : decode cX3_readDeep 10 = .ok (.invokevirtual 32, 3) := by decide +kernel
theorem dX3_readDeep_13 : decode cX3_readDeep 13 = .ok (.aload_n 0, 1) := by decide +kernel
theorem dX3_readDeep_14 : decode cX3_readDeep 14 = .ok (.iconst 1, 1) := by decide +kernel
theorem dX3_readDeep_15 : decode cX3_readDeep 15 = .ok (.iconst 4, 1) := by decide +kernel
theorem dX3_readDeep_16 : decode cX3_readDeep 16 = .ok (.invokevirtual 104, 3) := by decide +kernel
theorem dX3_readDeep_19 : decode cX3_readDeep 19 = .ok (.istore_n 2, 1) := by decide +kernel
theorem dX3_readDeep_20 : decode cX3_readDeep 20 = .ok (.aload_n 1, 1) := by decide +kernel
theorem dX3_readDeep_21 : decode cX3_readDeep 21 = .ok (.iload_n 2, 1) := by decide +kernel
theorem dX3_readDeep_22 : decode cX3_readDeep 22 = .ok (.iconst (-1), 1) := by decide +kernel
theorem dX3_readDeep_23 : decode cX3_readDeep 23 = .ok (.if_icmp .ne 10, 3) := by decide +kernel
theorem dX3_readDeep_26 : decode cX3_readDeep 26 = .ok (.aload_n 1, 1) := by decide +kernel
theorem dX3_readDeep_27 : decode cX3_readDeep 27 = .ok (.getfield 110, 3) := by decide +kernel
theorem dX3_readDeep_30 : decode cX3_readDeep 30 = .ok (.goto 4, 3) := by decide +kernel
theorem dX3_readDeep_33 : decode cX3_readDeep 33 = .ok (.iload_n 2, 1) := by decide +kernel
theorem dX3_readDeep_34 : decode cX3_readDeep 34 = .ok (.putfield 110, 3) := by decide +kernel
theorem dX3_readDeep_37 : decode cX3_readDeep 37 = .ok (.iload_n 2, 1) := by decide +kernel
theorem dX3_readDeep_38 : decode cX3_readDeep 38 = .ok (.iconst (-1), 1) := by decide +kernel
theorem dX3_readDeep_39 : decode cX3_readDeep 39 = .ok (.if_icmp .eq 7, 3) := by decide +kernel
theorem dX3_readDeep_42 : decode cX3_readDeep 42 = .ok (.iconst 1, 1) := by decide +kernel
theorem dX3_readDeep_43 : decode cX3_readDeep 43 = .ok (.goto 4, 3) := by decide +kernel
theorem dX3_readDeep_46 : decode cX3_readDeep 46 = .ok (.iconst 0, 1) := by decide +kernel
theorem dX3_readDeep_47 : decode cX3_readDeep 47 = .ok (.ireturn, 1) := by decide +kernel
theorem dX3_readStrength_0 : decode cX3_readStrength 0 = .ok (.aload_n 0, 1) := by decide +kernel
theorem dX3_readStrength_1 : decode cX3_readStrength 1 = .ok (.iconst 1, 1) := by decide +kernel
theorem dX3_readStrength_2 : decode cX3_readStrength 2 = .ok (.bipush 20, 2) := by decide +kernel
theorem dX3_readStrength_4 : decode cX3_readStrength 4 = .ok (.invokevirtual 104, 3) := by decide +kernel
theorem dX3_readStrength_7 : decode cX3_readStrength 7 = .ok (.istore_n 2, 1) := by decide +kernel
theorem dX3_readStrength_8 : decode cX3_readStrength 8 = .ok (.aload_n 1, 1) := by decide +kernel
theorem dX3_readStrength_9 : decode cX3_readStrength 9 = .ok (.iload_n 2, 1) := by decide +kernel
theorem dX3_readStrength_10 : decode cX3_readStrength 10 = .ok (.iconst (-1), 1) := by decide +kernel
theorem dX3_readStrength_11 : decode cX3_readStrength 11 = .ok (.if_icmp .ne 10, 3) := by decide +kernel
theorem dX3_readStrength_14 : decode cX3_readStrength 14 = .ok (.aload_n 1, 1) := by decide +kernel
theorem dX3_readStrength_15 : decode cX3_readStrength 15 = .ok (.getfield 112, 3) := by decide +kernel
theorem dX3_readStrength_18 : decode cX3_readStrength 18 = .ok (.goto 4, 3) := by decide +kernel
theorem dX3_readStrength_21 : decode cX3_readStrength 21 = .ok (.iload_n 2, 1) := by decide +kernel
theorem dX3_readStrength_22 : decode cX3_readStrength 22 = .ok (.putfield 112, 3) := by decide +kernel
theorem dX3_readStrength_25 : decode cX3_readStrength 25 = .ok (.iload_n 2, 1) := by decide +kernel
theorem dX3_readStrength_26 : decode cX3_readStrength 26 = .ok (.iconst (-1), 1) := by decide +kernel
theorem dX3_readStrength_27 : decode cX3_readStrength 27 = .ok (.if_icmp .eq 7, 3) := by decide +kernel
theorem dX3_readStrength_30 : decode cX3_readStrength 30 = .ok (.iconst 1, 1) := by decide +kernel
theorem dX3_readStrength_31 : decode cX3_readStrength 31 = .ok (.goto 4, 3) := by decide +kernel
theorem dX3_readStrength_34 : decode cX3_readStrength 34 = .ok (.iconst 0, 1) := by decide +kernel
theorem dX3_readStrength_35 : decode cX3_readStrength 35 = .ok (.ireturn, 1) := by decide +kernel
theorem dX3_readKey_0 : decode cX3_readKey 0 = .ok (.aload_n 1, 1) := by decide +kernel
theorem dX3_readKey_1 : decode cX3_readKey 1 = .ok (.getfield 114, 3) := by decide +kernel
theorem dX3_readKey_4 : decode cX3_readKey 4 = .ok (.bipush 6, 2) := by decide +kernel
theorem dX3_readKey_6 : decode cX3_readKey 6 = .ok (.if_icmp .lt 5, 3) := by decide +kernel
theorem dX3_readKey_9 : decode cX3_readKey 9 = .ok (.iconst 0, 1) := by decide +kernel
theorem dX3_readKey_10 : decode cX3_readKey 10 = .ok (.ireturn, 1) := by decide +kernel
theorem dX3_readKey_11 : decode cX3_readKey 11 = .ok (.aload_n 0, 1) := by decide +kernel
theorem dX3_readKey_12 : decode cX3_readKey 12 = .ok (.invokevirtual 32, 3) := by decide +kernel
theorem dX3_readKey_15 : decode cX3_readKey 15 = .ok (.aload_n 0, 1) := by decide +kernel
theorem dX3_readKey_16 : decode cX3_readKey 16 = .ok (.iconst 0, 1) := by decide +kernel
theorem dX3_readKey_17 : decode cX3_readKey 17 = .ok (.iconst 5, 1) := by decide +kernel
theorem dX3_readKey_18 : decode cX3_readKey 18 = .ok (.invokevirtual 104, 3) := by decide +kernel
theorem dX3_readKey_21 : decode cX3_readKey 21 = .ok (.istore_n 2, 1) := by decide +kernel
theorem dX3_readKey_22 : decode cX3_readKey 22 = .ok (.iload_n 2, 1) := by decide +kernel
theorem dX3_readKey_23 : decode cX3_readKey 23 = .ok (.iconst (-1), 1) := by decide +kernel
theorem dX3_readKey_24 : decode cX3_readKey 24 = .ok (.if_icmp .ne 5, 3) := by decide +kernel
theorem dX3_readKey_27 : decode cX3_readKey 27 = .ok (.iconst 0, 1) := by decide +kernel
theorem dX3_readKey_28 : decode cX3_readKey 28 = .ok (.ireturn, 1) := by decide +kernel
theorem dX3_readKey_29 : decode cX3_readKey 29 = .ok (.aload_n 0, 1) := by decide +kernel
theorem dX3_readKey_30 : decode cX3_readKey 30 = .ok (.iconst 0, 1) := by decide +kernel
theorem dX3_readKey_31 : decode cX3_readKey 31 = .ok (.bipush 9, 2) := by decide +kernel
theorem dX3_readKey_33 : decode cX3_readKey 33 = .ok (.invokevirtual 104, 3) := by decide +kernel
theorem dX3_readKey_36 : decode cX3_readKey 36 = .ok (.istore_n 3, 1) := by decide +kernel
theorem dX3_readKey_37 : decode cX3_readKey 37 = .ok (.iload_n 3, 1) := by decide +kernel
theorem dX3_readKey_38 : decode cX3_readKey 38 = .ok (.iconst (-1), 1) := by decide +kernel
theorem dX3_readKey_39 : decode cX3_readKey 39 = .ok (.if_icmp .ne 5, 3) := by decide +kernel
theorem dX3_readKey_42 : decode cX3_readKey 42 = .ok (.iconst 0, 1) := by decide +kernel
theorem dX3_readKey_43 : decode cX3_readKey 43 = .ok (.ireturn, 1) := by decide +kernel
theorem dX3_readKey_44 : decode cX3_readKey 44 = .ok (.aload_n 1, 1) := by decide +kernel
theorem dX3_readKey_45 : decode cX3_readKey 45 = .ok (.iload_n 2, 1) := by decide +kernel
theorem dX3_readKey_46 : decode cX3_readKey 46 = .ok (.iload_n 3, 1) := by decide +kernel
theorem dX3_readKey_47 : decode cX3_readKey 47 = .ok (.invokevirtual 117, 3) := by decide +kernel
theorem dX3_readKey_50 : decode cX3_readKey 50 = .ok (.istore 4, 2) := by decide +kernel
theorem dX3_readKey_52 : decode cX3_readKey 52 = .ok (.aload_n 0, 1) := by decide +kernel
theorem dX3_readKey_53 : decode cX3_readKey 53 = .ok (.ldc 120, 2) := by decide +kernel
theorem dX3_readKey_55 : decode cX3_readKey 55 = .ok (.invokevirtual 77, 3) := by decide +kernel
theorem dX3_readKey_58 : decode cX3_readKey 58 = .ok (.ifCond .eq 13, 3) := by decide +kernel
theorem dX3_readKey_61 : decode cX3_readKey 61 = .ok (.aload_n 0, 1) := by decide +kernel
theorem dX3_readKey_62 : decode cX3_readKey 62 = .ok (.aload_n 1, 1) := by decide +kernel
theorem dX3_readKey_63 : decode cX3_readKey 63 = .ok (.iload 4, 2) := by decide +kernel
theorem dX3_readKey_65 : decode cX3_readKey 65 = .ok (.invokevirtual 122, 3) := by decide +kernel
theorem dX3_readKey_68 : decode cX3_readKey 68 = .ok (.ifCond .eq 7, 3) := by decide +kernel
theorem dX3_readKey_71 : decode cX3_readKey 71 = .ok (.iconst 1, 1) := by decide +kernel
theorem dX3_readKey_72 : decode cX3_readKey 72 = .ok (.goto 4, 3) := by decide +kernel
theorem dX3_readKey_75 : decode cX3_readKey 75 = .ok (.iconst 0, 1) := by decide +kernel
theorem dX3_readKey_76 : decode cX3_readKey 76 = .ok (.ireturn, 1) := by decide +kernel
theorem dX3_readCuts_0 : decode cX3_readCuts 0 = .ok (.iconst 0, 1) := by decide +kernel
theorem dX3_readCuts_1 : decode cX3_readCuts 1 = .ok (.istore_n 3, 1) := by decide +kernel
theorem dX3_readCuts_2 : decode cX3_readCuts 2 = .ok (.iload_n 3, 1) := by decide +kernel
theorem dX3_readCuts_3 : decode cX3_readCuts 3 = .ok (.aload_n 1, 1) := by decide +kernel
theorem dX3_readCuts_4 : decode cX3_readCuts 4 = .ok (.getfield 108, 3) := by decide +kernel
theorem dX3_readCuts_7 : decode cX3_readCuts 7 = .ok (.if_icmp .ge 42, 3) := by decide +kernel
theorem dX3_readCuts_10 : decode cX3_readCuts 10 = .ok (.aload_n 0, 1) := by decide +kernel
theorem dX3_readCuts_11 : decode cX3_readCuts 11 = .ok (.iconst 0, 1) := by decide +kernel
theorem dX3_readCuts_12 : decode cX3_readCuts 12 = .ok (.aload_n 1, 1) := by decide +kernel
theorem dX3_readCuts_13 : decode cX3_readCuts 13 = .ok (.getfield 110, 3) := by decide +kernel
theorem dX3_readCuts_16 : decode cX3_readCuts 16 = .ok (.invokevirtual 104, 3) := by decide +kernel
theorem dX3_readCuts_19 : decode cX3_readCuts 19 = .ok (.istore 4, 2) := by decide +kernel
theorem dX3_readCuts_21 : decode cX3_readCuts 21 = .ok (.iload 4, 2) := by decide +kernel
theorem dX3_readCuts_23 : decode cX3_readCuts 23 = .ok (.iconst (-1), 1) := by decide +kernel
theorem dX3_readCuts_24 : decode cX3_readCuts 24 = .ok (.if_icmp .ne 5, 3) := by decide +kernel
theorem dX3_readCuts_27 : decode cX3_readCuts 27 = .ok (.iconst 0, 1) := by decide +kernel
theorem dX3_readCuts_28 : decode cX3_readCuts 28 = .ok (.ireturn, 1) := by decide +kernel
theorem dX3_readCuts_29 : decode cX3_readCuts 29 = .ok (.aload_n 1, 1) := by decide +kernel
theorem dX3_readCuts_30 : decode cX3_readCuts 30 = .ok (.iload_n 2, 1) := by decide +kernel
theorem dX3_readCuts_31 : decode cX3_readCuts 31 = .ok (.invokevirtual 126, 3) := by decide +kernel
theorem dX3_readCuts_34 : decode cX3_readCuts 34 = .ok (.getfield 130, 3) := by decide +kernel
theorem dX3_readCuts_37 : decode cX3_readCuts 37 = .ok (.iload_n 3, 1) := by decide +kernel
theorem dX3_readCuts_38 : decode cX3_readCuts 38 = .ok (.iload 4, 2) := by decide +kernel
theorem dX3_readCuts_40 : decode cX3_readCuts 40 = .ok (.invokestatic 28, 3) := by decide +kernel
theorem dX3_readCuts_43 : decode cX3_readCuts 43 = .ok (.iinc 3 1, 3) := by decide +kernel
theorem dX3_readCuts_46 : decode cX3_readCuts 46 = .ok (.goto (-44), 3) := by decide +kernel
theorem dX3_readCuts_49 : decode cX3_readCuts 49 = .ok (.iconst 1, 1) := by decide +kernel
theorem dX3_readCuts_50 : decode cX3_readCuts 50 = .ok (.ireturn, 1) := by decide +kernel
theorem dX3_readLock_0 : decode cX3_readLock 0 = .ok (.aload_n 1, 1) := by decide +kernel
theorem dX3_readLock_1 : decode cX3_readLock 1 = .ok (.getfield 134, 3) := by decide +kernel
theorem dX3_readLock_4 : decode cX3_readLock 4 = .ok (.bipush 8, 2) := by decide +kernel
theorem dX3_readLock_6 : decode cX3_readLock 6 = .ok (.if_icmp .lt 5, 3) := by decide +kernel
theorem dX3_readLock_9 : decode cX3_readLock 9 = .ok (.iconst 0, 1) := by decide +kernel
theorem dX3_readLock_10 : decode cX3_readLock 10 = .ok (.ireturn, 1) := by decide +kernel
theorem dX3_readLock_11 : decode cX3_readLock 11 = .ok (.aload_n 0, 1) := by decide +kernel
theorem dX3_readLock_12 : decode cX3_readLock 12 = .ok (.invokevirtual 32, 3) := by decide +kernel
theorem dX3_readLock_15 : decode cX3_readLock 15 = .ok (.aload_n 1, 1) := by decide +kernel
theorem dX3_readLock_16 : decode cX3_readLock 16 = .ok (.iconst 0, 1) := by decide +kernel
theorem dX3_readLock_17 : decode cX3_readLock 17 = .ok (.invokevirtual 137, 3) := by decide +kernel
theorem dX3_readLock_20 : decode cX3_readLock 20 = .ok (.istore_n 2, 1) := by decide +kernel
theorem dX3_readLock_21 : decode cX3_readLock 21 = .ok (.aload_n 0, 1) := by decide +kernel
theorem dX3_readLock_22 : decode cX3_readLock 22 = .ok (.ldc 141, 2) := by decide +kernel
theorem dX3_readLock_24 : decode cX3_readLock 24 = .ok (.invokevirtual 77, 3) := by decide +kernel
theorem dX3_readLock_27 : decode cX3_readLock 27 = .ok (.ifCond .eq 14, 3) := by decide +kernel
theorem dX3_readLock_30 : decode cX3_readLock 30 = .ok (.aload_n 0, 1) := by decide +kernel
theorem dX3_readLock_31 : decode cX3_readLock 31 = .ok (.aload_n 1, 1) := by decide +kernel
theorem dX3_readLock_32 : decode cX3_readLock 32 = .ok (.iload_n 2, 1) := by decide +kernel
theorem dX3_readLock_33 : decode cX3_readLock 33 = .ok (.invokevirtual 143, 3) := by decide +kernel
theorem dX3_readLock_36 : decode cX3_readLock 36 = .ok (.ifCond .ne 5, 3) := by decide +kernel
theorem dX3_readLock_39 : decode cX3_readLock 39 = .ok (.iconst 0, 1) := by decide +kernel
theorem dX3_readLock_40 : decode cX3_readLock 40 = .ok (.ireturn, 1) := by decide +kernel
theorem dX3_readLock_41 : decode cX3_readLock 41 = .ok (.aload_n 0, 1) := by decide +kernel
theorem dX3_readLock_42 : decode cX3_readLock 42 = .ok (.ldc 146, 2) := by decide +kernel
theorem dX3_readLock_44 : decode cX3_readLock 44 = .ok (.invokevirtual 77, 3) := by decide +kernel
theorem dX3_readLock_47 : decode cX3_readLock 47 = .ok (.ifCond .eq 15, 3) := by decide +kernel
theorem dX3_readLock_50 : decode cX3_readLock 50 = .ok (.aload_n 1, 1) := by decide +kernel
theorem dX3_readLock_51 : decode cX3_readLock 51 = .ok (.dup, 1) := by decide +kernel
theorem dX3_readLock_52 : decode cX3_readLock 52 = .ok (.getfield 148, 3) := by decide +kernel
theorem dX3_readLock_55 : decode cX3_readLock 55 = .ok (.iconst 1, 1) := by decide +kernel
theorem dX3_readLock_56 : decode cX3_readLock 56 = .ok (.iload_n 2, 1) := by decide +kernel
theorem dX3_readLock_57 : decode cX3_readLock 57 = .ok (.ishl, 1) := by decide +kernel
theorem dX3_readLock_58 : decode cX3_readLock 58 = .ok (.ior, 1) := by decide +kernel
theorem dX3_readLock_59 : decode cX3_readLock 59 = .ok (.putfield 148, 3) := by decide +kernel
theorem dX3_readLock_62 : decode cX3_readLock 62 = .ok (.iconst 1, 1) := by decide +kernel
theorem dX3_readLock_63 : decode cX3_readLock 63 = .ok (.ireturn, 1) := by decide +kernel
theorem dX3_readAsks_0 : decode cX3_readAsks 0 = .ok (.iconst 0, 1) := by decide +kernel
theorem dX3_readAsks_1 : decode cX3_readAsks 1 = .ok (.istore_n 3, 1) := by decide +kernel
theorem dX3_readAsks_2 : decode cX3_readAsks 2 = .ok (.iload_n 3, 1) := by decide +kernel
theorem dX3_readAsks_3 : decode cX3_readAsks 3 = .ok (.aload_n 1, 1) := by decide +kernel
theorem dX3_readAsks_4 : decode cX3_readAsks 4 = .ok (.getfield 108, 3) := by decide +kernel
theorem dX3_readAsks_7 : decode cX3_readAsks 7 = .ok (.if_icmp .ge 36, 3) := by decide +kernel
theorem dX3_readAsks_10 : decode cX3_readAsks 10 = .ok (.aload_n 0, 1) := by decide +kernel
theorem dX3_readAsks_11 : decode cX3_readAsks 11 = .ok (.iconst 0, 1) := by decide +kernel
theorem dX3_readAsks_12 : decode cX3_readAsks 12 = .ok (.aload_n 1, 1) := by decide +kernel
theorem dX3_readAsks_13 : decode cX3_readAsks 13 = .ok (.getfield 110, 3) := by decide +kernel
theorem dX3_readAsks_16 : decode cX3_readAsks 16 = .ok (.invokevirtual 104, 3) := by decide +kernel
theorem dX3_readAsks_19 : decode cX3_readAsks 19 = .ok (.istore 4, 2) := by decide +kernel
theorem dX3_readAsks_21 : decode cX3_readAsks 21 = .ok (.iload 4, 2) := by decide +kernel
theorem dX3_readAsks_23 : decode cX3_readAsks 23 = .ok (.iconst (-1), 1) := by decide +kernel
theorem dX3_readAsks_24 : decode cX3_readAsks 24 = .ok (.if_icmp .ne 5, 3) := by decide +kernel
theorem dX3_readAsks_27 : decode cX3_readAsks 27 = .ok (.iconst 0, 1) := by decide +kernel
theorem dX3_readAsks_28 : decode cX3_readAsks 28 = .ok (.ireturn, 1) := by decide +kernel
theorem dX3_readAsks_29 : decode cX3_readAsks 29 = .ok (.aload_n 1, 1) := by decide +kernel
theorem dX3_readAsks_30 : decode cX3_readAsks 30 = .ok (.iload_n 2, 1) := by decide +kernel
theorem dX3_readAsks_31 : decode cX3_readAsks 31 = .ok (.iload_n 3, 1) := by decide +kernel
theorem dX3_readAsks_32 : decode cX3_readAsks 32 = .ok (.iload 4, 2) := by decide +kernel
theorem dX3_readAsks_34 : decode cX3_readAsks 34 = .ok (.invokevirtual 151, 3) := by decide +kernel
theorem dX3_readAsks_37 : decode cX3_readAsks 37 = .ok (.iinc 3 1, 3) := by decide +kernel
theorem dX3_readAsks_40 : decode cX3_readAsks 40 = .ok (.goto (-38), 3) := by decide +kernel
theorem dX3_readAsks_43 : decode cX3_readAsks 43 = .ok (.iconst 1, 1) := by decide +kernel
theorem dX3_readAsks_44 : decode cX3_readAsks 44 = .ok (.ireturn, 1) := by decide +kernel
theorem dX3_readMay_0 : decode cX3_readMay 0 = .ok (.aload_n 0, 1) := by decide +kernel
theorem dX3_readMay_1 : decode cX3_readMay 1 = .ok (.iconst 0, 1) := by decide +kernel
theorem dX3_readMay_2 : decode cX3_readMay 2 = .ok (.aload_n 1, 1) := by decide +kernel
theorem dX3_readMay_3 : decode cX3_readMay 3 = .ok (.getfield 114, 3) := by decide +kernel
theorem dX3_readMay_6 : decode cX3_readMay 6 = .ok (.iconst 1, 1) := by decide +kernel
theorem dX3_readMay_7 : decode cX3_readMay 7 = .ok (.isub, 1) := by decide +kernel
theorem dX3_readMay_8 : decode cX3_readMay 8 = .ok (.invokevirtual 104, 3) := by decide +kernel
theorem dX3_readMay_11 : decode cX3_readMay 11 = .ok (.istore_n 2, 1) := by decide +kernel
theorem dX3_readMay_12 : decode cX3_readMay 12 = .ok (.iload_n 2, 1) := by decide +kernel
theorem dX3_readMay_13 : decode cX3_readMay 13 = .ok (.iconst (-1), 1) := by decide +kernel
theorem dX3_readMay_14 : decode cX3_readMay 14 = .ok (.if_icmp .ne 5, 3) := by decide +kernel
theorem dX3_readMay_17 : decode cX3_readMay 17 = .ok (.iconst 0, 1) := by decide +kernel
theorem dX3_readMay_18 : decode cX3_readMay 18 = .ok (.ireturn, 1) := by decide +kernel
theorem dX3_readMay_19 : decode cX3_readMay 19 = .ok (.aload_n 0, 1) := by decide +kernel
theorem dX3_readMay_20 : decode cX3_readMay 20 = .ok (.iconst 0, 1) := by decide +kernel
theorem dX3_readMay_21 : decode cX3_readMay 21 = .ok (.aload_n 1, 1) := by decide +kernel
theorem dX3_readMay_22 : decode cX3_readMay 22 = .ok (.getfield 134, 3) := by decide +kernel
theorem dX3_readMay_25 : decode cX3_readMay 25 = .ok (.iconst 1, 1) := by decide +kernel
theorem dX3_readMay_26 : decode cX3_readMay 26 = .ok (.isub, 1) := by decide +kernel
theorem dX3_readMay_27 : decode cX3_readMay 27 = .ok (.invokevirtual 104, 3) := by decide +kernel
theorem dX3_readMay_30 : decode cX3_readMay 30 = .ok (.istore_n 3, 1) := by decide +kernel
theorem dX3_readMay_31 : decode cX3_readMay 31 = .ok (.iload_n 3, 1) := by decide +kernel
theorem dX3_readMay_32 : decode cX3_readMay 32 = .ok (.iconst (-1), 1) := by decide +kernel
theorem dX3_readMay_33 : decode cX3_readMay 33 = .ok (.if_icmp .ne 5, 3) := by decide +kernel
theorem dX3_readMay_36 : decode cX3_readMay 36 = .ok (.iconst 0, 1) := by decide +kernel
theorem dX3_readMay_37 : decode cX3_readMay 37 = .ok (.ireturn, 1) := by decide +kernel
theorem dX3_readMay_38 : decode cX3_readMay 38 = .ok (.aload_n 1, 1) := by decide +kernel
theorem dX3_readMay_39 : decode cX3_readMay 39 = .ok (.iload_n 2, 1) := by decide +kernel
theorem dX3_readMay_40 : decode cX3_readMay 40 = .ok (.invokevirtual 126, 3) := by decide +kernel
theorem dX3_readMay_43 : decode cX3_readMay 43 = .ok (.iload_n 3, 1) := by decide +kernel
theorem dX3_readMay_44 : decode cX3_readMay 44 = .ok (.iconst 1, 1) := by decide +kernel
theorem dX3_readMay_45 : decode cX3_readMay 45 = .ok (.invokevirtual 155, 3) := by decide +kernel
theorem dX3_readMay_48 : decode cX3_readMay 48 = .ok (.pop, 1) := by decide +kernel
theorem dX3_readMay_49 : decode cX3_readMay 49 = .ok (.iconst 1, 1) := by decide +kernel
theorem dX3_readMay_50 : decode cX3_readMay 50 = .ok (.ireturn, 1) := by decide +kernel
theorem dX4_init_0 : decode cX4_init 0 = .ok (.aload_n 0, 1) := by decide +kernel
theorem dX4_init_1 : decode cX4_init 1 = .ok (.invokespecial 3, 3) := by decide +kernel
theorem dX4_init_4 : decode cX4_init 4 = .ok (.aload_n 0, 1) := by decide +kernel
theorem dX4_init_5 : decode cX4_init 5 = .ok (.iconst 5, 1) := by decide +kernel
theorem dX4_init_6 : decode cX4_init 6 = .ok (.newarray .int, 2) := by decide +kernel
theorem dX4_init_8 : decode cX4_init 8 = .ok (.putfield 9, 3) := by decide +kernel
theorem dX4_init_11 : decode cX4_init 11 = .ok (.aload_n 0, 1) := by decide +kernel
theorem dX4_init_12 : decode cX4_init 12 = .ok (.iconst 5, 1) := by decide +kernel
theorem dX4_init_13 : decode cX4_init 13 = .ok (.newarray .int, 2) := by decide +kernel
theorem dX4_init_15 : decode cX4_init 15 = .ok (.putfield 15, 3) := by decide +kernel
theorem dX4_init_18 : decode cX4_init 18 = .ok (.aload_n 0, 1) := by decide +kernel
theorem dX4_init_19 : decode cX4_init 19 = .ok (.iconst 5, 1) := by decide +kernel
theorem dX4_init_20 : decode cX4_init 20 = .ok (.newarray .int, 2) := by decide +kernel
theorem dX4_init_22 : decode cX4_init 22 = .ok (.putfield 18, 3) := by decide +kernel
theorem dX4_init_25 : decode cX4_init 25 = .ok (.aload_n 0, 1) := by decide +kernel
theorem dX4_init_26 : decode cX4_init 26 = .ok (.bipush 25, 2) := by decide +kernel
theorem dX4_init_28 : decode cX4_init 28 = .ok (.newarray .int, 2) := by decide +kernel
theorem dX4_init_30 : decode cX4_init 30 = .ok (.putfield 21, 3) := by decide +kernel
theorem dX4_init_33 : decode cX4_init 33 = .ok (.aload_n 0, 1) := by decide +kernel
theorem dX4_init_34 : decode cX4_init 34 = .ok (.bipush 6, 2) := by decide +kernel
theorem dX4_init_36 : decode cX4_init 36 = .ok (.newarray .int, 2) := by decide +kernel
theorem dX4_init_38 : decode cX4_init 38 = .ok (.putfield 24, 3) := by decide +kernel
theorem dX4_init_41 : decode cX4_init 41 = .ok (.aload_n 0, 1) := by decide +kernel
theorem dX4_init_42 : decode cX4_init 42 = .ok (.bipush 6, 2) := by decide +kernel
theorem dX4_init_44 : decode cX4_init 44 = .ok (.iconst 5, 1) := by decide +kernel
theorem dX4_init_45 : decode cX4_init 45 = .ok (.multianewarray 27 2, 4) := by decide +kernel
theorem dX4_init_49 : decode cX4_init 49 = .ok (.putfield 29, 3) := by decide +kernel
theorem dX4_init_52 : decode cX4_init 52 = .ok (.aload_n 0, 1) := by decide +kernel
theorem dX4_init_53 : decode cX4_init 53 = .ok (.bipush 6, 2) := by decide +kernel
theorem dX4_init_55 : decode cX4_init 55 = .ok (.newarray .int, 2) := by decide +kernel
theorem dX4_init_57 : decode cX4_init 57 = .ok (.putfield 32, 3) := by decide +kernel
theorem dX4_init_60 : decode cX4_init 60 = .ok (.aload_n 0, 1) := by decide +kernel
theorem dX4_init_61 : decode cX4_init 61 = .ok (.bipush 6, 2) := by decide +kernel
theorem dX4_init_63 : decode cX4_init 63 = .ok (.newarray .int, 2) := by decide +kernel
theorem dX4_init_65 : decode cX4_init 65 = .ok (.putfield 35, 3) := by decide +kernel
theorem dX4_init_68 : decode cX4_init 68 = .ok (.aload_n 0, 1) := by decide +kernel
theorem dX4_init_69 : decode cX4_init 69 = .ok (.bipush 21, 2) := by decide +kernel
theorem dX4_init_71 : decode cX4_init 71 = .ok (.newarray .int, 2) := by decide +kernel
theorem dX4_init_73 : decode cX4_init 73 = .ok (.putfield 38, 3) := by decide +kernel
theorem dX4_init_76 : decode cX4_init 76 = .ok (.aload_n 0, 1) := by decide +kernel
theorem dX4_init_77 : decode cX4_init 77 = .ok (.aload_n 1, 1) := by decide +kernel
theorem dX4_init_78 : decode cX4_init 78 = .ok (.putfield 41, 3) := by decide +kernel
theorem dX4_init_81 : decode cX4_init 81 = .ok (.return_, 1) := by decide +kernel
theorem dX4_foundAt_0 : decode cX4_foundAt 0 = .ok (.aload_n 0, 1) := by decide +kernel
theorem dX4_foundAt_1 : decode cX4_foundAt 1 = .ok (.getfield 18, 3) := by decide +kernel
theorem dX4_foundAt_4 : decode cX4_foundAt 4 = .ok (.iload_n 1, 1) := by decide +kernel
theorem dX4_foundAt_5 : decode cX4_foundAt 5 = .ok (.invokestatic 45, 3) := by decide +kernel
theorem dX4_foundAt_8 : decode cX4_foundAt 8 = .ok (.ireturn, 1) := by decide +kernel
theorem dX4_leastCuts_0 : decode cX4_leastCuts 0 = .ok (.aload_n 0, 1) := by decide +kernel
theorem dX4_leastCuts_1 : decode cX4_leastCuts 1 = .ok (.aload_n 0, 1) := by decide +kernel
theorem dX4_leastCuts_2 : decode cX4_leastCuts 2 = .ok (.getfield 41, 3) := by decide +kernel
theorem dX4_leastCuts_5 : decode cX4_leastCuts 5 = .ok (.getfield 49, 3) := by decide +kernel
theorem dX4_leastCuts_8 : decode cX4_leastCuts 8 = .ok (.aload_n 0, 1) := by decide +kernel
theorem dX4_leastCuts_9 : decode cX4_leastCuts 9 = .ok (.getfield 41, 3) := by decide +kernel
theorem dX4_leastCuts_12 : decode cX4_leastCuts 12 = .ok (.getfield 54, 3) := by decide +kernel
theorem dX4_leastCuts_15 : decode cX4_leastCuts 15 = .ok (.invokestatic 58, 3) := by decide +kernel
theorem dX4_leastCuts_18 : decode cX4_leastCuts 18 = .ok (.iload_n 1, 1) := by decide +kernel
theorem dX4_leastCuts_19 : decode cX4_leastCuts 19 = .ok (.invokevirtual 62, 3) := by decide +kernel
theorem dX4_leastCuts_22 : decode cX4_leastCuts 22 = .ok (.ireturn, 1) := by decide +kernel
theorem dX4_leastAsks_0 : decode cX4_leastAsks 0 = .ok (.iconst 0, 1) := by decide +kernel
theorem dX4_leastAsks_1 : decode cX4_leastAsks 1 = .ok (.istore_n 2, 1) := by decide +kernel
theorem dX4_leastAsks_2 : decode cX4_leastAsks 2 = .ok (.iload_n 2, 1) := by decide +kernel
theorem dX4_leastAsks_3 : decode cX4_leastAsks 3 = .ok (.aload_n 0, 1) := by decide +kernel
theorem dX4_leastAsks_4 : decode cX4_leastAsks 4 = .ok (.getfield 41, 3) := by decide +kernel
theorem dX4_leastAsks_7 : decode cX4_leastAsks 7 = .ok (.getfield 66, 3) := by decide +kernel
theorem dX4_leastAsks_10 : decode cX4_leastAsks 10 = .ok (.if_icmp .ge 40, 3) := by decide +kernel
theorem dX4_leastAsks_13 : decode cX4_leastAsks 13 = .ok (.iconst 0, 1) := by decide +kernel
theorem dX4_leastAsks_14 : decode cX4_leastAsks 14 = .ok (.istore_n 3, 1) := by decide +kernel
theorem dX4_leastAsks_15 : decode cX4_leastAsks 15 = .ok (.iload_n 3, 1) := by decide +kernel
theorem dX4_leastAsks_16 : decode cX4_leastAsks 16 = .ok (.iconst 5, 1) := by decide +kernel
theorem dX4_leastAsks_17 : decode cX4_leastAsks 17 = .ok (.if_icmp .ge 27, 3) := by decide +kernel
theorem dX4_leastAsks_20 : decode cX4_leastAsks 20 = .ok (.aload_n 0, 1) := by decide +kernel
theorem dX4_leastAsks_21 : decode cX4_leastAsks 21 = .ok (.getfield 21, 3) := by decide +kernel
theorem dX4_leastAsks_24 : decode cX4_leastAsks 24 = .ok (.iload_n 2, 1) := by decide +kernel
theorem dX4_leastAsks_25 : decode cX4_leastAsks 25 = .ok (.iconst 5, 1) := by decide +kernel
theorem dX4_leastAsks_26 : decode cX4_leastAsks 26 = .ok (.imul, 1) := by decide +kernel
theorem dX4_leastAsks_27 : decode cX4_leastAsks 27 = .ok (.iload_n 3, 1) := by decide +kernel
theorem dX4_leastAsks_28 : decode cX4_leastAsks 28 = .ok (.iadd, 1) := by decide +kernel
theorem dX4_leastAsks_29 : decode cX4_leastAsks 29 = .ok (.aload_n 0, 1) := by decide +kernel
theorem dX4_leastAsks_30 : decode cX4_leastAsks 30 = .ok (.iload_n 2, 1) := by decide +kernel
theorem dX4_leastAsks_31 : decode cX4_leastAsks 31 = .ok (.iload_n 3, 1) := by decide +kernel
theorem dX4_leastAsks_32 : decode cX4_leastAsks 32 = .ok (.invokevirtual 69, 3) := by decide +kernel
theorem dX4_leastAsks_35 : decode cX4_leastAsks 35 = .ok (.invokestatic 73, 3) := by decide +kernel
theorem dX4_leastAsks_38 : decode cX4_leastAsks 38 = .ok (.iinc 3 1, 3) := by decide +kernel
theorem dX4_leastAsks_41 : decode cX4_leastAsks 41 = .ok (.goto (-26), 3) := by decide +kernel
theorem dX4_leastAsks_44 : decode cX4_leastAsks 44 = .ok (.iinc 2 1, 3) := by decide +kernel
theorem dX4_leastAsks_47 : decode cX4_leastAsks 47 = .ok (.goto (-45), 3) := by decide +kernel
theorem dX4_leastAsks_50 : decode cX4_leastAsks 50 = .ok (.aload_n 0, 1) := by decide +kernel
theorem dX4_leastAsks_51 : decode cX4_leastAsks 51 = .ok (.aload_n 0, 1) := by decide +kernel
theorem dX4_leastAsks_52 : decode cX4_leastAsks 52 = .ok (.getfield 21, 3) := by decide +kernel
theorem dX4_leastAsks_55 : decode cX4_leastAsks 55 = .ok (.aload_n 0, 1) := by decide +kernel
theorem dX4_leastAsks_56 : decode cX4_leastAsks 56 = .ok (.getfield 41, 3) := by decide +kernel
theorem dX4_leastAsks_59 : decode cX4_leastAsks 59 = .ok (.getfield 77, 3) := by decide +kernel
theorem dX4_leastAsks_62 : decode cX4_leastAsks 62 = .ok (.invokestatic 58, 3) := by decide +kernel
theorem dX4_leastAsks_65 : decode cX4_leastAsks 65 = .ok (.iload_n 1, 1) := by decide +kernel
theorem dX4_leastAsks_66 : decode cX4_leastAsks 66 = .ok (.invokevirtual 62, 3) := by decide +kernel
theorem dX4_leastAsks_69 : decode cX4_leastAsks 69 = .ok (.ireturn, 1) := by decide +kernel
theorem dX4_keysOfDepth_0 : decode cX4_keysOfDepth 0 = .ok (.iconst 0, 1) := by decide +kernel
theorem dX4_keysOfDepth_1 : decode cX4_keysOfDepth 1 = .ok (.istore_n 3, 1) := by decide +kernel
theorem dX4_keysOfDepth_2 : decode cX4_keysOfDepth 2 = .ok (.iconst 0, 1) := by decide +kernel
theorem dX4_keysOfDepth_3 : decode cX4_keysOfDepth 3 = .ok (.istore 4, 2) := by decide +kernel
theorem dX4_keysOfDepth_5 : decode cX4_keysOfDepth 5 = .ok (.iload 4, 2) := by decide +kernel
theorem dX4_keysOfDepth_7 : decode cX4_keysOfDepth 7 = .ok (.aload_n 0, 1) := by decide +kernel
theorem dX4_keysOfDepth_8 : decode cX4_keysOfDepth 8 = .ok (.getfield 41, 3) := by decide +kernel
theorem dX4_keysOfDepth_11 : decode cX4_keysOfDepth 11 = .ok (.getfield 77, 3) := by decide +kernel
theorem dX4_keysOfDepth_14 : decode cX4_keysOfDepth 14 = .ok (.if_icmp .ge 46, 3) := by decide +kernel
theorem dX4_keysOfDepth_17 : decode cX4_keysOfDepth 17 = .ok (.aload_n 0, 1) := by decide +kernel
theorem dX4_keysOfDepth_18 : decode cX4_keysOfDepth 18 = .ok (.getfield 41, 3) := by decide +kernel
theorem dX4_keysOfDepth_21 : decode cX4_keysOfDepth 21 = .ok (.iload 4, 2) := by decide +kernel
theorem dX4_keysOfDepth_23 : decode cX4_keysOfDepth 23 = .ok (.invokevirtual 80, 3) := by decide +kernel
theorem dX4_keysOfDepth_26 : decode cX4_keysOfDepth 26 = .ok (.astore 5, 2) := by decide +kernel
theorem dX4_keysOfDepth_28 : decode cX4_keysOfDepth 28 = .ok (.aload_n 0, 1) := by decide +kernel
theorem dX4_keysOfDepth_29 : decode cX4_keysOfDepth 29 = .ok (.getfield 41, 3) := by decide +kernel
theorem dX4_keysOfDepth_32 : decode cX4_keysOfDepth 32 = .ok (.aload 5, 2) := by decide +kernel
theorem dX4_keysOfDepth_34 : decode cX4_keysOfDepth 34 = .ok (.aload 5, 2) := by decide +kernel
theorem dX4_keysOfDepth_36 : decode cX4_keysOfDepth 36 = .ok (.getfield 84, 3) := by decide +kernel
theorem dX4_keysOfDepth_39 : decode cX4_keysOfDepth 39 = .ok (.iload_n 1, 1) := by decide +kernel
theorem dX4_keysOfDepth_40 : decode cX4_keysOfDepth 40 = .ok (.invokevirtual 89, 3) := by decide +kernel
theorem dX4_keysOfDepth_43 : decode cX4_keysOfDepth 43 = .ok (.iload_n 2, 1) := by decide +kernel
theorem dX4_keysOfDepth_44 : decode cX4_keysOfDepth 44 = .ok (.if_icmp .lt 10, 3) := by decide +kernel
theorem dX4_keysOfDepth_47 : decode cX4_keysOfDepth 47 = .ok (.iload_n 3, 1) := by decide +kernel
theorem dX4_keysOfDepth_48 : decode cX4_keysOfDepth 48 = .ok (.iconst 1, 1) := by decide +kernel
theorem dX4_keysOfDepth_49 : decode cX4_keysOfDepth 49 = .ok (.iload 4, 2) := by decide +kernel
theorem dX4_keysOfDepth_51 : decode cX4_keysOfDepth 51 = .ok (.ishl, 1) := by decide +kernel
theorem dX4_keysOfDepth_52 : decode cX4_keysOfDepth 52 = .ok (.ior, 1) := by decide +kernel
theorem dX4_keysOfDepth_53 : decode cX4_keysOfDepth 53 = .ok (.istore_n 3, 1) := by decide +kernel
theorem dX4_keysOfDepth_54 : decode cX4_keysOfDepth 54 = .ok (.iinc 4 1, 3) := by decide +kernel
theorem dX4_keysOfDepth_57 : decode cX4_keysOfDepth 57 = .ok (.goto (-52), 3) := by decide +kernel
theorem dX4_keysOfDepth_60 : decode cX4_keysOfDepth 60 = .ok (.iload_n 3, 1) := by decide +kernel
theorem dX4_keysOfDepth_61 : decode cX4_keysOfDepth 61 = .ok (.ireturn, 1) := by decide +kernel
theorem dX4_leastRow_0 : decode cX4_leastRow 0 = .ok (.iconst (-1), 1) := by decide +kernel
theorem dX4_leastRow_1 : decode cX4_leastRow 1 = .ok (.istore 4, 2) := by decide +kernel
theorem dX4_leastRow_3 : decode cX4_leastRow 3 = .ok (.aload_n 0, 1) := by decide +kernel
theorem dX4_leastRow_4 : decode cX4_leastRow 4 = .ok (.getfield 15, 3) := by decide +kernel
theorem dX4_leastRow_7 : decode cX4_leastRow 7 = .ok (.iconst 0, 1) := by decide +kernel
theorem dX4_leastRow_8 : decode cX4_leastRow 8 = .ok (.invokestatic 93, 3) := by decide +kernel
theorem dX4_leastRow_11 : decode cX4_leastRow 11 = .ok (.iconst 0, 1) := by decide +kernel
theorem dX4_leastRow_12 : decode cX4_leastRow 12 = .ok (.istore 5, 2) := by decide +kernel
theorem dX4_leastRow_14 : decode cX4_leastRow 14 = .ok (.iload 5, 2) := by decide +kernel
theorem dX4_leastRow_16 : decode cX4_leastRow 16 = .ok (.sipush 3125, 3) := by decide +kernel
theorem dX4_leastRow_19 : decode cX4_leastRow 19 = .ok (.if_icmp .ge 84, 3) := by decide +kernel
theorem dX4_leastRow_22 : decode cX4_leastRow 22 = .ok (.aload_n 0, 1) := by decide +kernel
theorem dX4_leastRow_23 : decode cX4_leastRow 23 = .ok (.getfield 41, 3) := by decide +kernel
theorem dX4_leastRow_26 : decode cX4_leastRow 26 = .ok (.aload_n 0, 1) := by decide +kernel
theorem dX4_leastRow_27 : decode cX4_leastRow 27 = .ok (.getfield 15, 3) := by decide +kernel
theorem dX4_leastRow_30 : decode cX4_leastRow 30 = .ok (.invokevirtual 99, 3) := by decide +kernel
theorem dX4_leastRow_33 : decode cX4_leastRow 33 = .ok (.istore 6, 2) := by decide +kernel
theorem dX4_leastRow_35 : decode cX4_leastRow 35 = .ok (.iload 4, 2) := by decide +kernel
theorem dX4_leastRow_37 : decode cX4_leastRow 37 = .ok (.iconst (-1), 1) := by decide +kernel
theorem dX4_leastRow_38 : decode cX4_leastRow 38 = .ok (.if_icmp .eq 10, 3) := by decide +kernel
theorem dX4_leastRow_41 : decode cX4_leastRow 41 = .ok (.iload 6, 2) := by decide +kernel
theorem dX4_leastRow_43 : decode cX4_leastRow 43 = .ok (.iload 4, 2) := by decide +kernel
theorem dX4_leastRow_45 : decode cX4_leastRow 45 = .ok (.if_icmp .ge 31, 3) := by decide +kernel
theorem dX4_leastRow_48 : decode cX4_leastRow 48 = .ok (.aload_n 0, 1) := by decide +kernel
theorem dX4_leastRow_49 : decode cX4_leastRow 49 = .ok (.aload_n 1, 1) := by decide +kernel
theorem dX4_leastRow_50 : decode cX4_leastRow 50 = .ok (.iload_n 2, 1) := by decide +kernel
theorem dX4_leastRow_51 : decode cX4_leastRow 51 = .ok (.invokevirtual 103, 3) := by decide +kernel
theorem dX4_leastRow_54 : decode cX4_leastRow 54 = .ok (.iload_n 3, 1) := by decide +kernel
theorem dX4_leastRow_55 : decode cX4_leastRow 55 = .ok (.if_icmp .ne 21, 3) := by decide +kernel
theorem dX4_leastRow_58 : decode cX4_leastRow 58 = .ok (.iload 6, 2) := by decide +kernel
theorem dX4_leastRow_60 : decode cX4_leastRow 60 = .ok (.istore 4, 2) := by decide +kernel
theorem dX4_leastRow_62 : decode cX4_leastRow 62 = .ok (.aload_n 0, 1) := by decide +kernel
theorem dX4_leastRow_63 : decode cX4_leastRow 63 = .ok (.getfield 15, 3) := by decide +kernel
theorem dX4_leastRow_66 : decode cX4_leastRow 66 = .ok (.iconst 0, 1) := by decide +kernel
theorem dX4_leastRow_67 : decode cX4_leastRow 67 = .ok (.aload_n 0, 1) := by decide +kernel
theorem dX4_leastRow_68 : decode cX4_leastRow 68 = .ok (.getfield 18, 3) := by decide +kernel
theorem dX4_leastRow_71 : decode cX4_leastRow 71 = .ok (.iconst 0, 1) := by decide +kernel
theorem dX4_leastRow_72 : decode cX4_leastRow 72 = .ok (.iconst 5, 1) := by decide +kernel
theorem dX4_leastRow_73 : decode cX4_leastRow 73 = .ok (.invokestatic 106, 3) := by decide +kernel
theorem dX4_leastRow_76 : decode cX4_leastRow 76 = .ok (.aload_n 0, 1) := by decide +kernel
theorem dX4_leastRow_77 : decode cX4_leastRow 77 = .ok (.getfield 41, 3) := by decide +kernel
theorem dX4_leastRow_80 : decode cX4_leastRow 80 = .ok (.aload_n 0, 1) := by decide +kernel
theorem dX4_leastRow_81 : decode cX4_leastRow 81 = .ok (.getfield 15, 3) := by decide +kernel
theorem dX4_leastRow_84 : decode cX4_leastRow 84 = .ok (.aload_n 0, 1) := by decide +kernel
theorem dX4_leastRow_85 : decode cX4_leastRow 85 = .ok (.getfield 9, 3) := by decide +kernel
theorem dX4_leastRow_88 : decode cX4_leastRow 88 = .ok (.invokevirtual 112, 3) := by decide +kernel
theorem dX4_leastRow_91 : decode cX4_leastRow 91 = .ok (.ifCond .ne 6, 3) := by decide +kernel
theorem dX4_leastRow_94 : decode cX4_leastRow 94 = .ok (.goto 9, 3) := by decide +kernel
theorem dX4_leastRow_97 : decode cX4_leastRow 97 = .ok (.iinc 5 1, 3) := by decide +kernel
theorem dX4_leastRow_100 : decode cX4_leastRow 100 = .ok (.goto (-86), 3) := by decide +kernel
theorem dX4_leastRow_103 : decode cX4_leastRow 103 = .ok (.iload 4, 2) := by decide +kernel
theorem dX4_leastRow_105 : decode cX4_leastRow 105 = .ok (.ireturn, 1) := by decide +kernel
theorem dX4_fittingRow_0 : decode cX4_fittingRow 0 = .ok (.iload_n 2, 1) := by decide +kernel
theorem dX4_fittingRow_1 : decode cX4_fittingRow 1 = .ok (.istore_n 3, 1) := by decide +kernel
theorem dX4_fittingRow_2 : decode cX4_fittingRow 2 = .ok (.iconst 0, 1) := by decide +kernel
theorem dX4_fittingRow_3 : decode cX4_fittingRow 3 = .ok (.istore 4, 2) := by decide +kernel
theorem dX4_fittingRow_5 : decode cX4_fittingRow 5 = .ok (.iload 4, 2) := by decide +kernel
theorem dX4_fittingRow_7 : decode cX4_fittingRow 7 = .ok (.aload_n 0, 1) := by decide +kernel
theorem dX4_fittingRow_8 : decode cX4_fittingRow 8 = .ok (.getfield 41, 3) := by decide +kernel
theorem dX4_fittingRow_11 : decode cX4_fittingRow 11 = .ok (.getfield 66, 3) := by decide +kernel
theorem dX4_fittingRow_14 : decode cX4_fittingRow 14 = .ok (.if_icmp .ge 30, 3) := by decide +kernel
theorem dX4_fittingRow_17 : decode cX4_fittingRow 17 = .ok (.iload_n 3, 1) := by decide +kernel
theorem dX4_fittingRow_18 : decode cX4_fittingRow 18 = .ok (.aload_n 1, 1) := by decide +kernel
theorem dX4_fittingRow_19 : decode cX4_fittingRow 19 = .ok (.iload 4, 2) := by decide +kernel
theorem dX4_fittingRow_21 : decode cX4_fittingRow 21 = .ok (.iconst 5, 1) := by decide +kernel
theorem dX4_fittingRow_22 : decode cX4_fittingRow 22 = .ok (.imul, 1) := by decide +kernel
theorem dX4_fittingRow_23 : decode cX4_fittingRow 23 = .ok (.aload_n 0, 1) := by decide +kernel
theorem dX4_fittingRow_24 : decode cX4_fittingRow 24 = .ok (.getfield 15, 3) := by decide +kernel
theorem dX4_fittingRow_27 : decode cX4_fittingRow 27 = .ok (.iload 4, 2) := by decide +kernel
theorem dX4_fittingRow_29 : decode cX4_fittingRow 29 = .ok (.invokestatic 45, 3) := by decide +kernel
theorem dX4_fittingRow_32 : decode cX4_fittingRow 32 = .ok (.iadd, 1) := by decide +kernel
theorem dX4_fittingRow_33 : decode cX4_fittingRow 33 = .ok (.invokestatic 45, 3) := by decide +kernel
theorem dX4_fittingRow_36 : decode cX4_fittingRow 36 = .ok (.iand, 1) := by decide +kernel
theorem dX4_fittingRow_37 : decode cX4_fittingRow 37 = .ok (.istore_n 3, 1) := by decide +kernel
theorem dX4_fittingRow_38 : decode cX4_fittingRow 38 = .ok (.iinc 4 1, 3) := by decide +kernel
theorem dX4_fittingRow_41 : decode cX4_fittingRow 41 = .ok (.goto (-36), 3) := by decide +kernel
theorem dX4_fittingRow_44 : decode cX4_fittingRow 44 = .ok (.iload_n 3, 1) := by decide +kernel
theorem dX4_fittingRow_45 : decode cX4_fittingRow 45 = .ok (.ireturn, 1) := by decide +kernel
theorem dX4_rowsFor_0 : decode cX4_rowsFor 0 = .ok (.iconst 0, 1) := by decide +kernel
theorem dX4_rowsFor_1 : decode cX4_rowsFor 1 = .ok (.istore_n 2, 1) := by decide +kernel
theorem dX4_rowsFor_2 : decode cX4_rowsFor 2 = .ok (.aload_n 0, 1) := by decide +kernel
theorem dX4_rowsFor_3 : decode cX4_rowsFor 3 = .ok (.getfield 41, 3) := by decide +kernel
theorem dX4_rowsFor_6 : decode cX4_rowsFor 6 = .ok (.getfield 54, 3) := by decide +kernel
theorem dX4_rowsFor_9 : decode cX4_rowsFor 9 = .ok (.invokestatic 58, 3) := by decide +kernel
theorem dX4_rowsFor_12 : decode cX4_rowsFor 12 = .ok (.istore_n 3, 1) := by decide +kernel
theorem dX4_rowsFor_13 : decode cX4_rowsFor 13 = .ok (.aload_n 0, 1) := by decide +kernel
theorem dX4_rowsFor_14 : decode cX4_rowsFor 14 = .ok (.getfield 15, 3) := by decide +kernel
theorem dX4_rowsFor_17 : decode cX4_rowsFor 17 = .ok (.iconst 0, 1) := by decide +kernel
theorem dX4_rowsFor_18 : decode cX4_rowsFor 18 = .ok (.invokestatic 93, 3) := by decide +kernel
theorem dX4_rowsFor_21 : decode cX4_rowsFor 21 = .ok (.iconst 0, 1) := by decide +kernel
theorem dX4_rowsFor_22 : decode cX4_rowsFor 22 = .ok (.istore 4, 2) := by decide +kernel
theorem dX4_rowsFor_24 : decode cX4_rowsFor 24 = .ok (.iload 4, 2) := by decide +kernel
theorem dX4_rowsFor_26 : decode cX4_rowsFor 26 = .ok (.sipush 3125, 3) := by decide +kernel
theorem dX4_rowsFor_29 : decode cX4_rowsFor 29 = .ok (.if_icmp .ge 49, 3) := by decide +kernel
theorem dX4_rowsFor_32 : decode cX4_rowsFor 32 = .ok (.aload_n 0, 1) := by decide +kernel
theorem dX4_rowsFor_33 : decode cX4_rowsFor 33 = .ok (.aload_n 0, 1) := by decide +kernel
theorem dX4_rowsFor_34 : decode cX4_rowsFor 34 = .ok (.getfield 41, 3) := by decide +kernel
theorem dX4_rowsFor_37 : decode cX4_rowsFor 37 = .ok (.getfield 49, 3) := by decide +kernel
theorem dX4_rowsFor_40 : decode cX4_rowsFor 40 = .ok (.iload_n 3, 1) := by decide +kernel
theorem dX4_rowsFor_41 : decode cX4_rowsFor 41 = .ok (.invokevirtual 103, 3) := by decide +kernel
theorem dX4_rowsFor_44 : decode cX4_rowsFor 44 = .ok (.iload_n 1, 1) := by decide +kernel
theorem dX4_rowsFor_45 : decode cX4_rowsFor 45 = .ok (.if_icmp .ne 6, 3) := by decide +kernel
theorem dX4_rowsFor_48 : decode cX4_rowsFor 48 = .ok (.iinc 2 1, 3) := by decide +kernel
theorem dX4_rowsFor_51 : decode cX4_rowsFor 51 = .ok (.aload_n 0, 1) := by decide +kernel
theorem dX4_rowsFor_52 : decode cX4_rowsFor 52 = .ok (.getfield 41, 3) := by decide +kernel
theorem dX4_rowsFor_55 : decode cX4_rowsFor 55 = .ok (.aload_n 0, 1) := by decide +kernel
theorem dX4_rowsFor_56 : decode cX4_rowsFor 56 = .ok (.getfield 15, 3) := by decide +kernel
theorem dX4_rowsFor_59 : decode cX4_rowsFor 59 = .ok (.aload_n 0, 1) := by decide +kernel
theorem dX4_rowsFor_60 : decode cX4_rowsFor 60 = .ok (.getfield 9, 3) := by decide +kernel
theorem dX4_rowsFor_63 : decode cX4_rowsFor 63 = .ok (.invokevirtual 112, 3) := by decide +kernel
theorem dX4_rowsFor_66 : decode cX4_rowsFor 66 = .ok (.ifCond .ne 6, 3) := by decide +kernel
theorem dX4_rowsFor_69 : decode cX4_rowsFor 69 = .ok (.goto 9, 3) := by decide +kernel
theorem dX4_rowsFor_72 : decode cX4_rowsFor 72 = .ok (.iinc 4 1, 3) := by decide +kernel
theorem dX4_rowsFor_75 : decode cX4_rowsFor 75 = .ok (.goto (-51), 3) := by decide +kernel
theorem dX4_rowsFor_78 : decode cX4_rowsFor 78 = .ok (.iload_n 2, 1) := by decide +kernel
theorem dX4_rowsFor_79 : decode cX4_rowsFor 79 = .ok (.ireturn, 1) := by decide +kernel
theorem dX4_coinsToOpen_0 : decode cX4_coinsToOpen 0 = .ok (.aload_n 0, 1) := by decide +kernel
theorem dX4_coinsToOpen_1 : decode cX4_coinsToOpen 1 = .ok (.getfield 41, 3) := by decide +kernel
theorem dX4_coinsToOpen_4 : decode cX4_coinsToOpen 4 = .ok (.iload_n 1, 1) := by decide +kernel
theorem dX4_coinsToOpen_5 : decode cX4_coinsToOpen 5 = .ok (.invokevirtual 80, 3) := by decide +kernel
theorem dX4_coinsToOpen_8 : decode cX4_coinsToOpen 8 = .ok (.astore_n 3, 1) := by decide +kernel
theorem dX4_coinsToOpen_9 : decode cX4_coinsToOpen 9 = .ok (.aload_n 0, 1) := by decide +kernel
theorem dX4_coinsToOpen_10 : decode cX4_coinsToOpen 10 = .ok (.getfield 41, 3) := by decide +kernel
theorem dX4_coinsToOpen_13 : decode cX4_coinsToOpen 13 = .ok (.iload_n 1, 1) := by decide +kernel
theorem dX4_coinsToOpen_14 : decode cX4_coinsToOpen 14 = .ok (.invokevirtual 116, 3) := by decide +kernel
theorem dX4_coinsToOpen_17 : decode cX4_coinsToOpen 17 = .ok (.iload_n 2, 1) := by decide +kernel
theorem dX4_coinsToOpen_18 : decode cX4_coinsToOpen 18 = .ok (.invokestatic 119, 3) := by decide +kernel
theorem dX4_coinsToOpen_21 : decode cX4_coinsToOpen 21 = .ok (.ifCond .eq 5, 3) := by decide +kernel
theorem dX4_coinsToOpen_24 : decode cX4_coinsToOpen 24 = .ok (.iconst 0, 1) := by decide +kernel
theorem dX4_coinsToOpen_25 : decode cX4_coinsToOpen 25 = .ok (.ireturn, 1) := by decide +kernel
theorem dX4_coinsToOpen_26 : decode cX4_coinsToOpen 26 = .ok (.aload_n 3, 1) := by decide +kernel
theorem dX4_coinsToOpen_27 : decode cX4_coinsToOpen 27 = .ok (.getfield 123, 3) := by decide +kernel
theorem dX4_coinsToOpen_30 : decode cX4_coinsToOpen 30 = .ok (.iconst 4, 1) := by decide +kernel
theorem dX4_coinsToOpen_31 : decode cX4_coinsToOpen 31 = .ok (.if_icmp .ne 5, 3) := by decide +kernel
theorem dX4_coinsToOpen_34 : decode cX4_coinsToOpen 34 = .ok (.iconst (-1), 1) := by decide +kernel
theorem dX4_coinsToOpen_35 : decode cX4_coinsToOpen 35 = .ok (.ireturn, 1) := by decide +kernel
theorem dX4_coinsToOpen_36 : decode cX4_coinsToOpen 36 = .ok (.aload_n 0, 1) := by decide +kernel
theorem dX4_coinsToOpen_37 : decode cX4_coinsToOpen 37 = .ok (.getfield 41, 3) := by decide +kernel
theorem dX4_coinsToOpen_40 : decode cX4_coinsToOpen 40 = .ok (.aload_n 3, 1) := by decide +kernel
theorem dX4_coinsToOpen_41 : decode cX4_coinsToOpen 41 = .ok (.invokevirtual 126, 3) := by decide +kernel
theorem dX4_coinsToOpen_44 : decode cX4_coinsToOpen 44 = .ok (.istore 4, 2) := by decide +kernel
theorem dX4_coinsToOpen_46 : decode cX4_coinsToOpen 46 = .ok (.iconst 0, 1) := by decide +kernel
theorem dX4_coinsToOpen_47 : decode cX4_coinsToOpen 47 = .ok (.istore 5, 2) := by decide +kernel
theorem dX4_coinsToOpen_49 : decode cX4_coinsToOpen 49 = .ok (.iload 5, 2) := by decide +kernel
theorem dX4_coinsToOpen_51 : decode cX4_coinsToOpen 51 = .ok (.aload_n 0, 1) := by decide +kernel
theorem dX4_coinsToOpen_52 : decode cX4_coinsToOpen 52 = .ok (.getfield 41, 3) := by decide +kernel
theorem dX4_coinsToOpen_55 : decode cX4_coinsToOpen 55 = .ok (.getfield 66, 3) := by decide +kernel
theorem dX4_coinsToOpen_58 : decode cX4_coinsToOpen 58 = .ok (.if_icmp .ge 58, 3) := by decide +kernel
theorem dX4_coinsToOpen_61 : decode cX4_coinsToOpen 61 = .ok (.aload_n 0, 1) := by decide +kernel
theorem dX4_coinsToOpen_62 : decode cX4_coinsToOpen 62 = .ok (.getfield 41, 3) := by decide +kernel
theorem dX4_coinsToOpen_65 : decode cX4_coinsToOpen 65 = .ok (.iload_n 2, 1) := by decide +kernel
theorem dX4_coinsToOpen_66 : decode cX4_coinsToOpen 66 = .ok (.iload 5, 2) := by decide +kernel
theorem dX4_coinsToOpen_68 : decode cX4_coinsToOpen 68 = .ok (.invokevirtual 130, 3) := by decide +kernel
theorem dX4_coinsToOpen_71 : decode cX4_coinsToOpen 71 = .ok (.istore 6, 2) := by decide +kernel
theorem dX4_coinsToOpen_73 : decode cX4_coinsToOpen 73 = .ok (.aload_n 0, 1) := by decide +kernel
theorem dX4_coinsToOpen_74 : decode cX4_coinsToOpen 74 = .ok (.getfield 15, 3) := by decide +kernel
theorem dX4_coinsToOpen_77 : decode cX4_coinsToOpen 77 = .ok (.iload 5, 2) := by decide +kernel
theorem dX4_coinsToOpen_79 : decode cX4_coinsToOpen 79 = .ok (.aload_n 3, 1) := by decide +kernel
theorem dX4_coinsToOpen_80 : decode cX4_coinsToOpen 80 = .ok (.getfield 84, 3) := by decide +kernel
theorem dX4_coinsToOpen_83 : decode cX4_coinsToOpen 83 = .ok (.iload 5, 2) := by decide +kernel
theorem dX4_coinsToOpen_85 : decode cX4_coinsToOpen 85 = .ok (.invokestatic 45, 3) := by decide +kernel
theorem dX4_coinsToOpen_88 : decode cX4_coinsToOpen 88 = .ok (.iload 5, 2) := by decide +kernel
theorem dX4_coinsToOpen_90 : decode cX4_coinsToOpen 90 = .ok (.iload 4, 2) := by decide +kernel
theorem dX4_coinsToOpen_92 : decode cX4_coinsToOpen 92 = .ok (.if_icmp .ne 10, 3) := by decide +kernel
theorem dX4_coinsToOpen_95 : decode cX4_coinsToOpen 95 = .ok (.iload 6, 2) := by decide +kernel
theorem dX4_coinsToOpen_97 : decode cX4_coinsToOpen 97 = .ok (.iconst 1, 1) := by decide +kernel
theorem dX4_coinsToOpen_98 : decode cX4_coinsToOpen 98 = .ok (.isub, 1) := by decide +kernel
theorem dX4_coinsToOpen_99 : decode cX4_coinsToOpen 99 = .ok (.goto 5, 3) := by decide +kernel
theorem dX4_coinsToOpen_102 : decode cX4_coinsToOpen 102 = .ok (.iload 6, 2) := by decide +kernel
theorem dX4_coinsToOpen_104 : decode cX4_coinsToOpen 104 = .ok (.invokestatic 133, 3) := by decide +kernel
theorem dX4_coinsToOpen_107 : decode cX4_coinsToOpen 107 = .ok (.invokestatic 73, 3) := by decide +kernel
theorem dX4_coinsToOpen_110 : decode cX4_coinsToOpen 110 = .ok (.iinc 5 1, 3) := by decide +kernel
theorem dX4_coinsToOpen_113 : decode cX4_coinsToOpen 113 = .ok (.goto (-64), 3) := by decide +kernel
theorem dX4_coinsToOpen_116 : decode cX4_coinsToOpen 116 = .ok (.aload_n 0, 1) := by decide +kernel
theorem dX4_coinsToOpen_117 : decode cX4_coinsToOpen 117 = .ok (.getfield 41, 3) := by decide +kernel
theorem dX4_coinsToOpen_120 : decode cX4_coinsToOpen 120 = .ok (.aload_n 3, 1) := by decide +kernel
theorem dX4_coinsToOpen_121 : decode cX4_coinsToOpen 121 = .ok (.aload_n 0, 1) := by decide +kernel
theorem dX4_coinsToOpen_122 : decode cX4_coinsToOpen 122 = .ok (.getfield 15, 3) := by decide +kernel
theorem dX4_coinsToOpen_125 : decode cX4_coinsToOpen 125 = .ok (.invokevirtual 138, 3) := by decide +kernel
theorem dX4_coinsToOpen_128 : decode cX4_coinsToOpen 128 = .ok (.iload_n 2, 1) := by decide +kernel
theorem dX4_coinsToOpen_129 : decode cX4_coinsToOpen 129 = .ok (.invokestatic 119, 3) := by decide +kernel
theorem dX4_coinsToOpen_132 : decode cX4_coinsToOpen 132 = .ok (.ifCond .eq 18, 3) := by decide +kernel
theorem dX4_coinsToOpen_135 : decode cX4_coinsToOpen 135 = .ok (.aload_n 0, 1) := by decide +kernel
theorem dX4_coinsToOpen_136 : decode cX4_coinsToOpen 136 = .ok (.getfield 41, 3) := by decide +kernel
theorem dX4_coinsToOpen_139 : decode cX4_coinsToOpen 139 = .ok (.aload_n 3, 1) := by decide +kernel
theorem dX4_coinsToOpen_140 : decode cX4_coinsToOpen 140 = .ok (.aload_n 0, 1) := by decide +kernel
theorem dX4_coinsToOpen_141 : decode cX4_coinsToOpen 141 = .ok (.getfield 15, 3) := by decide +kernel
theorem dX4_coinsToOpen_144 : decode cX4_coinsToOpen 144 = .ok (.invokevirtual 142, 3) := by decide +kernel
theorem dX4_coinsToOpen_147 : decode cX4_coinsToOpen 147 = .ok (.goto 4, 3) := by decide +kernel
theorem dX4_coinsToOpen_150 : decode cX4_coinsToOpen 150 = .ok (.iconst (-1), 1) := by decide +kernel
theorem dX4_coinsToOpen_151 : decode cX4_coinsToOpen 151 = .ok (.ireturn, 1) := by decide +kernel
theorem dX4_safeFrom_0 : decode cX4_safeFrom 0 = .ok (.iconst 0, 1) := by decide +kernel
theorem dX4_safeFrom_1 : decode cX4_safeFrom 1 = .ok (.istore_n 2, 1) := by decide +kernel
theorem dX4_safeFrom_2 : decode cX4_safeFrom 2 = .ok (.iconst 0, 1) := by decide +kernel
theorem dX4_safeFrom_3 : decode cX4_safeFrom 3 = .ok (.istore_n 3, 1) := by decide +kernel
theorem dX4_safeFrom_4 : decode cX4_safeFrom 4 = .ok (.iload_n 3, 1) := by decide +kernel
theorem dX4_safeFrom_5 : decode cX4_safeFrom 5 = .ok (.aload_n 0, 1) := by decide +kernel
theorem dX4_safeFrom_6 : decode cX4_safeFrom 6 = .ok (.getfield 41, 3) := by decide +kernel
theorem dX4_safeFrom_9 : decode cX4_safeFrom 9 = .ok (.getfield 77, 3) := by decide +kernel
theorem dX4_safeFrom_12 : decode cX4_safeFrom 12 = .ok (.if_icmp .ge 25, 3) := by decide +kernel
theorem dX4_safeFrom_15 : decode cX4_safeFrom 15 = .ok (.aload_n 0, 1) := by decide +kernel
theorem dX4_safeFrom_16 : decode cX4_safeFrom 16 = .ok (.iload_n 3, 1) := by decide +kernel
theorem dX4_safeFrom_17 : decode cX4_safeFrom 17 = .ok (.iload_n 1, 1) := by decide +kernel
theorem dX4_safeFrom_18 : decode cX4_safeFrom 18 = .ok (.invokevirtual 145, 3) := by decide +kernel
theorem dX4_safeFrom_21 : decode cX4_safeFrom 21 = .ok (.iconst (-1), 1) := by decide +kernel
theorem dX4_safeFrom_22 : decode cX4_safeFrom 22 = .ok (.if_icmp .ne 9, 3) := by decide +kernel
theorem dX4_safeFrom_25 : decode cX4_safeFrom 25 = .ok (.iload_n 2, 1) := by decide +kernel
theorem dX4_safeFrom_26 : decode cX4_safeFrom 26 = .ok (.iconst 1, 1) := by decide +kernel
theorem dX4_safeFrom_27 : decode cX4_safeFrom 27 = .ok (.iload_n 3, 1) := by decide +kernel
theorem dX4_safeFrom_28 : decode cX4_safeFrom 28 = .ok (.ishl, 1) := by decide +kernel
theorem dX4_safeFrom_29 : decode cX4_safeFrom 29 = .ok (.ior, 1) := by decide +kernel
theorem dX4_safeFrom_30 : decode cX4_safeFrom 30 = .ok (.istore_n 2, 1) := by decide +kernel
theorem dX4_safeFrom_31 : decode cX4_safeFrom 31 = .ok (.iinc 3 1, 3) := by decide +kernel
theorem dX4_safeFrom_34 : decode cX4_safeFrom 34 = .ok (.goto (-30), 3) := by decide +kernel
theorem dX4_safeFrom_37 : decode cX4_safeFrom 37 = .ok (.iload_n 2, 1) := by decide +kernel
theorem dX4_safeFrom_38 : decode cX4_safeFrom 38 = .ok (.ireturn, 1) := by decide +kernel
theorem dX4_planMending_0 : decode cX4_planMending 0 = .ok (.iconst 0, 1) := by decide +kernel
theorem dX4_planMending_1 : decode cX4_planMending 1 = .ok (.istore_n 1, 1) := by decide +kernel
theorem dX4_planMending_2 : decode cX4_planMending 2 = .ok (.iload_n 1, 1) := by decide +kernel
theorem dX4_planMending_3 : decode cX4_planMending 3 = .ok (.aload_n 0, 1) := by decide +kernel
theorem dX4_planMending_4 : decode cX4_planMending 4 = .ok (.getfield 41, 3) := by decide +kernel
theorem dX4_planMending_7 : decode cX4_planMending 7 = .ok (.getfield 77, 3) := by decide +kernel
theorem dX4_planMending_10 : decode cX4_planMending 10 = .ok (.if_icmp .ge 22, 3) := by decide +kernel
theorem dX4_planMending_13 : decode cX4_planMending 13 = .ok (.aload_n 0, 1) := by decide +kernel
theorem dX4_planMending_14 : decode cX4_planMending 14 = .ok (.getfield 24, 3) := by decide +kernel
theorem dX4_planMending_17 : decode cX4_planMending 17 = .ok (.iload_n 1, 1) := by decide +kernel
theorem dX4_planMending_18 : decode cX4_planMending 18 = .ok (.aload_n 0, 1) := by decide +kernel
theorem dX4_planMending_19 : decode cX4_planMending 19 = .ok (.iload_n 1, 1) := by decide +kernel
theorem dX4_planMending_20 : decode cX4_planMending 20 = .ok (.invokevirtual 148, 3) := by decide +kernel
theorem dX4_planMending_23 : decode cX4_planMending 23 = .ok (.invokestatic 73, 3) := by decide +kernel
theorem dX4_planMending_26 : decode cX4_planMending 26 = .ok (.iinc 1 1, 3) := by decide +kernel
theorem dX4_planMending_29 : decode cX4_planMending 29 = .ok (.goto (-27), 3) := by decide +kernel
theorem dX4_planMending_32 : decode cX4_planMending 32 = .ok (.return_, 1) := by decide +kernel
theorem dX4_planMendingOf_0 : decode cX4_planMendingOf 0 = .ok (.aload_n 0, 1) := by decide +kernel
theorem dX4_planMendingOf_1 : decode cX4_planMendingOf 1 = .ok (.getfield 41, 3) := by decide +kernel
theorem dX4_planMendingOf_4 : decode cX4_planMendingOf 4 = .ok (.iload_n 1, 1) := by decide +kernel
theorem dX4_planMendingOf_5 : decode cX4_planMendingOf 5 = .ok (.invokevirtual 80, 3) := by decide +kernel
theorem dX4_planMendingOf_8 : decode cX4_planMendingOf 8 = .ok (.astore_n 2, 1) := by decide +kernel
theorem dX4_planMendingOf_9 : decode cX4_planMendingOf 9 = .ok (.aload_n 0, 1) := by decide +kernel
theorem dX4_planMendingOf_10 : decode cX4_planMendingOf 10 = .ok (.getfield 41, 3) := by decide +kernel
theorem dX4_planMendingOf_13 : decode cX4_planMendingOf 13 = .ok (.aload_n 2, 1) := by decide +kernel
theorem dX4_planMendingOf_14 : decode cX4_planMendingOf 14 = .ok (.invokevirtual 151, 3) := by decide +kernel
theorem dX4_planMendingOf_17 : decode cX4_planMendingOf 17 = .ok (.istore_n 3, 1) := by decide +kernel
theorem dX4_planMendingOf_18 : decode cX4_planMendingOf 18 = .ok (.iconst (-1), 1) := by decide +kernel
theorem dX4_planMendingOf_19 : decode cX4_planMendingOf 19 = .ok (.istore 4, 2) := by decide +kernel
theorem dX4_planMendingOf_21 : decode cX4_planMendingOf 21 = .ok (.aload_n 2, 1) := by decide +kernel
theorem dX4_planMendingOf_22 : decode cX4_planMendingOf 22 = .ok (.getfield 84, 3) := by decide +kernel
theorem dX4_planMendingOf_25 : decode cX4_planMendingOf 25 = .ok (.iconst 0, 1) := by decide +kernel
theorem dX4_planMendingOf_26 : decode cX4_planMendingOf 26 = .ok (.aload_n 0, 1) := by decide +kernel
theorem dX4_planMendingOf_27 : decode cX4_planMendingOf 27 = .ok (.getfield 15, 3) := by decide +kernel
theorem dX4_planMendingOf_30 : decode cX4_planMendingOf 30 = .ok (.iconst 0, 1) := by decide +kernel
theorem dX4_planMendingOf_31 : decode cX4_planMendingOf 31 = .ok (.iconst 5, 1) := by decide +kernel
theorem dX4_planMendingOf_32 : decode cX4_planMendingOf 32 = .ok (.invokestatic 106, 3) := by decide +kernel
theorem dX4_planMendingOf_35 : decode cX4_planMendingOf 35 = .ok (.iconst 0, 1) := by decide +kernel
theorem dX4_planMendingOf_36 : decode cX4_planMendingOf 36 = .ok (.istore 5, 2) := by decide +kernel
theorem dX4_planMendingOf_38 : decode cX4_planMendingOf 38 = .ok (.iload 5, 2) := by decide +kernel
theorem dX4_planMendingOf_40 : decode cX4_planMendingOf 40 = .ok (.sipush 3125, 3) := by decide +kernel
theorem dX4_planMendingOf_43 : decode cX4_planMendingOf 43 = .ok (.if_icmp .ge 104, 3) := by decide +kernel
theorem dX4_planMendingOf_46 : decode cX4_planMendingOf 46 = .ok (.aload_n 0, 1) := by decide +kernel
theorem dX4_planMendingOf_47 : decode cX4_planMendingOf 47 = .ok (.getfield 41, 3) := by decide +kernel
theorem dX4_planMendingOf_50 : decode cX4_planMendingOf 50 = .ok (.aload_n 2, 1) := by decide +kernel
theorem dX4_planMendingOf_51 : decode cX4_planMendingOf 51 = .ok (.aload_n 0, 1) := by decide +kernel
theorem dX4_planMendingOf_52 : decode cX4_planMendingOf 52 = .ok (.getfield 15, 3) := by decide +kernel
theorem dX4_planMendingOf_55 : decode cX4_planMendingOf 55 = .ok (.iload_n 3, 1) := by decide +kernel
theorem dX4_planMendingOf_56 : decode cX4_planMendingOf 56 = .ok (.invokevirtual 154, 3) := by decide +kernel
theorem dX4_planMendingOf_59 : decode cX4_planMendingOf 59 = .ok (.aload_n 2, 1) := by decide +kernel
theorem dX4_planMendingOf_60 : decode cX4_planMendingOf 60 = .ok (.getfield 157, 3) := by decide +kernel
theorem dX4_planMendingOf_63 : decode cX4_planMendingOf 63 = .ok (.if_icmp .ne 49, 3) := by decide +kernel
theorem dX4_planMendingOf_66 : decode cX4_planMendingOf 66 = .ok (.aload_n 0, 1) := by decide +kernel
theorem dX4_planMendingOf_67 : decode cX4_planMendingOf 67 = .ok (.getfield 41, 3) := by decide +kernel
theorem dX4_planMendingOf_70 : decode cX4_planMendingOf 70 = .ok (.aload_n 2, 1) := by decide +kernel
theorem dX4_planMendingOf_71 : decode cX4_planMendingOf 71 = .ok (.aload_n 0, 1) := by decide +kernel
theorem dX4_planMendingOf_72 : decode cX4_planMendingOf 72 = .ok (.getfield 15, 3) := by decide +kernel
theorem dX4_planMendingOf_75 : decode cX4_planMendingOf 75 = .ok (.invokevirtual 142, 3) := by decide +kernel
theorem dX4_planMendingOf_78 : decode cX4_planMendingOf 78 = .ok (.istore 6, 2) := by decide +kernel
theorem dX4_planMendingOf_80 : decode cX4_planMendingOf 80 = .ok (.iload 4, 2) := by decide +kernel
theorem dX4_planMendingOf_82 : decode cX4_planMendingOf 82 = .ok (.iconst (-1), 1) := by decide +kernel
theorem dX4_planMendingOf_83 : decode cX4_planMendingOf 83 = .ok (.if_icmp .eq 10, 3) := by decide +kernel
theorem dX4_planMendingOf_86 : decode cX4_planMendingOf 86 = .ok (.iload 6, 2) := by decide +kernel
theorem dX4_planMendingOf_88 : decode cX4_planMendingOf 88 = .ok (.iload 4, 2) := by decide +kernel
theorem dX4_planMendingOf_90 : decode cX4_planMendingOf 90 = .ok (.if_icmp .ge 22, 3) := by decide +kernel
theorem dX4_planMendingOf_93 : decode cX4_planMendingOf 93 = .ok (.iload 6, 2) := by decide +kernel
theorem dX4_planMendingOf_95 : decode cX4_planMendingOf 95 = .ok (.istore 4, 2) := by decide +kernel
theorem dX4_planMendingOf_97 : decode cX4_planMendingOf 97 = .ok (.aload_n 0, 1) := by decide +kernel
theorem dX4_planMendingOf_98 : decode cX4_planMendingOf 98 = .ok (.getfield 15, 3) := by decide +kernel
theorem dX4_planMendingOf_101 : decode cX4_planMendingOf 101 = .ok (.iconst 0, 1) := by decide +kernel
theorem dX4_planMendingOf_102 : decode cX4_planMendingOf 102 = .ok (.aload_n 0, 1) := by decide +kernel
theorem dX4_planMendingOf_103 : decode cX4_planMendingOf 103 = .ok (.iload_n 1, 1) := by decide +kernel
theorem dX4_planMendingOf_104 : decode cX4_planMendingOf 104 = .ok (.invokevirtual 160, 3) := by decide +kernel
theorem dX4_planMendingOf_107 : decode cX4_planMendingOf 107 = .ok (.iconst 0, 1) := by decide +kernel
theorem dX4_planMendingOf_108 : decode cX4_planMendingOf 108 = .ok (.iconst 5, 1) := by decide +kernel
theorem dX4_planMendingOf_109 : decode cX4_planMendingOf 109 = .ok (.invokestatic 106, 3) := by decide +kernel
theorem dX4_planMendingOf_112 : decode cX4_planMendingOf 112 = .ok (.aload_n 2, 1) := by decide +kernel
theorem dX4_planMendingOf_113 : decode cX4_planMendingOf 113 = .ok (.getfield 123, 3) := by decide +kernel
theorem dX4_planMendingOf_116 : decode cX4_planMendingOf 116 = .ok (.iconst 4, 1) := by decide +kernel
theorem dX4_planMendingOf_117 : decode cX4_planMendingOf 117 = .ok (.if_icmp .eq 30, 3) := by decide +kernel
theorem dX4_planMendingOf_120 : decode cX4_planMendingOf 120 = .ok (.aload_n 0, 1) := by decide +kernel
theorem dX4_planMendingOf_121 : decode cX4_planMendingOf 121 = .ok (.getfield 41, 3) := by decide +kernel
theorem dX4_planMendingOf_124 : decode cX4_planMendingOf 124 = .ok (.aload_n 0, 1) := by decide +kernel
theorem dX4_planMendingOf_125 : decode cX4_planMendingOf 125 = .ok (.getfield 15, 3) := by decide +kernel
theorem dX4_planMendingOf_128 : decode cX4_planMendingOf 128 = .ok (.aload_n 2, 1) := by decide +kernel
theorem dX4_planMendingOf_129 : decode cX4_planMendingOf 129 = .ok (.getfield 84, 3) := by decide +kernel
theorem dX4_planMendingOf_132 : decode cX4_planMendingOf 132 = .ok (.invokevirtual 112, 3) := by decide +kernel
theorem dX4_planMendingOf_135 : decode cX4_planMendingOf 135 = .ok (.ifCond .ne 6, 3) := by decide +kernel
theorem dX4_planMendingOf_138 : decode cX4_planMendingOf 138 = .ok (.goto 9, 3) := by decide +kernel
theorem dX4_planMendingOf_141 : decode cX4_planMendingOf 141 = .ok (.iinc 5 1, 3) := by decide +kernel
theorem dX4_planMendingOf_144 : decode cX4_planMendingOf 144 = .ok (.goto (-106), 3) := by decide +kernel
theorem dX4_planMendingOf_147 : decode cX4_planMendingOf 147 = .ok (.iload 4, 2) := by decide +kernel
theorem dX4_planMendingOf_149 : decode cX4_planMendingOf 149 = .ok (.ireturn, 1) := by decide +kernel
theorem dX4_mendedAt_0 : decode cX4_mendedAt 0 = .ok (.iload_n 1, 1) := by decide +kernel
theorem dX4_mendedAt_1 : decode cX4_mendedAt 1 = .ok (.ifCond .lt 21, 3) := by decide +kernel
theorem dX4_mendedAt_4 : decode cX4_mendedAt 4 = .ok (.iload_n 1, 1) := by decide +kernel
theorem dX4_mendedAt_5 : decode cX4_mendedAt 5 = .ok (.aload_n 0, 1) := by decide +kernel
theorem dX4_mendedAt_6 : decode cX4_mendedAt 6 = .ok (.getfield 29, 3) := by decide +kernel
theorem dX4_mendedAt_9 : decode cX4_mendedAt 9 = .ok (.arraylength, 1) := by decide +kernel
theorem dX4_mendedAt_10 : decode cX4_mendedAt 10 = .ok (.if_icmp .ge 12, 3) := by decide +kernel
theorem dX4_mendedAt_13 : decode cX4_mendedAt 13 = .ok (.aload_n 0, 1) := by decide +kernel
theorem dX4_mendedAt_14 : decode cX4_mendedAt 14 = .ok (.getfield 29, 3) := by decide +kernel
theorem dX4_mendedAt_17 : decode cX4_mendedAt 17 = .ok (.iload_n 1, 1) := by decide +kernel
theorem dX4_mendedAt_18 : decode cX4_mendedAt 18 = .ok (.aaload, 1) := by decide +kernel
theorem dX4_mendedAt_19 : decode cX4_mendedAt 19 = .ok (.goto 7, 3) := by decide +kernel
theorem dX4_mendedAt_22 : decode cX4_mendedAt 22 = .ok (.aload_n 0, 1) := by decide +kernel
theorem dX4_mendedAt_23 : decode cX4_mendedAt 23 = .ok (.getfield 18, 3) := by decide +kernel
theorem dX4_mendedAt_26 : decode cX4_mendedAt 26 = .ok (.areturn, 1) := by decide +kernel
theorem dX4_mendingCoins_0 : decode cX4_mendingCoins 0 = .ok (.iconst 0, 1) := by decide +kernel
theorem dX4_mendingCoins_1 : decode cX4_mendingCoins 1 = .ok (.istore_n 1, 1) := by decide +kernel
theorem dX4_mendingCoins_2 : decode cX4_mendingCoins 2 = .ok (.iconst 0, 1) := by decide +kernel
theorem dX4_mendingCoins_3 : decode cX4_mendingCoins 3 = .ok (.istore_n 2, 1) := by decide +kernel
theorem dX4_mendingCoins_4 : decode cX4_mendingCoins 4 = .ok (.iload_n 2, 1) := by decide +kernel
theorem dX4_mendingCoins_5 : decode cX4_mendingCoins 5 = .ok (.aload_n 0, 1) := by decide +kernel
theorem dX4_mendingCoins_6 : decode cX4_mendingCoins 6 = .ok (.getfield 41, 3) := by decide +kernel
theorem dX4_mendingCoins_9 : decode cX4_mendingCoins 9 = .ok (.getfield 77, 3) := by decide +kernel
theorem dX4_mendingCoins_12 : decode cX4_mendingCoins 12 = .ok (.if_icmp .ge 24, 3) := by decide +kernel
theorem dX4_mendingCoins_15 : decode cX4_mendingCoins 15 = .ok (.iload_n 1, 1) := by decide +kernel
theorem dX4_mendingCoins_16 : decode cX4_mendingCoins 16 = .ok (.iconst 0, 1) := by decide +kernel
theorem dX4_mendingCoins_17 : decode cX4_mendingCoins 17 = .ok (.aload_n 0, 1) := by decide +kernel
theorem dX4_mendingCoins_18 : decode cX4_mendingCoins 18 = .ok (.getfield 24, 3) := by decide +kernel
theorem dX4_mendingCoins_21 : decode cX4_mendingCoins 21 = .ok (.iload_n 2, 1) := by decide +kernel
theorem dX4_mendingCoins_22 : decode cX4_mendingCoins 22 = .ok (.invokestatic 45, 3) := by decide +kernel
theorem dX4_mendingCoins_25 : decode cX4_mendingCoins 25 = .ok (.invokestatic 133, 3) := by decide +kernel
theorem dX4_mendingCoins_28 : decode cX4_mendingCoins 28 = .ok (.iadd, 1) := by decide +kernel
theorem dX4_mendingCoins_29 : decode cX4_mendingCoins 29 = .ok (.istore_n 1, 1) := by decide +kernel
theorem dX4_mendingCoins_30 : decode cX4_mendingCoins 30 = .ok (.iinc 2 1, 3) := by decide +kernel
theorem dX4_mendingCoins_33 : decode cX4_mendingCoins 33 = .ok (.goto (-29), 3) := by decide +kernel
theorem dX4_mendingCoins_36 : decode cX4_mendingCoins 36 = .ok (.iload_n 1, 1) := by decide +kernel
theorem dX4_mendingCoins_37 : decode cX4_mendingCoins 37 = .ok (.ireturn, 1) := by decide +kernel
theorem dX4_pastMending_0 : decode cX4_pastMending 0 = .ok (.iconst 0, 1) := by decide +kernel
theorem dX4_pastMending_1 : decode cX4_pastMending 1 = .ok (.istore_n 1, 1) := by decide +kernel
theorem dX4_pastMending_2 : decode cX4_pastMending 2 = .ok (.iconst 0, 1) := by decide +kernel
theorem dX4_pastMending_3 : decode cX4_pastMending 3 = .ok (.istore_n 2, 1) := by decide +kernel
theorem dX4_pastMending_4 : decode cX4_pastMending 4 = .ok (.iload_n 2, 1) := by decide +kernel
theorem dX4_pastMending_5 : decode cX4_pastMending 5 = .ok (.aload_n 0, 1) := by decide +kernel
theorem dX4_pastMending_6 : decode cX4_pastMending 6 = .ok (.getfield 41, 3) := by decide +kernel
theorem dX4_pastMending_9 : decode cX4_pastMending 9 = .ok (.getfield 77, 3) := by decide +kernel
theorem dX4_pastMending_12 : decode cX4_pastMending 12 = .ok (.if_icmp .ge 27, 3) := by decide +kernel
theorem dX4_pastMending_15 : decode cX4_pastMending 15 = .ok (.aload_n 0, 1) := by decide +kernel
theorem dX4_pastMending_16 : decode cX4_pastMending 16 = .ok (.getfield 24, 3) := by decide +kernel
theorem dX4_pastMending_19 : decode cX4_pastMending 19 = .ok (.iload_n 2, 1) := by decide +kernel
theorem dX4_pastMending_20 : decode cX4_pastMending 20 = .ok (.invokestatic 45, 3) := by decide +kernel
theorem dX4_pastMending_23 : decode cX4_pastMending 23 = .ok (.iconst (-1), 1) := by decide +kernel
theorem dX4_pastMending_24 : decode cX4_pastMending 24 = .ok (.if_icmp .ne 9, 3) := by decide +kernel
theorem dX4_pastMending_27 : decode cX4_pastMending 27 = .ok (.iload_n 1, 1) := by decide +kernel
theorem dX4_pastMending_28 : decode cX4_pastMending 28 = .ok (.iconst 1, 1) := by decide +kernel
theorem dX4_pastMending_29 : decode cX4_pastMending 29 = .ok (.iload_n 2, 1) := by decide +kernel
theorem dX4_pastMending_30 : decode cX4_pastMending 30 = .ok (.ishl, 1) := by decide +kernel
theorem dX4_pastMending_31 : decode cX4_pastMending 31 = .ok (.ior, 1) := by decide +kernel
theorem dX4_pastMending_32 : decode cX4_pastMending 32 = .ok (.istore_n 1, 1) := by decide +kernel
theorem dX4_pastMending_33 : decode cX4_pastMending 33 = .ok (.iinc 2 1, 3) := by decide +kernel
theorem dX4_pastMending_36 : decode cX4_pastMending 36 = .ok (.goto (-32), 3) := by decide +kernel
theorem dX4_pastMending_39 : decode cX4_pastMending 39 = .ok (.iload_n 1, 1) := by decide +kernel
theorem dX4_pastMending_40 : decode cX4_pastMending 40 = .ok (.ireturn, 1) := by decide +kernel
theorem dX4_doMending_0 : decode cX4_doMending 0 = .ok (.iconst 0, 1) := by decide +kernel
theorem dX4_doMending_1 : decode cX4_doMending 1 = .ok (.istore_n 1, 1) := by decide +kernel
theorem dX4_doMending_2 : decode cX4_doMending 2 = .ok (.iload_n 1, 1) := by decide +kernel
theorem dX4_doMending_3 : decode cX4_doMending 3 = .ok (.aload_n 0, 1) := by decide +kernel
theorem dX4_doMending_4 : decode cX4_doMending 4 = .ok (.getfield 41, 3) := by decide +kernel
theorem dX4_doMending_7 : decode cX4_doMending 7 = .ok (.getfield 77, 3) := by decide +kernel
theorem dX4_doMending_10 : decode cX4_doMending 10 = .ok (.if_icmp .ge 43, 3) := by decide +kernel
theorem dX4_doMending_13 : decode cX4_doMending 13 = .ok (.aload_n 0, 1) := by decide +kernel
theorem dX4_doMending_14 : decode cX4_doMending 14 = .ok (.getfield 24, 3) := by decide +kernel
theorem dX4_doMending_17 : decode cX4_doMending 17 = .ok (.iload_n 1, 1) := by decide +kernel
theorem dX4_doMending_18 : decode cX4_doMending 18 = .ok (.invokestatic 45, 3) := by decide +kernel
theorem dX4_doMending_21 : decode cX4_doMending 21 = .ok (.iconst (-1), 1) := by decide +kernel
theorem dX4_doMending_22 : decode cX4_doMending 22 = .ok (.if_icmp .eq 25, 3) := by decide +kernel
theorem dX4_doMending_25 : decode cX4_doMending 25 = .ok (.aload_n 0, 1) := by decide +kernel
theorem dX4_doMending_26 : decode cX4_doMending 26 = .ok (.iload_n 1, 1) := by decide +kernel
theorem dX4_doMending_27 : decode cX4_doMending 27 = .ok (.invokevirtual 160, 3) := by decide +kernel
theorem dX4_doMending_30 : decode cX4_doMending 30 = .ok (.iconst 0, 1) := by decide +kernel
theorem dX4_doMending_31 : decode cX4_doMending 31 = .ok (.aload_n 0, 1) := by decide +kernel
theorem dX4_doMending_32 : decode cX4_doMending 32 = .ok (.getfield 41, 3) := by decide +kernel
theorem dX4_doMending_35 : decode cX4_doMending 35 = .ok (.iload_n 1, 1) := by decide +kernel
theorem dX4_doMending_36 : decode cX4_doMending 36 = .ok (.invokevirtual 80, 3) := by decide +kernel
theorem dX4_doMending_39 : decode cX4_doMending 39 = .ok (.getfield 84, 3) := by decide +kernel
theorem dX4_doMending_42 : decode cX4_doMending 42 = .ok (.iconst 0, 1) := by decide +kernel
theorem dX4_doMending_43 : decode cX4_doMending 43 = .ok (.iconst 5, 1) := by decide +kernel
theorem dX4_doMending_44 : decode cX4_doMending 44 = .ok (.invokestatic 106, 3) := by decide +kernel
theorem dX4_doMending_47 : decode cX4_doMending 47 = .ok (.iinc 1 1, 3) := by decide +kernel
theorem dX4_doMending_50 : decode cX4_doMending 50 = .ok (.goto (-48), 3) := by decide +kernel
theorem dX4_doMending_53 : decode cX4_doMending 53 = .ok (.return_, 1) := by decide +kernel
theorem dX4_openedTogether_0 : decode cX4_openedTogether 0 = .ok (.iconst 0, 1) := by decide +kernel
theorem dX4_openedTogether_1 : decode cX4_openedTogether 1 = .ok (.istore_n 3, 1) := by decide +kernel
theorem dX4_openedTogether_2 : decode cX4_openedTogether 2 = .ok (.iload_n 3, 1) := by decide +kernel
theorem dX4_openedTogether_3 : decode cX4_openedTogether 3 = .ok (.aload_n 0, 1) := by decide +kernel
theorem dX4_openedTogether_4 : decode cX4_openedTogether 4 = .ok (.getfield 41, 3) := by decide +kernel
theorem dX4_openedTogether_7 : decode cX4_openedTogether 7 = .ok (.getfield 66, 3) := by decide +kernel
theorem dX4_openedTogether_10 : decode cX4_openedTogether 10 = .ok (.if_icmp .ge 54, 3) := by decide +kernel
theorem dX4_openedTogether_13 : decode cX4_openedTogether 13 = .ok (.aload_n 0, 1) := by decide +kernel
theorem dX4_openedTogether_14 : decode cX4_openedTogether 14 = .ok (.getfield 41, 3) := by decide +kernel
theorem dX4_openedTogether_17 : decode cX4_openedTogether 17 = .ok (.iload_n 1, 1) := by decide +kernel
theorem dX4_openedTogether_18 : decode cX4_openedTogether 18 = .ok (.invokevirtual 80, 3) := by decide +kernel
theorem dX4_openedTogether_21 : decode cX4_openedTogether 21 = .ok (.getfield 84, 3) := by decide +kernel
theorem dX4_openedTogether_24 : decode cX4_openedTogether 24 = .ok (.iload_n 3, 1) := by decide +kernel
theorem dX4_openedTogether_25 : decode cX4_openedTogether 25 = .ok (.invokestatic 45, 3) := by decide +kernel
theorem dX4_openedTogether_28 : decode cX4_openedTogether 28 = .ok (.istore 4, 2) := by decide +kernel
theorem dX4_openedTogether_30 : decode cX4_openedTogether 30 = .ok (.aload_n 0, 1) := by decide +kernel
theorem dX4_openedTogether_31 : decode cX4_openedTogether 31 = .ok (.getfield 15, 3) := by decide +kernel
theorem dX4_openedTogether_34 : decode cX4_openedTogether 34 = .ok (.iload_n 3, 1) := by decide +kernel
theorem dX4_openedTogether_35 : decode cX4_openedTogether 35 = .ok (.iload 4, 2) := by decide +kernel
theorem dX4_openedTogether_37 : decode cX4_openedTogether 37 = .ok (.aload_n 0, 1) := by decide +kernel
theorem dX4_openedTogether_38 : decode cX4_openedTogether 38 = .ok (.getfield 41, 3) := by decide +kernel
theorem dX4_openedTogether_41 : decode cX4_openedTogether 41 = .ok (.iload_n 2, 1) := by decide +kernel
theorem dX4_openedTogether_42 : decode cX4_openedTogether 42 = .ok (.invokevirtual 80, 3) := by decide +kernel
theorem dX4_openedTogether_45 : decode cX4_openedTogether 45 = .ok (.getfield 84, 3) := by decide +kernel
theorem dX4_openedTogether_48 : decode cX4_openedTogether 48 = .ok (.iload_n 3, 1) := by decide +kernel
theorem dX4_openedTogether_49 : decode cX4_openedTogether 49 = .ok (.invokestatic 45, 3) := by decide +kernel
theorem dX4_openedTogether_52 : decode cX4_openedTogether 52 = .ok (.invokestatic 133, 3) := by decide +kernel
theorem dX4_openedTogether_55 : decode cX4_openedTogether 55 = .ok (.invokestatic 73, 3) := by decide +kernel
theorem dX4_openedTogether_58 : decode cX4_openedTogether 58 = .ok (.iinc 3 1, 3) := by decide +kernel
theorem dX4_openedTogether_61 : decode cX4_openedTogether 61 = .ok (.goto (-59), 3) := by decide +kernel
theorem dX4_openedTogether_64 : decode cX4_openedTogether 64 = .ok (.aload_n 0, 1) := by decide +kernel
theorem dX4_openedTogether_65 : decode cX4_openedTogether 65 = .ok (.getfield 41, 3) := by decide +kernel
theorem dX4_openedTogether_68 : decode cX4_openedTogether 68 = .ok (.aload_n 0, 1) := by decide +kernel
theorem dX4_openedTogether_69 : decode cX4_openedTogether 69 = .ok (.getfield 41, 3) := by decide +kernel
theorem dX4_openedTogether_72 : decode cX4_openedTogether 72 = .ok (.getfield 164, 3) := by decide +kernel
theorem dX4_openedTogether_75 : decode cX4_openedTogether 75 = .ok (.aload_n 0, 1) := by decide +kernel
theorem dX4_openedTogether_76 : decode cX4_openedTogether 76 = .ok (.getfield 15, 3) := by decide +kernel
theorem dX4_openedTogether_79 : decode cX4_openedTogether 79 = .ok (.invokevirtual 138, 3) := by decide +kernel
theorem dX4_openedTogether_82 : decode cX4_openedTogether 82 = .ok (.ireturn, 1) := by decide +kernel
theorem dX4_bestPair_0 : decode cX4_bestPair 0 = .ok (.iconst (-1), 1) := by decide +kernel
theorem dX4_bestPair_1 : decode cX4_bestPair 1 = .ok (.istore_n 1, 1) := by decide +kernel
theorem dX4_bestPair_2 : decode cX4_bestPair 2 = .ok (.iconst (-1), 1) := by decide +kernel
theorem dX4_bestPair_3 : decode cX4_bestPair 3 = .ok (.istore_n 2, 1) := by decide +kernel
theorem dX4_bestPair_4 : decode cX4_bestPair 4 = .ok (.iconst 0, 1) := by decide +kernel
theorem dX4_bestPair_5 : decode cX4_bestPair 5 = .ok (.istore_n 3, 1) := by decide +kernel
theorem dX4_bestPair_6 : decode cX4_bestPair 6 = .ok (.iload_n 3, 1) := by decide +kernel
theorem dX4_bestPair_7 : decode cX4_bestPair 7 = .ok (.aload_n 0, 1) := by decide +kernel
theorem dX4_bestPair_8 : decode cX4_bestPair 8 = .ok (.getfield 41, 3) := by decide +kernel
theorem dX4_bestPair_11 : decode cX4_bestPair 11 = .ok (.getfield 77, 3) := by decide +kernel
theorem dX4_bestPair_14 : decode cX4_bestPair 14 = .ok (.if_icmp .ge 61, 3) := by decide +kernel
theorem dX4_bestPair_17 : decode cX4_bestPair 17 = .ok (.iload_n 3, 1) := by decide +kernel
theorem dX4_bestPair_18 : decode cX4_bestPair 18 = .ok (.iconst 1, 1) := by decide +kernel
theorem dX4_bestPair_19 : decode cX4_bestPair 19 = .ok (.iadd, 1) := by decide +kernel
theorem dX4_bestPair_20 : decode cX4_bestPair 20 = .ok (.istore 4, 2) := by decide +kernel
theorem dX4_bestPair_22 : decode cX4_bestPair 22 = .ok (.iload 4, 2) := by decide +kernel
theorem dX4_bestPair_24 : decode cX4_bestPair 24 = .ok (.aload_n 0, 1) := by decide +kernel
theorem dX4_bestPair_25 : decode cX4_bestPair 25 = .ok (.getfield 41, 3) := by decide +kernel
theorem dX4_bestPair_28 : decode cX4_bestPair 28 = .ok (.getfield 77, 3) := by decide +kernel
theorem dX4_bestPair_31 : decode cX4_bestPair 31 = .ok (.if_icmp .ge 38, 3) := by decide +kernel
theorem dX4_bestPair_34 : decode cX4_bestPair 34 = .ok (.aload_n 0, 1) := by decide +kernel
theorem dX4_bestPair_35 : decode cX4_bestPair 35 = .ok (.iload_n 3, 1) := by decide +kernel
theorem dX4_bestPair_36 : decode cX4_bestPair 36 = .ok (.iload 4, 2) := by decide +kernel
theorem dX4_bestPair_38 : decode cX4_bestPair 38 = .ok (.invokevirtual 168, 3) := by decide +kernel
theorem dX4_bestPair_41 : decode cX4_bestPair 41 = .ok (.invokestatic 171, 3) := by decide +kernel
theorem dX4_bestPair_44 : decode cX4_bestPair 44 = .ok (.istore 5, 2) := by decide +kernel
theorem dX4_bestPair_46 : decode cX4_bestPair 46 = .ok (.iload 5, 2) := by decide +kernel
theorem dX4_bestPair_48 : decode cX4_bestPair 48 = .ok (.iload_n 2, 1) := by decide +kernel
theorem dX4_bestPair_49 : decode cX4_bestPair 49 = .ok (.if_icmp .le 14, 3) := by decide +kernel
theorem dX4_bestPair_52 : decode cX4_bestPair 52 = .ok (.iload 5, 2) := by decide +kernel
theorem dX4_bestPair_54 : decode cX4_bestPair 54 = .ok (.istore_n 2, 1) := by decide +kernel
theorem dX4_bestPair_55 : decode cX4_bestPair 55 = .ok (.bipush 10, 2) := by decide +kernel
theorem dX4_bestPair_57 : decode cX4_bestPair 57 = .ok (.iload_n 3, 1) := by decide +kernel
theorem dX4_bestPair_58 : decode cX4_bestPair 58 = .ok (.imul, 1) := by decide +kernel
theorem dX4_bestPair_59 : decode cX4_bestPair 59 = .ok (.iload 4, 2) := by decide +kernel
theorem dX4_bestPair_61 : decode cX4_bestPair 61 = .ok (.iadd, 1) := by decide +kernel
theorem dX4_bestPair_62 : decode cX4_bestPair 62 = .ok (.istore_n 1, 1) := by decide +kernel
theorem dX4_bestPair_63 : decode cX4_bestPair 63 = .ok (.iinc 4 1, 3) := by decide +kernel
theorem dX4_bestPair_66 : decode cX4_bestPair 66 = .ok (.goto (-44), 3) := by decide +kernel
theorem dX4_bestPair_69 : decode cX4_bestPair 69 = .ok (.iinc 3 1, 3) := by decide +kernel
theorem dX4_bestPair_72 : decode cX4_bestPair 72 = .ok (.goto (-66), 3) := by decide +kernel
theorem dX4_bestPair_75 : decode cX4_bestPair 75 = .ok (.iload_n 1, 1) := by decide +kernel
theorem dX4_bestPair_76 : decode cX4_bestPair 76 = .ok (.ireturn, 1) := by decide +kernel
theorem dX4_rowsOfHalf_0 : decode cX4_rowsOfHalf 0 = .ok (.aload_n 0, 1) := by decide +kernel
theorem dX4_rowsOfHalf_1 : decode cX4_rowsOfHalf 1 = .ok (.getfield 41, 3) := by decide +kernel
theorem dX4_rowsOfHalf_4 : decode cX4_rowsOfHalf 4 = .ok (.getfield 66, 3) := by decide +kernel
theorem dX4_rowsOfHalf_7 : decode cX4_rowsOfHalf 7 = .ok (.aload_n 0, 1) := by decide +kernel
theorem dX4_rowsOfHalf_8 : decode cX4_rowsOfHalf 8 = .ok (.getfield 41, 3) := by decide +kernel
theorem dX4_rowsOfHalf_11 : decode cX4_rowsOfHalf 11 = .ok (.getfield 176, 3) := by decide +kernel
theorem dX4_rowsOfHalf_14 : decode cX4_rowsOfHalf 14 = .ok (.imul, 1) := by decide +kernel
theorem dX4_rowsOfHalf_15 : decode cX4_rowsOfHalf 15 = .ok (.iconst 2, 1) := by decide +kernel
theorem dX4_rowsOfHalf_16 : decode cX4_rowsOfHalf 16 = .ok (.idiv, 1) := by decide +kernel
theorem dX4_rowsOfHalf_17 : decode cX4_rowsOfHalf 17 = .ok (.istore_n 1, 1) := by decide +kernel
theorem dX4_rowsOfHalf_18 : decode cX4_rowsOfHalf 18 = .ok (.aload_n 0, 1) := by decide +kernel
theorem dX4_rowsOfHalf_19 : decode cX4_rowsOfHalf 19 = .ok (.getfield 38, 3) := by decide +kernel
theorem dX4_rowsOfHalf_22 : decode cX4_rowsOfHalf 22 = .ok (.iconst 0, 1) := by decide +kernel
theorem dX4_rowsOfHalf_23 : decode cX4_rowsOfHalf 23 = .ok (.invokestatic 93, 3) := by decide +kernel
theorem dX4_rowsOfHalf_26 : decode cX4_rowsOfHalf 26 = .ok (.aload_n 0, 1) := by decide +kernel
theorem dX4_rowsOfHalf_27 : decode cX4_rowsOfHalf 27 = .ok (.getfield 38, 3) := by decide +kernel
theorem dX4_rowsOfHalf_30 : decode cX4_rowsOfHalf 30 = .ok (.iconst 0, 1) := by decide +kernel
theorem dX4_rowsOfHalf_31 : decode cX4_rowsOfHalf 31 = .ok (.iconst 1, 1) := by decide +kernel
theorem dX4_rowsOfHalf_32 : decode cX4_rowsOfHalf 32 = .ok (.invokestatic 73, 3) := by decide +kernel
theorem dX4_rowsOfHalf_35 : decode cX4_rowsOfHalf 35 = .ok (.iconst 0, 1) := by decide +kernel
theorem dX4_rowsOfHalf_36 : decode cX4_rowsOfHalf 36 = .ok (.istore_n 2, 1) := by decide +kernel
theorem dX4_rowsOfHalf_37 : decode cX4_rowsOfHalf 37 = .ok (.iload_n 2, 1) := by decide +kernel
theorem dX4_rowsOfHalf_38 : decode cX4_rowsOfHalf 38 = .ok (.aload_n 0, 1) := by decide +kernel
theorem dX4_rowsOfHalf_39 : decode cX4_rowsOfHalf 39 = .ok (.getfield 41, 3) := by decide +kernel
theorem dX4_rowsOfHalf_42 : decode cX4_rowsOfHalf 42 = .ok (.getfield 66, 3) := by decide +kernel
theorem dX4_rowsOfHalf_45 : decode cX4_rowsOfHalf 45 = .ok (.if_icmp .ge 34, 3) := by decide +kernel
theorem dX4_rowsOfHalf_48 : decode cX4_rowsOfHalf 48 = .ok (.iload_n 1, 1) := by decide +kernel
theorem dX4_rowsOfHalf_49 : decode cX4_rowsOfHalf 49 = .ok (.istore_n 3, 1) := by decide +kernel
theorem dX4_rowsOfHalf_50 : decode cX4_rowsOfHalf 50 = .ok (.iload_n 3, 1) := by decide +kernel
theorem dX4_rowsOfHalf_51 : decode cX4_rowsOfHalf 51 = .ok (.ifCond .lt 22, 3) := by decide +kernel
theorem dX4_rowsOfHalf_54 : decode cX4_rowsOfHalf 54 = .ok (.aload_n 0, 1) := by decide +kernel
theorem dX4_rowsOfHalf_55 : decode cX4_rowsOfHalf 55 = .ok (.getfield 38, 3) := by decide +kernel
theorem dX4_rowsOfHalf_58 : decode cX4_rowsOfHalf 58 = .ok (.iload_n 3, 1) := by decide +kernel
theorem dX4_rowsOfHalf_59 : decode cX4_rowsOfHalf 59 = .ok (.aload_n 0, 1) := by decide +kernel
theorem dX4_rowsOfHalf_60 : decode cX4_rowsOfHalf 60 = .ok (.iload_n 3, 1) := by decide +kernel
theorem dX4_rowsOfHalf_61 : decode cX4_rowsOfHalf 61 = .ok (.invokevirtual 179, 3) := by decide +kernel
theorem dX4_rowsOfHalf_64 : decode cX4_rowsOfHalf 64 = .ok (.invokestatic 73, 3) := by decide +kernel
theorem dX4_rowsOfHalf_67 : decode cX4_rowsOfHalf 67 = .ok (.iinc 3 (-1), 3) := by decide +kernel
theorem dX4_rowsOfHalf_70 : decode cX4_rowsOfHalf 70 = .ok (.goto (-20), 3) := by decide +kernel
theorem dX4_rowsOfHalf_73 : decode cX4_rowsOfHalf 73 = .ok (.iinc 2 1, 3) := by decide +kernel
theorem dX4_rowsOfHalf_76 : decode cX4_rowsOfHalf 76 = .ok (.goto (-39), 3) := by decide +kernel
theorem dX4_rowsOfHalf_79 : decode cX4_rowsOfHalf 79 = .ok (.aload_n 0, 1) := by decide +kernel
theorem dX4_rowsOfHalf_80 : decode cX4_rowsOfHalf 80 = .ok (.getfield 38, 3) := by decide +kernel
theorem dX4_rowsOfHalf_83 : decode cX4_rowsOfHalf 83 = .ok (.iload_n 1, 1) := by decide +kernel
theorem dX4_rowsOfHalf_84 : decode cX4_rowsOfHalf 84 = .ok (.invokestatic 45, 3) := by decide +kernel
theorem dX4_rowsOfHalf_87 : decode cX4_rowsOfHalf 87 = .ok (.ireturn, 1) := by decide +kernel
theorem dX4_waysWithOneMore_0 : decode cX4_waysWithOneMore 0 = .ok (.iconst 0, 1) := by decide +kernel
theorem dX4_waysWithOneMore_1 : decode cX4_waysWithOneMore 1 = .ok (.istore_n 2, 1) := by decide +kernel
theorem dX4_waysWithOneMore_2 : decode cX4_waysWithOneMore 2 = .ok (.iconst 0, 1) := by decide +kernel
theorem dX4_waysWithOneMore_3 : decode cX4_waysWithOneMore 3 = .ok (.istore_n 3, 1) := by decide +kernel
theorem dX4_waysWithOneMore_4 : decode cX4_waysWithOneMore 4 = .ok (.iload_n 3, 1) := by decide +kernel
theorem dX4_waysWithOneMore_5 : decode cX4_waysWithOneMore 5 = .ok (.aload_n 0, 1) := by decide +kernel
theorem dX4_waysWithOneMore_6 : decode cX4_waysWithOneMore 6 = .ok (.getfield 41, 3) := by decide +kernel
theorem dX4_waysWithOneMore_9 : decode cX4_waysWithOneMore 9 = .ok (.getfield 176, 3) := by decide +kernel
theorem dX4_waysWithOneMore_12 : decode cX4_waysWithOneMore 12 = .ok (.if_icmp .gt 22, 3) := by decide +kernel
theorem dX4_waysWithOneMore_15 : decode cX4_waysWithOneMore 15 = .ok (.iload_n 2, 1) := by decide +kernel
theorem dX4_waysWithOneMore_16 : decode cX4_waysWithOneMore 16 = .ok (.aload_n 0, 1) := by decide +kernel
theorem dX4_waysWithOneMore_17 : decode cX4_waysWithOneMore 17 = .ok (.getfield 38, 3) := by decide +kernel
theorem dX4_waysWithOneMore_20 : decode cX4_waysWithOneMore 20 = .ok (.iload_n 1, 1) := by decide +kernel
theorem dX4_waysWithOneMore_21 : decode cX4_waysWithOneMore 21 = .ok (.iload_n 3, 1) := by decide +kernel
theorem dX4_waysWithOneMore_22 : decode cX4_waysWithOneMore 22 = .ok (.isub, 1) := by decide +kernel
theorem dX4_waysWithOneMore_23 : decode cX4_waysWithOneMore 23 = .ok (.invokestatic 45, 3) := by decide +kernel
theorem dX4_waysWithOneMore_26 : decode cX4_waysWithOneMore 26 = .ok (.iadd, 1) := by decide +kernel
theorem dX4_waysWithOneMore_27 : decode cX4_waysWithOneMore 27 = .ok (.istore_n 2, 1) := by decide +kernel
theorem dX4_waysWithOneMore_28 : decode cX4_waysWithOneMore 28 = .ok (.iinc 3 1, 3) := by decide +kernel
theorem dX4_waysWithOneMore_31 : decode cX4_waysWithOneMore 31 = .ok (.goto (-27), 3) := by decide +kernel
theorem dX4_waysWithOneMore_34 : decode cX4_waysWithOneMore 34 = .ok (.iload_n 2, 1) := by decide +kernel
theorem dX4_waysWithOneMore_35 : decode cX4_waysWithOneMore 35 = .ok (.ireturn, 1) := by decide +kernel
theorem dX4_keysOver_0 : decode cX4_keysOver 0 = .ok (.aload_n 0, 1) := by decide +kernel
theorem dX4_keysOver_1 : decode cX4_keysOver 1 = .ok (.getfield 41, 3) := by decide +kernel
theorem dX4_keysOver_4 : decode cX4_keysOver 4 = .ok (.iload_n 1, 1) := by decide +kernel
theorem dX4_keysOver_5 : decode cX4_keysOver 5 = .ok (.invokevirtual 116, 3) := by decide +kernel
theorem dX4_keysOver_8 : decode cX4_keysOver 8 = .ok (.istore_n 2, 1) := by decide +kernel
theorem dX4_keysOver_9 : decode cX4_keysOver 9 = .ok (.iconst 0, 1) := by decide +kernel
theorem dX4_keysOver_10 : decode cX4_keysOver 10 = .ok (.istore_n 3, 1) := by decide +kernel
theorem dX4_keysOver_11 : decode cX4_keysOver 11 = .ok (.iconst 0, 1) := by decide +kernel
theorem dX4_keysOver_12 : decode cX4_keysOver 12 = .ok (.istore 4, 2) := by decide +kernel
theorem dX4_keysOver_14 : decode cX4_keysOver 14 = .ok (.iload 4, 2) := by decide +kernel
theorem dX4_keysOver_16 : decode cX4_keysOver 16 = .ok (.aload_n 0, 1) := by decide +kernel
theorem dX4_keysOver_17 : decode cX4_keysOver 17 = .ok (.getfield 41, 3) := by decide +kernel
theorem dX4_keysOver_20 : decode cX4_keysOver 20 = .ok (.getfield 77, 3) := by decide +kernel
theorem dX4_keysOver_23 : decode cX4_keysOver 23 = .ok (.if_icmp .ge 38, 3) := by decide +kernel
theorem dX4_keysOver_26 : decode cX4_keysOver 26 = .ok (.iload 4, 2) := by decide +kernel
theorem dX4_keysOver_28 : decode cX4_keysOver 28 = .ok (.iload_n 1, 1) := by decide +kernel
theorem dX4_keysOver_29 : decode cX4_keysOver 29 = .ok (.if_icmp .eq 26, 3) := by decide +kernel
theorem dX4_keysOver_32 : decode cX4_keysOver 32 = .ok (.iload_n 2, 1) := by decide +kernel
theorem dX4_keysOver_33 : decode cX4_keysOver 33 = .ok (.aload_n 0, 1) := by decide +kernel
theorem dX4_keysOver_34 : decode cX4_keysOver 34 = .ok (.getfield 41, 3) := by decide +kernel
theorem dX4_keysOver_37 : decode cX4_keysOver 37 = .ok (.iload 4, 2) := by decide +kernel
theorem dX4_keysOver_39 : decode cX4_keysOver 39 = .ok (.invokevirtual 116, 3) := by decide +kernel
theorem dX4_keysOver_42 : decode cX4_keysOver 42 = .ok (.iconst (-1), 1) := by decide +kernel
theorem dX4_keysOver_43 : decode cX4_keysOver 43 = .ok (.ixor, 1) := by decide +kernel
theorem dX4_keysOver_44 : decode cX4_keysOver 44 = .ok (.iand, 1) := by decide +kernel
theorem dX4_keysOver_45 : decode cX4_keysOver 45 = .ok (.ifCond .ne 10, 3) := by decide +kernel
theorem dX4_keysOver_48 : decode cX4_keysOver 48 = .ok (.iload_n 3, 1) := by decide +kernel
theorem dX4_keysOver_49 : decode cX4_keysOver 49 = .ok (.iconst 1, 1) := by decide +kernel
theorem dX4_keysOver_50 : decode cX4_keysOver 50 = .ok (.iload 4, 2) := by decide +kernel
theorem dX4_keysOver_52 : decode cX4_keysOver 52 = .ok (.ishl, 1) := by decide +kernel
theorem dX4_keysOver_53 : decode cX4_keysOver 53 = .ok (.ior, 1) := by decide +kernel
theorem dX4_keysOver_54 : decode cX4_keysOver 54 = .ok (.istore_n 3, 1) := by decide +kernel
theorem dX4_keysOver_55 : decode cX4_keysOver 55 = .ok (.iinc 4 1, 3) := by decide +kernel
theorem dX4_keysOver_58 : decode cX4_keysOver 58 = .ok (.goto (-44), 3) := by decide +kernel
theorem dX4_keysOver_61 : decode cX4_keysOver 61 = .ok (.iload_n 3, 1) := by decide +kernel
theorem dX4_keysOver_62 : decode cX4_keysOver 62 = .ok (.ireturn, 1) := by decide +kernel
theorem dX4_countBelow_0 : decode cX4_countBelow 0 = .ok (.aload_n 0, 1) := by decide +kernel
theorem dX4_countBelow_1 : decode cX4_countBelow 1 = .ok (.getfield 41, 3) := by decide +kernel
theorem dX4_countBelow_4 : decode cX4_countBelow 4 = .ok (.iload_n 1, 1) := by decide +kernel
theorem dX4_countBelow_5 : decode cX4_countBelow 5 = .ok (.invokevirtual 116, 3) := by decide +kernel
theorem dX4_countBelow_8 : decode cX4_countBelow 8 = .ok (.istore_n 2, 1) := by decide +kernel
theorem dX4_countBelow_9 : decode cX4_countBelow 9 = .ok (.iconst 0, 1) := by decide +kernel
theorem dX4_countBelow_10 : decode cX4_countBelow 10 = .ok (.istore_n 3, 1) := by decide +kernel
theorem dX4_countBelow_11 : decode cX4_countBelow 11 = .ok (.iconst 0, 1) := by decide +kernel
theorem dX4_countBelow_12 : decode cX4_countBelow 12 = .ok (.istore 4, 2) := by decide +kernel
theorem dX4_countBelow_14 : decode cX4_countBelow 14 = .ok (.iload 4, 2) := by decide +kernel
theorem dX4_countBelow_16 : decode cX4_countBelow 16 = .ok (.aload_n 0, 1) := by decide +kernel
theorem dX4_countBelow_17 : decode cX4_countBelow 17 = .ok (.getfield 41, 3) := by decide +kernel
theorem dX4_countBelow_20 : decode cX4_countBelow 20 = .ok (.getfield 77, 3) := by decide +kernel
theorem dX4_countBelow_23 : decode cX4_countBelow 23 = .ok (.if_icmp .ge 34, 3) := by decide +kernel
theorem dX4_countBelow_26 : decode cX4_countBelow 26 = .ok (.iload 4, 2) := by decide +kernel
theorem dX4_countBelow_28 : decode cX4_countBelow 28 = .ok (.iload_n 1, 1) := by decide +kernel
theorem dX4_countBelow_29 : decode cX4_countBelow 29 = .ok (.if_icmp .eq 22, 3) := by decide +kernel
theorem dX4_countBelow_32 : decode cX4_countBelow 32 = .ok (.aload_n 0, 1) := by decide +kernel
theorem dX4_countBelow_33 : decode cX4_countBelow 33 = .ok (.getfield 41, 3) := by decide +kernel
theorem dX4_countBelow_36 : decode cX4_countBelow 36 = .ok (.iload 4, 2) := by decide +kernel
theorem dX4_countBelow_38 : decode cX4_countBelow 38 = .ok (.invokevirtual 116, 3) := by decide +kernel
theorem dX4_countBelow_41 : decode cX4_countBelow 41 = .ok (.iload_n 2, 1) := by decide +kernel
theorem dX4_countBelow_42 : decode cX4_countBelow 42 = .ok (.iconst (-1), 1) := by decide +kernel
theorem dX4_countBelow_43 : decode cX4_countBelow 43 = .ok (.ixor, 1) := by decide +kernel
theorem dX4_countBelow_44 : decode cX4_countBelow 44 = .ok (.iand, 1) := by decide +kernel
theorem dX4_countBelow_45 : decode cX4_countBelow 45 = .ok (.ifCond .ne 6, 3) := by decide +kernel
theorem dX4_countBelow_48 : decode cX4_countBelow 48 = .ok (.iinc 3 1, 3) := by decide +kernel
theorem dX4_countBelow_51 : decode cX4_countBelow 51 = .ok (.iinc 4 1, 3) := by decide +kernel
theorem dX4_countBelow_54 : decode cX4_countBelow 54 = .ok (.goto (-40), 3) := by decide +kernel
theorem dX4_countBelow_57 : decode cX4_countBelow 57 = .ok (.iload_n 3, 1) := by decide +kernel
theorem dX4_countBelow_58 : decode cX4_countBelow 58 = .ok (.ireturn, 1) := by decide +kernel
theorem dX4_longestChain_0 : decode cX4_longestChain 0 = .ok (.iconst 0, 1) := by decide +kernel
theorem dX4_longestChain_1 : decode cX4_longestChain 1 = .ok (.istore_n 1, 1) := by decide +kernel
theorem dX4_longestChain_2 : decode cX4_longestChain 2 = .ok (.iload_n 1, 1) := by decide +kernel
theorem dX4_longestChain_3 : decode cX4_longestChain 3 = .ok (.aload_n 0, 1) := by decide +kernel
theorem dX4_longestChain_4 : decode cX4_longestChain 4 = .ok (.getfield 41, 3) := by decide +kernel
theorem dX4_longestChain_7 : decode cX4_longestChain 7 = .ok (.getfield 77, 3) := by decide +kernel
theorem dX4_longestChain_10 : decode cX4_longestChain 10 = .ok (.if_icmp .ge 34, 3) := by decide +kernel
theorem dX4_longestChain_13 : decode cX4_longestChain 13 = .ok (.aload_n 0, 1) := by decide +kernel
theorem dX4_longestChain_14 : decode cX4_longestChain 14 = .ok (.getfield 32, 3) := by decide +kernel
theorem dX4_longestChain_17 : decode cX4_longestChain 17 = .ok (.iload_n 1, 1) := by decide +kernel
theorem dX4_longestChain_18 : decode cX4_longestChain 18 = .ok (.aload_n 0, 1) := by decide +kernel
theorem dX4_longestChain_19 : decode cX4_longestChain 19 = .ok (.getfield 41, 3) := by decide +kernel
theorem dX4_longestChain_22 : decode cX4_longestChain 22 = .ok (.iload_n 1, 1) := by decide +kernel
theorem dX4_longestChain_23 : decode cX4_longestChain 23 = .ok (.invokevirtual 116, 3) := by decide +kernel
theorem dX4_longestChain_26 : decode cX4_longestChain 26 = .ok (.invokestatic 73, 3) := by decide +kernel
theorem dX4_longestChain_29 : decode cX4_longestChain 29 = .ok (.aload_n 0, 1) := by decide +kernel
theorem dX4_longestChain_30 : decode cX4_longestChain 30 = .ok (.getfield 35, 3) := by decide +kernel
theorem dX4_longestChain_33 : decode cX4_longestChain 33 = .ok (.iload_n 1, 1) := by decide +kernel
theorem dX4_longestChain_34 : decode cX4_longestChain 34 = .ok (.iconst 1, 1) := by decide +kernel
theorem dX4_longestChain_35 : decode cX4_longestChain 35 = .ok (.invokestatic 73, 3) := by decide +kernel
theorem dX4_longestChain_38 : decode cX4_longestChain 38 = .ok (.iinc 1 1, 3) := by decide +kernel
theorem dX4_longestChain_41 : decode cX4_longestChain 41 = .ok (.goto (-39), 3) := by decide +kernel
theorem dX4_longestChain_44 : decode cX4_longestChain 44 = .ok (.iconst 0, 1) := by decide +kernel
theorem dX4_longestChain_45 : decode cX4_longestChain 45 = .ok (.istore_n 1, 1) := by decide +kernel
theorem dX4_longestChain_46 : decode cX4_longestChain 46 = .ok (.iconst 0, 1) := by decide +kernel
theorem dX4_longestChain_47 : decode cX4_longestChain 47 = .ok (.istore_n 2, 1) := by decide +kernel
theorem dX4_longestChain_48 : decode cX4_longestChain 48 = .ok (.iload_n 2, 1) := by decide +kernel
theorem dX4_longestChain_49 : decode cX4_longestChain 49 = .ok (.aload_n 0, 1) := by decide +kernel
theorem dX4_longestChain_50 : decode cX4_longestChain 50 = .ok (.getfield 41, 3) := by decide +kernel
theorem dX4_longestChain_53 : decode cX4_longestChain 53 = .ok (.getfield 77, 3) := by decide +kernel
theorem dX4_longestChain_56 : decode cX4_longestChain 56 = .ok (.if_icmp .ge 56, 3) := by decide +kernel
theorem dX4_longestChain_59 : decode cX4_longestChain 59 = .ok (.iconst 0, 1) := by decide +kernel
theorem dX4_longestChain_60 : decode cX4_longestChain 60 = .ok (.istore_n 3, 1) := by decide +kernel
theorem dX4_longestChain_61 : decode cX4_longestChain 61 = .ok (.iload_n 3, 1) := by decide +kernel
theorem dX4_longestChain_62 : decode cX4_longestChain 62 = .ok (.aload_n 0, 1) := by decide +kernel
theorem dX4_longestChain_63 : decode cX4_longestChain 63 = .ok (.getfield 41, 3) := by decide +kernel
theorem dX4_longestChain_66 : decode cX4_longestChain 66 = .ok (.getfield 77, 3) := by decide +kernel
theorem dX4_longestChain_69 : decode cX4_longestChain 69 = .ok (.if_icmp .ge 37, 3) := by decide +kernel
theorem dX4_longestChain_72 : decode cX4_longestChain 72 = .ok (.aload_n 0, 1) := by decide +kernel
theorem dX4_longestChain_73 : decode cX4_longestChain 73 = .ok (.getfield 35, 3) := by decide +kernel
theorem dX4_longestChain_76 : decode cX4_longestChain 76 = .ok (.iload_n 3, 1) := by decide +kernel
theorem dX4_longestChain_77 : decode cX4_longestChain 77 = .ok (.iconst 1, 1) := by decide +kernel
theorem dX4_longestChain_78 : decode cX4_longestChain 78 = .ok (.aload_n 0, 1) := by decide +kernel
theorem dX4_longestChain_79 : decode cX4_longestChain 79 = .ok (.iload_n 3, 1) := by decide +kernel
theorem dX4_longestChain_80 : decode cX4_longestChain 80 = .ok (.invokevirtual 182, 3) := by decide +kernel
theorem dX4_longestChain_83 : decode cX4_longestChain 83 = .ok (.iadd, 1) := by decide +kernel
theorem dX4_longestChain_84 : decode cX4_longestChain 84 = .ok (.invokestatic 73, 3) := by decide +kernel
theorem dX4_longestChain_87 : decode cX4_longestChain 87 = .ok (.iload_n 1, 1) := by decide +kernel
theorem dX4_longestChain_88 : decode cX4_longestChain 88 = .ok (.aload_n 0, 1) := by decide +kernel
theorem dX4_longestChain_89 : decode cX4_longestChain 89 = .ok (.getfield 35, 3) := by decide +kernel
theorem dX4_longestChain_92 : decode cX4_longestChain 92 = .ok (.iload_n 3, 1) := by decide +kernel
theorem dX4_longestChain_93 : decode cX4_longestChain 93 = .ok (.invokestatic 45, 3) := by decide +kernel
theorem dX4_longestChain_96 : decode cX4_longestChain 96 = .ok (.invokestatic 133, 3) := by decide +kernel
theorem dX4_longestChain_99 : decode cX4_longestChain 99 = .ok (.istore_n 1, 1) := by decide +kernel
theorem dX4_longestChain_100 : decode cX4_longestChain 100 = .ok (.iinc 3 1, 3) := by decide +kernel
theorem dX4_longestChain_103 : decode cX4_longestChain 103 = .ok (.goto (-42), 3) := by decide +kernel
theorem dX4_longestChain_106 : decode cX4_longestChain 106 = .ok (.iinc 2 1, 3) := by decide +kernel
theorem dX4_longestChain_109 : decode cX4_longestChain 109 = .ok (.goto (-61), 3) := by decide +kernel
theorem dX4_longestChain_112 : decode cX4_longestChain 112 = .ok (.iload_n 1, 1) := by decide +kernel
theorem dX4_longestChain_113 : decode cX4_longestChain 113 = .ok (.ireturn, 1) := by decide +kernel
theorem dX4_longestBelow_0 : decode cX4_longestBelow 0 = .ok (.aload_n 0, 1) := by decide +kernel
theorem dX4_longestBelow_1 : decode cX4_longestBelow 1 = .ok (.getfield 32, 3) := by decide +kernel
theorem dX4_longestBelow_4 : decode cX4_longestBelow 4 = .ok (.iload_n 1, 1) := by decide +kernel
theorem dX4_longestBelow_5 : decode cX4_longestBelow 5 = .ok (.invokestatic 45, 3) := by decide +kernel
theorem dX4_longestBelow_8 : decode cX4_longestBelow 8 = .ok (.istore_n 2, 1) := by decide +kernel
theorem dX4_longestBelow_9 : decode cX4_longestBelow 9 = .ok (.iconst 0, 1) := by decide +kernel
theorem dX4_longestBelow_10 : decode cX4_longestBelow 10 = .ok (.istore_n 3, 1) := by decide +kernel
theorem dX4_longestBelow_11 : decode cX4_longestBelow 11 = .ok (.iconst 0, 1) := by decide +kernel
theorem dX4_longestBelow_12 : decode cX4_longestBelow 12 = .ok (.istore 4, 2) := by decide +kernel
theorem dX4_longestBelow_14 : decode cX4_longestBelow 14 = .ok (.iload 4, 2) := by decide +kernel
theorem dX4_longestBelow_16 : decode cX4_longestBelow 16 = .ok (.aload_n 0, 1) := by decide +kernel
theorem dX4_longestBelow_17 : decode cX4_longestBelow 17 = .ok (.getfield 41, 3) := by decide +kernel
theorem dX4_longestBelow_20 : decode cX4_longestBelow 20 = .ok (.getfield 77, 3) := by decide +kernel
theorem dX4_longestBelow_23 : decode cX4_longestBelow 23 = .ok (.if_icmp .ge 49, 3) := by decide +kernel
theorem dX4_longestBelow_26 : decode cX4_longestBelow 26 = .ok (.aload_n 0, 1) := by decide +kernel
theorem dX4_longestBelow_27 : decode cX4_longestBelow 27 = .ok (.getfield 32, 3) := by decide +kernel
theorem dX4_longestBelow_30 : decode cX4_longestBelow 30 = .ok (.iload 4, 2) := by decide +kernel
theorem dX4_longestBelow_32 : decode cX4_longestBelow 32 = .ok (.invokestatic 45, 3) := by decide +kernel
theorem dX4_longestBelow_35 : decode cX4_longestBelow 35 = .ok (.istore 5, 2) := by decide +kernel
theorem dX4_longestBelow_37 : decode cX4_longestBelow 37 = .ok (.iload 5, 2) := by decide +kernel
theorem dX4_longestBelow_39 : decode cX4_longestBelow 39 = .ok (.iload_n 2, 1) := by decide +kernel
theorem dX4_longestBelow_40 : decode cX4_longestBelow 40 = .ok (.if_icmp .eq 26, 3) := by decide +kernel
theorem dX4_longestBelow_43 : decode cX4_longestBelow 43 = .ok (.iload 5, 2) := by decide +kernel
theorem dX4_longestBelow_45 : decode cX4_longestBelow 45 = .ok (.iload_n 2, 1) := by decide +kernel
theorem dX4_longestBelow_46 : decode cX4_longestBelow 46 = .ok (.iconst (-1), 1) := by decide +kernel
theorem dX4_longestBelow_47 : decode cX4_longestBelow 47 = .ok (.ixor, 1) := by decide +kernel
theorem dX4_longestBelow_48 : decode cX4_longestBelow 48 = .ok (.iand, 1) := by decide +kernel
theorem dX4_longestBelow_49 : decode cX4_longestBelow 49 = .ok (.ifCond .ne 17, 3) := by decide +kernel
theorem dX4_longestBelow_52 : decode cX4_longestBelow 52 = .ok (.iload_n 3, 1) := by decide +kernel
theorem dX4_longestBelow_53 : decode cX4_longestBelow 53 = .ok (.aload_n 0, 1) := by decide +kernel
theorem dX4_longestBelow_54 : decode cX4_longestBelow 54 = .ok (.getfield 35, 3) := by decide +kernel
theorem dX4_longestBelow_57 : decode cX4_longestBelow 57 = .ok (.iload 4, 2) := by decide +kernel
theorem dX4_longestBelow_59 : decode cX4_longestBelow 59 = .ok (.invokestatic 45, 3) := by decide +kernel
theorem dX4_longestBelow_62 : decode cX4_longestBelow 62 = .ok (.invokestatic 133, 3) := by decide +kernel
theorem dX4_longestBelow_65 : decode cX4_longestBelow 65 = .ok (.istore_n 3, 1) := by decide +kernel
theorem dX4_longestBelow_66 : decode cX4_longestBelow 66 = .ok (.iinc 4 1, 3) := by decide +kernel
theorem dX4_longestBelow_69 : decode cX4_longestBelow 69 = .ok (.goto (-55), 3) := by decide +kernel
theorem dX4_longestBelow_72 : decode cX4_longestBelow 72 = .ok (.iload_n 3, 1) := by decide +kernel
theorem dX4_longestBelow_73 : decode cX4_longestBelow 73 = .ok (.ireturn, 1) := by decide +kernel
theorem dX4_lostByWard_0 : decode cX4_lostByWard 0 = .ok (.iconst 0, 1) := by decide +kernel
theorem dX4_lostByWard_1 : decode cX4_lostByWard 1 = .ok (.istore_n 2, 1) := by decide +kernel
theorem dX4_lostByWard_2 : decode cX4_lostByWard 2 = .ok (.iconst 0, 1) := by decide +kernel
theorem dX4_lostByWard_3 : decode cX4_lostByWard 3 = .ok (.istore_n 3, 1) := by decide +kernel
theorem dX4_lostByWard_4 : decode cX4_lostByWard 4 = .ok (.iload_n 3, 1) := by decide +kernel
theorem dX4_lostByWard_5 : decode cX4_lostByWard 5 = .ok (.aload_n 0, 1) := by decide +kernel
theorem dX4_lostByWard_6 : decode cX4_lostByWard 6 = .ok (.getfield 41, 3) := by decide +kernel
theorem dX4_lostByWard_9 : decode cX4_lostByWard 9 = .ok (.getfield 77, 3) := by decide +kernel
theorem dX4_lostByWard_12 : decode cX4_lostByWard 12 = .ok (.if_icmp .ge 79, 3) := by decide +kernel
theorem dX4_lostByWard_15 : decode cX4_lostByWard 15 = .ok (.aload_n 0, 1) := by decide +kernel
theorem dX4_lostByWard_16 : decode cX4_lostByWard 16 = .ok (.getfield 41, 3) := by decide +kernel
theorem dX4_lostByWard_19 : decode cX4_lostByWard 19 = .ok (.iload_n 3, 1) := by decide +kernel
theorem dX4_lostByWard_20 : decode cX4_lostByWard 20 = .ok (.invokevirtual 80, 3) := by decide +kernel
theorem dX4_lostByWard_23 : decode cX4_lostByWard 23 = .ok (.astore 4, 2) := by decide +kernel
theorem dX4_lostByWard_25 : decode cX4_lostByWard 25 = .ok (.aload 4, 2) := by decide +kernel
theorem dX4_lostByWard_27 : decode cX4_lostByWard 27 = .ok (.iconst 3, 1) := by decide +kernel
theorem dX4_lostByWard_28 : decode cX4_lostByWard 28 = .ok (.invokevirtual 185, 3) := by decide +kernel
theorem dX4_lostByWard_31 : decode cX4_lostByWard 31 = .ok (.ifCond .eq 28, 3) := by decide +kernel
theorem dX4_lostByWard_34 : decode cX4_lostByWard 34 = .ok (.aload_n 0, 1) := by decide +kernel
theorem dX4_lostByWard_35 : decode cX4_lostByWard 35 = .ok (.getfield 41, 3) := by decide +kernel
theorem dX4_lostByWard_38 : decode cX4_lostByWard 38 = .ok (.aload 4, 2) := by decide +kernel
theorem dX4_lostByWard_40 : decode cX4_lostByWard 40 = .ok (.aload 4, 2) := by decide +kernel
theorem dX4_lostByWard_42 : decode cX4_lostByWard 42 = .ok (.getfield 84, 3) := by decide +kernel
theorem dX4_lostByWard_45 : decode cX4_lostByWard 45 = .ok (.invokevirtual 138, 3) := by decide +kernel
theorem dX4_lostByWard_48 : decode cX4_lostByWard 48 = .ok (.iload_n 1, 1) := by decide +kernel
theorem dX4_lostByWard_49 : decode cX4_lostByWard 49 = .ok (.invokestatic 119, 3) := by decide +kernel
theorem dX4_lostByWard_52 : decode cX4_lostByWard 52 = .ok (.ifCond .eq 7, 3) := by decide +kernel
theorem dX4_lostByWard_55 : decode cX4_lostByWard 55 = .ok (.iconst 1, 1) := by decide +kernel
theorem dX4_lostByWard_56 : decode cX4_lostByWard 56 = .ok (.goto 4, 3) := by decide +kernel
theorem dX4_lostByWard_59 : decode cX4_lostByWard 59 = .ok (.iconst 0, 1) := by decide +kernel
theorem dX4_lostByWard_60 : decode cX4_lostByWard 60 = .ok (.istore 5, 2) := by decide +kernel
theorem dX4_lostByWard_62 : decode cX4_lostByWard 62 = .ok (.aload_n 0, 1) := by decide +kernel
theorem dX4_lostByWard_63 : decode cX4_lostByWard 63 = .ok (.getfield 41, 3) := by decide +kernel
theorem dX4_lostByWard_66 : decode cX4_lostByWard 66 = .ok (.iload_n 3, 1) := by decide +kernel
theorem dX4_lostByWard_67 : decode cX4_lostByWard 67 = .ok (.invokevirtual 116, 3) := by decide +kernel
theorem dX4_lostByWard_70 : decode cX4_lostByWard 70 = .ok (.iload_n 1, 1) := by decide +kernel
theorem dX4_lostByWard_71 : decode cX4_lostByWard 71 = .ok (.invokestatic 119, 3) := by decide +kernel
theorem dX4_lostByWard_74 : decode cX4_lostByWard 74 = .ok (.ifCond .eq 11, 3) := by decide +kernel
theorem dX4_lostByWard_77 : decode cX4_lostByWard 77 = .ok (.iload 5, 2) := by decide +kernel
theorem dX4_lostByWard_79 : decode cX4_lostByWard 79 = .ok (.ifCond .ne 6, 3) := by decide +kernel
theorem dX4_lostByWard_82 : decode cX4_lostByWard 82 = .ok (.iinc 2 1, 3) := by decide +kernel
theorem dX4_lostByWard_85 : decode cX4_lostByWard 85 = .ok (.iinc 3 1, 3) := by decide +kernel
theorem dX4_lostByWard_88 : decode cX4_lostByWard 88 = .ok (.goto (-84), 3) := by decide +kernel
theorem dX4_lostByWard_91 : decode cX4_lostByWard 91 = .ok (.iload_n 2, 1) := by decide +kernel
theorem dX4_lostByWard_92 : decode cX4_lostByWard 92 = .ok (.ireturn, 1) := by decide +kernel
theorem dX4_tellCut_0 : decode cX4_tellCut 0 = .ok (.aload_n 0, 1) := by decide +kernel
theorem dX4_tellCut_1 : decode cX4_tellCut 1 = .ok (.getfield 15, 3) := by decide +kernel
theorem dX4_tellCut_4 : decode cX4_tellCut 4 = .ok (.iload_n 1, 1) := by decide +kernel
theorem dX4_tellCut_5 : decode cX4_tellCut 5 = .ok (.iload_n 2, 1) := by decide +kernel
theorem dX4_tellCut_6 : decode cX4_tellCut 6 = .ok (.invokestatic 73, 3) := by decide +kernel
theorem dX4_tellCut_9 : decode cX4_tellCut 9 = .ok (.return_, 1) := by decide +kernel
theorem dX4_keysOfTold_0 : decode cX4_keysOfTold 0 = .ok (.iconst 0, 1) := by decide +kernel
theorem dX4_keysOfTold_1 : decode cX4_keysOfTold 1 = .ok (.istore_n 2, 1) := by decide +kernel
theorem dX4_keysOfTold_2 : decode cX4_keysOfTold 2 = .ok (.iconst 0, 1) := by decide +kernel
theorem dX4_keysOfTold_3 : decode cX4_keysOfTold 3 = .ok (.istore_n 3, 1) := by decide +kernel
theorem dX4_keysOfTold_4 : decode cX4_keysOfTold 4 = .ok (.iload_n 3, 1) := by decide +kernel
theorem dX4_keysOfTold_5 : decode cX4_keysOfTold 5 = .ok (.aload_n 0, 1) := by decide +kernel
theorem dX4_keysOfTold_6 : decode cX4_keysOfTold 6 = .ok (.getfield 41, 3) := by decide +kernel
theorem dX4_keysOfTold_9 : decode cX4_keysOfTold 9 = .ok (.getfield 77, 3) := by decide +kernel
theorem dX4_keysOfTold_12 : decode cX4_keysOfTold 12 = .ok (.if_icmp .ge 67, 3) := by decide +kernel
theorem dX4_keysOfTold_15 : decode cX4_keysOfTold 15 = .ok (.aload_n 0, 1) := by decide +kernel
theorem dX4_keysOfTold_16 : decode cX4_keysOfTold 16 = .ok (.getfield 41, 3) := by decide +kernel
theorem dX4_keysOfTold_19 : decode cX4_keysOfTold 19 = .ok (.iload_n 3, 1) := by decide +kernel
theorem dX4_keysOfTold_20 : decode cX4_keysOfTold 20 = .ok (.invokevirtual 80, 3) := by decide +kernel
theorem dX4_keysOfTold_23 : decode cX4_keysOfTold 23 = .ok (.astore 4, 2) := by decide +kernel
theorem dX4_keysOfTold_25 : decode cX4_keysOfTold 25 = .ok (.aload_n 0, 1) := by decide +kernel
theorem dX4_keysOfTold_26 : decode cX4_keysOfTold 26 = .ok (.getfield 41, 3) := by decide +kernel
theorem dX4_keysOfTold_29 : decode cX4_keysOfTold 29 = .ok (.aload 4, 2) := by decide +kernel
theorem dX4_keysOfTold_31 : decode cX4_keysOfTold 31 = .ok (.aload_n 0, 1) := by decide +kernel
theorem dX4_keysOfTold_32 : decode cX4_keysOfTold 32 = .ok (.getfield 15, 3) := by decide +kernel
theorem dX4_keysOfTold_35 : decode cX4_keysOfTold 35 = .ok (.aload_n 0, 1) := by decide +kernel
theorem dX4_keysOfTold_36 : decode cX4_keysOfTold 36 = .ok (.getfield 41, 3) := by decide +kernel
theorem dX4_keysOfTold_39 : decode cX4_keysOfTold 39 = .ok (.aload 4, 2) := by decide +kernel
theorem dX4_keysOfTold_41 : decode cX4_keysOfTold 41 = .ok (.invokevirtual 151, 3) := by decide +kernel
theorem dX4_keysOfTold_44 : decode cX4_keysOfTold 44 = .ok (.invokevirtual 154, 3) := by decide +kernel
theorem dX4_keysOfTold_47 : decode cX4_keysOfTold 47 = .ok (.istore 5, 2) := by decide +kernel
theorem dX4_keysOfTold_49 : decode cX4_keysOfTold 49 = .ok (.aload_n 0, 1) := by decide +kernel
theorem dX4_keysOfTold_50 : decode cX4_keysOfTold 50 = .ok (.aload 4, 2) := by decide +kernel
theorem dX4_keysOfTold_52 : decode cX4_keysOfTold 52 = .ok (.invokevirtual 189, 3) := by decide +kernel
theorem dX4_keysOfTold_55 : decode cX4_keysOfTold 55 = .ok (.ifCond .eq 18, 3) := by decide +kernel
theorem dX4_keysOfTold_58 : decode cX4_keysOfTold 58 = .ok (.iload_n 1, 1) := by decide +kernel
theorem dX4_keysOfTold_59 : decode cX4_keysOfTold 59 = .ok (.iload 5, 2) := by decide +kernel
theorem dX4_keysOfTold_61 : decode cX4_keysOfTold 61 = .ok (.iconst (-1), 1) := by decide +kernel
theorem dX4_keysOfTold_62 : decode cX4_keysOfTold 62 = .ok (.ixor, 1) := by decide +kernel
theorem dX4_keysOfTold_63 : decode cX4_keysOfTold 63 = .ok (.iand, 1) := by decide +kernel
theorem dX4_keysOfTold_64 : decode cX4_keysOfTold 64 = .ok (.ifCond .ne 9, 3) := by decide +kernel
theorem dX4_keysOfTold_67 : decode cX4_keysOfTold 67 = .ok (.iload_n 2, 1) := by decide +kernel
theorem dX4_keysOfTold_68 : decode cX4_keysOfTold 68 = .ok (.iconst 1, 1) := by decide +kernel
theorem dX4_keysOfTold_69 : decode cX4_keysOfTold 69 = .ok (.iload_n 3, 1) := by decide +kernel
theorem dX4_keysOfTold_70 : decode cX4_keysOfTold 70 = .ok (.ishl, 1) := by decide +kernel
theorem dX4_keysOfTold_71 : decode cX4_keysOfTold 71 = .ok (.ior, 1) := by decide +kernel
theorem dX4_keysOfTold_72 : decode cX4_keysOfTold 72 = .ok (.istore_n 2, 1) := by decide +kernel
theorem dX4_keysOfTold_73 : decode cX4_keysOfTold 73 = .ok (.iinc 3 1, 3) := by decide +kernel
theorem dX4_keysOfTold_76 : decode cX4_keysOfTold 76 = .ok (.goto (-72), 3) := by decide +kernel
theorem dX4_keysOfTold_79 : decode cX4_keysOfTold 79 = .ok (.iload_n 2, 1) := by decide +kernel
theorem dX4_keysOfTold_80 : decode cX4_keysOfTold 80 = .ok (.ireturn, 1) := by decide +kernel
theorem dX4_canBecomeTold_0 : decode cX4_canBecomeTold 0 = .ok (.iconst 0, 1) := by decide +kernel
theorem dX4_canBecomeTold_1 : decode cX4_canBecomeTold 1 = .ok (.istore_n 2, 1) := by decide +kernel
theorem dX4_canBecomeTold_2 : decode cX4_canBecomeTold 2 = .ok (.iload_n 2, 1) := by decide +kernel
theorem dX4_canBecomeTold_3 : decode cX4_canBecomeTold 3 = .ok (.aload_n 0, 1) := by decide +kernel
theorem dX4_canBecomeTold_4 : decode cX4_canBecomeTold 4 = .ok (.getfield 41, 3) := by decide +kernel
theorem dX4_canBecomeTold_7 : decode cX4_canBecomeTold 7 = .ok (.getfield 66, 3) := by decide +kernel
theorem dX4_canBecomeTold_10 : decode cX4_canBecomeTold 10 = .ok (.if_icmp .ge 50, 3) := by decide +kernel
theorem dX4_canBecomeTold_13 : decode cX4_canBecomeTold 13 = .ok (.aload_n 1, 1) := by decide +kernel
theorem dX4_canBecomeTold_14 : decode cX4_canBecomeTold 14 = .ok (.getfield 84, 3) := by decide +kernel
theorem dX4_canBecomeTold_17 : decode cX4_canBecomeTold 17 = .ok (.iload_n 2, 1) := by decide +kernel
theorem dX4_canBecomeTold_18 : decode cX4_canBecomeTold 18 = .ok (.invokestatic 45, 3) := by decide +kernel
theorem dX4_canBecomeTold_21 : decode cX4_canBecomeTold 21 = .ok (.istore_n 3, 1) := by decide +kernel
theorem dX4_canBecomeTold_22 : decode cX4_canBecomeTold 22 = .ok (.aload_n 0, 1) := by decide +kernel
theorem dX4_canBecomeTold_23 : decode cX4_canBecomeTold 23 = .ok (.getfield 15, 3) := by decide +kernel
theorem dX4_canBecomeTold_26 : decode cX4_canBecomeTold 26 = .ok (.iload_n 2, 1) := by decide +kernel
theorem dX4_canBecomeTold_27 : decode cX4_canBecomeTold 27 = .ok (.invokestatic 45, 3) := by decide +kernel
theorem dX4_canBecomeTold_30 : decode cX4_canBecomeTold 30 = .ok (.istore 4, 2) := by decide +kernel
theorem dX4_canBecomeTold_32 : decode cX4_canBecomeTold 32 = .ok (.iload_n 3, 1) := by decide +kernel
theorem dX4_canBecomeTold_33 : decode cX4_canBecomeTold 33 = .ok (.iload 4, 2) := by decide +kernel
theorem dX4_canBecomeTold_35 : decode cX4_canBecomeTold 35 = .ok (.if_icmp .gt 17, 3) := by decide +kernel
theorem dX4_canBecomeTold_38 : decode cX4_canBecomeTold 38 = .ok (.aload_n 1, 1) := by decide +kernel
theorem dX4_canBecomeTold_39 : decode cX4_canBecomeTold 39 = .ok (.getfield 123, 3) := by decide +kernel
theorem dX4_canBecomeTold_42 : decode cX4_canBecomeTold 42 = .ok (.iconst 4, 1) := by decide +kernel
theorem dX4_canBecomeTold_43 : decode cX4_canBecomeTold 43 = .ok (.if_icmp .ne 11, 3) := by decide +kernel
theorem dX4_canBecomeTold_46 : decode cX4_canBecomeTold 46 = .ok (.iload_n 3, 1) := by decide +kernel
theorem dX4_canBecomeTold_47 : decode cX4_canBecomeTold 47 = .ok (.iload 4, 2) := by decide +kernel
theorem dX4_canBecomeTold_49 : decode cX4_canBecomeTold 49 = .ok (.if_icmp .eq 5, 3) := by decide +kernel
theorem dX4_canBecomeTold_52 : decode cX4_canBecomeTold 52 = .ok (.iconst 0, 1) := by decide +kernel
theorem dX4_canBecomeTold_53 : decode cX4_canBecomeTold 53 = .ok (.ireturn, 1) := by decide +kernel
theorem dX4_canBecomeTold_54 : decode cX4_canBecomeTold 54 = .ok (.iinc 2 1, 3) := by decide +kernel
theorem dX4_canBecomeTold_57 : decode cX4_canBecomeTold 57 = .ok (.goto (-55), 3) := by decide +kernel
theorem dX4_canBecomeTold_60 : decode cX4_canBecomeTold 60 = .ok (.iconst 1, 1) := by decide +kernel
theorem dX4_canBecomeTold_61 : decode cX4_canBecomeTold 61 = .ok (.ireturn, 1) := by decide +kernel
theorem dX5_init_0 : decode cX5_init 0 = .ok (.aload_n 0, 1) := by decide +kernel
theorem dX5_init_1 : decode cX5_init 1 = .ok (.invokespecial 3, 3) := by decide +kernel
theorem dX5_init_4 : decode cX5_init 4 = .ok (.aload_n 0, 1) := by decide +kernel
theorem dX5_init_5 : decode cX5_init 5 = .ok (.new 9, 3) := by decide +kernel
theorem dX5_init_8 : decode cX5_init 8 = .ok (.dup, 1) := by decide +kernel
theorem dX5_init_9 : decode cX5_init 9 = .ok (.invokespecial 11, 3) := by decide +kernel
theorem dX5_init_12 : decode cX5_init 12 = .ok (.putfield 12, 3) := by decide +kernel
theorem dX5_init_15 : decode cX5_init 15 = .ok (.aload_n 0, 1) := by decide +kernel
theorem dX5_init_16 : decode cX5_init 16 = .ok (.new 9, 3) := by decide +kernel
theorem dX5_init_19 : decode cX5_init 19 = .ok (.dup, 1) := by decide +kernel
theorem dX5_init_20 : decode cX5_init 20 = .ok (.invokespecial 11, 3) := by decide +kernel
theorem dX5_init_23 : decode cX5_init 23 = .ok (.putfield 16, 3) := by decide +kernel
theorem dX5_init_26 : decode cX5_init 26 = .ok (.aload_n 0, 1) := by decide +kernel
theorem dX5_init_27 : decode cX5_init 27 = .ok (.new 9, 3) := by decide +kernel
theorem dX5_init_30 : decode cX5_init 30 = .ok (.dup, 1) := by decide +kernel
theorem dX5_init_31 : decode cX5_init 31 = .ok (.invokespecial 11, 3) := by decide +kernel
theorem dX5_init_34 : decode cX5_init 34 = .ok (.putfield 19, 3) := by decide +kernel
theorem dX5_init_37 : decode cX5_init 37 = .ok (.aload_n 0, 1) := by decide +kernel
theorem dX5_init_38 : decode cX5_init 38 = .ok (.new 22, 3) := by decide +kernel
theorem dX5_init_41 : decode cX5_init 41 = .ok (.dup, 1) := by decide +kernel
theorem dX5_init_42 : decode cX5_init 42 = .ok (.aload_n 0, 1) := by decide +kernel
theorem dX5_init_43 : decode cX5_init 43 = .ok (.getfield 12, 3) := by decide +kernel
theorem dX5_init_46 : decode cX5_init 46 = .ok (.invokespecial 24, 3) := by decide +kernel
theorem dX5_init_49 : decode cX5_init 49 = .ok (.putfield 27, 3) := by decide +kernel
theorem dX5_init_52 : decode cX5_init 52 = .ok (.aload_n 0, 1) := by decide +kernel
theorem dX5_init_53 : decode cX5_init 53 = .ok (.new 31, 3) := by decide +kernel
theorem dX5_init_56 : decode cX5_init 56 = .ok (.dup, 1) := by decide +kernel
theorem dX5_init_57 : decode cX5_init 57 = .ok (.invokespecial 33, 3) := by decide +kernel
theorem dX5_init_60 : decode cX5_init 60 = .ok (.putfield 34, 3) := by decide +kernel
theorem dX5_init_63 : decode cX5_init 63 = .ok (.aload_n 0, 1) := by decide +kernel
theorem dX5_init_64 : decode cX5_init 64 = .ok (.bipush 8, 2) := by decide +kernel
theorem dX5_init_66 : decode cX5_init 66 = .ok (.anewarray 38, 3) := by decide +kernel
theorem dX5_init_69 : decode cX5_init 69 = .ok (.putfield 40, 3) := by decide +kernel
theorem dX5_init_72 : decode cX5_init 72 = .ok (.aload_n 0, 1) := by decide +kernel
theorem dX5_init_73 : decode cX5_init 73 = .ok (.new 38, 3) := by decide +kernel
theorem dX5_init_76 : decode cX5_init 76 = .ok (.dup, 1) := by decide +kernel
theorem dX5_init_77 : decode cX5_init 77 = .ok (.invokespecial 44, 3) := by decide +kernel
theorem dX5_init_80 : decode cX5_init 80 = .ok (.putfield 45, 3) := by decide +kernel
theorem dX5_init_83 : decode cX5_init 83 = .ok (.aload_n 0, 1) := by decide +kernel
theorem dX5_init_84 : decode cX5_init 84 = .ok (.iconst 5, 1) := by decide +kernel
theorem dX5_init_85 : decode cX5_init 85 = .ok (.newarray .int, 2) := by decide +kernel
theorem dX5_init_87 : decode cX5_init 87 = .ok (.putfield 49, 3) := by decide +kernel
theorem dX5_init_90 : decode cX5_init 90 = .ok (.aload_n 0, 1) := by decide +kernel
theorem dX5_init_91 : decode cX5_init 91 = .ok (.iconst 0, 1) := by decide +kernel
theorem dX5_init_92 : decode cX5_init 92 = .ok (.putfield 53, 3) := by decide +kernel
theorem dX5_init_95 : decode cX5_init 95 = .ok (.iconst 0, 1) := by decide +kernel
theorem dX5_init_96 : decode cX5_init 96 = .ok (.istore_n 1, 1) := by decide +kernel
theorem dX5_init_97 : decode cX5_init 97 = .ok (.iload_n 1, 1) := by decide +kernel
theorem dX5_init_98 : decode cX5_init 98 = .ok (.bipush 8, 2) := by decide +kernel
theorem dX5_init_100 : decode cX5_init 100 = .ok (.if_icmp .ge 22, 3) := by decide +kernel
theorem dX5_init_103 : decode cX5_init 103 = .ok (.aload_n 0, 1) := by decide +kernel
theorem dX5_init_104 : decode cX5_init 104 = .ok (.getfield 40, 3) := by decide +kernel
theorem dX5_init_107 : decode cX5_init 107 = .ok (.iload_n 1, 1) := by decide +kernel
theorem dX5_init_108 : decode cX5_init 108 = .ok (.new 38, 3) := by decide +kernel
theorem dX5_init_111 : decode cX5_init 111 = .ok (.dup, 1) := by decide +kernel
theorem dX5_init_112 : decode cX5_init 112 = .ok (.invokespecial 44, 3) := by decide +kernel
theorem dX5_init_115 : decode cX5_init 115 = .ok (.aastore, 1) := by decide +kernel
theorem dX5_init_116 : decode cX5_init 116 = .ok (.iinc 1 1, 3) := by decide +kernel
theorem dX5_init_119 : decode cX5_init 119 = .ok (.goto (-22), 3) := by decide +kernel
theorem dX5_init_122 : decode cX5_init 122 = .ok (.return_, 1) := by decide +kernel
theorem dX5_row_0 : decode cX5_row 0 = .ok (.aload_n 0, 1) := by decide +kernel
theorem dX5_row_1 : decode cX5_row 1 = .ok (.iload_n 1, 1) := by decide +kernel
theorem dX5_row_2 : decode cX5_row 2 = .ok (.invokevirtual 57, 3) := by decide +kernel
theorem dX5_row_5 : decode cX5_row 5 = .ok (.ifCond .eq 22, 3) := by decide +kernel
theorem dX5_row_8 : decode cX5_row 8 = .ok (.iload_n 2, 1) := by decide +kernel
theorem dX5_row_9 : decode cX5_row 9 = .ok (.iconst 0, 1) := by decide +kernel
theorem dX5_row_10 : decode cX5_row 10 = .ok (.iconst 4, 1) := by decide +kernel
theorem dX5_row_11 : decode cX5_row 11 = .ok (.invokestatic 61, 3) := by decide +kernel
theorem dX5_row_14 : decode cX5_row 14 = .ok (.ifCond .eq 13, 3) := by decide +kernel
theorem dX5_row_17 : decode cX5_row 17 = .ok (.iload_n 3, 1) := by decide +kernel
theorem dX5_row_18 : decode cX5_row 18 = .ok (.iconst 0, 1) := by decide +kernel
theorem dX5_row_19 : decode cX5_row 19 = .ok (.bipush 40, 2) := by decide +kernel
theorem dX5_row_21 : decode cX5_row 21 = .ok (.invokestatic 61, 3) := by decide +kernel
theorem dX5_row_24 : decode cX5_row 24 = .ok (.ifCond .ne 10, 3) := by decide +kernel
theorem dX5_row_27 : decode cX5_row 27 = .ok (.aload_n 0, 1) := by decide +kernel
theorem dX5_row_28 : decode cX5_row 28 = .ok (.bipush (-2), 2) := by decide +kernel
theorem dX5_row_30 : decode cX5_row 30 = .ok (.invokevirtual 65, 3) := by decide +kernel
theorem dX5_row_33 : decode cX5_row 33 = .ok (.ireturn, 1) := by decide +kernel
theorem dX5_row_34 : decode cX5_row 34 = .ok (.aload_n 0, 1) := by decide +kernel
theorem dX5_row_35 : decode cX5_row 35 = .ok (.iload_n 1, 1) := by decide +kernel
theorem dX5_row_36 : decode cX5_row 36 = .ok (.invokevirtual 69, 3) := by decide +kernel
theorem dX5_row_39 : decode cX5_row 39 = .ok (.iload_n 2, 1) := by decide +kernel
theorem dX5_row_40 : decode cX5_row 40 = .ok (.iload_n 3, 1) := by decide +kernel
theorem dX5_row_41 : decode cX5_row 41 = .ok (.invokevirtual 73, 3) := by decide +kernel
theorem dX5_row_44 : decode cX5_row 44 = .ok (.iconst 1, 1) := by decide +kernel
theorem dX5_row_45 : decode cX5_row 45 = .ok (.ireturn, 1) := by decide +kernel
theorem dX5_set_0 : decode cX5_set 0 = .ok (.aload_n 0, 1) := by decide +kernel
theorem dX5_set_1 : decode cX5_set 1 = .ok (.iload_n 1, 1) := by decide +kernel
theorem dX5_set_2 : decode cX5_set 2 = .ok (.invokevirtual 57, 3) := by decide +kernel
theorem dX5_set_5 : decode cX5_set 5 = .ok (.ifCond .ne 10, 3) := by decide +kernel
theorem dX5_set_8 : decode cX5_set 8 = .ok (.aload_n 0, 1) := by decide +kernel
theorem dX5_set_9 : decode cX5_set 9 = .ok (.bipush (-2), 2) := by decide +kernel
theorem dX5_set_11 : decode cX5_set 11 = .ok (.invokevirtual 65, 3) := by decide +kernel
theorem dX5_set_14 : decode cX5_set 14 = .ok (.ireturn, 1) := by decide +kernel
theorem dX5_set_15 : decode cX5_set 15 = .ok (.aload_n 0, 1) := by decide +kernel
theorem dX5_set_16 : decode cX5_set 16 = .ok (.iload_n 1, 1) := by decide +kernel
theorem dX5_set_17 : decode cX5_set 17 = .ok (.invokevirtual 69, 3) := by decide +kernel
theorem dX5_set_20 : decode cX5_set 20 = .ok (.astore 5, 2) := by decide +kernel
theorem dX5_set_22 : decode cX5_set 22 = .ok (.aload 5, 2) := by decide +kernel
theorem dX5_set_24 : decode cX5_set 24 = .ok (.invokevirtual 77, 3) := by decide +kernel
theorem dX5_set_27 : decode cX5_set 27 = .ok (.ifCond .ne 13, 3) := by decide +kernel
theorem dX5_set_30 : decode cX5_set 30 = .ok (.aload_n 0, 1) := by decide +kernel
theorem dX5_set_31 : decode cX5_set 31 = .ok (.aload 5, 2) := by decide +kernel
theorem dX5_set_33 : decode cX5_set 33 = .ok (.invokevirtual 81, 3) := by decide +kernel
theorem dX5_set_36 : decode cX5_set 36 = .ok (.invokevirtual 65, 3) := by decide +kernel
theorem dX5_set_39 : decode cX5_set 39 = .ok (.ireturn, 1) := by decide +kernel
theorem dX5_set_40 : decode cX5_set 40 = .ok (.iload_n 2, 1) := by decide +kernel
theorem dX5_set_41 : decode cX5_set 41 = .ok (.iconst 0, 1) := by decide +kernel
theorem dX5_set_42 : decode cX5_set 42 = .ok (.aload 5, 2) := by decide +kernel
theorem dX5_set_44 : decode cX5_set 44 = .ok (.getfield 85, 3) := by decide +kernel
theorem dX5_set_47 : decode cX5_set 47 = .ok (.iconst 1, 1) := by decide +kernel
theorem dX5_set_48 : decode cX5_set 48 = .ok (.isub, 1) := by decide +kernel
theorem dX5_set_49 : decode cX5_set 49 = .ok (.invokestatic 61, 3) := by decide +kernel
theorem dX5_set_52 : decode cX5_set 52 = .ok (.ifCond .ne 10, 3) := by decide +kernel
theorem dX5_set_55 : decode cX5_set 55 = .ok (.aload_n 0, 1) := by decide +kernel
theorem dX5_set_56 : decode cX5_set 56 = .ok (.bipush (-2), 2) := by decide +kernel
theorem dX5_set_58 : decode cX5_set 58 = .ok (.invokevirtual 65, 3) := by decide +kernel
theorem dX5_set_61 : decode cX5_set 61 = .ok (.ireturn, 1) := by decide +kernel
theorem dX5_set_62 : decode cX5_set 62 = .ok (.aload 5, 2) := by decide +kernel
theorem dX5_set_64 : decode cX5_set 64 = .ok (.iload_n 2, 1) := by decide +kernel
theorem dX5_set_65 : decode cX5_set 65 = .ok (.lload_n 3, 1) := by decide +kernel
theorem dX5_set_66 : decode cX5_set 66 = .ok (.invokevirtual 89, 3) := by decide +kernel
theorem dX5_set_69 : decode cX5_set 69 = .ok (.iconst 1, 1) := by decide +kernel
theorem dX5_set_70 : decode cX5_set 70 = .ok (.ireturn, 1) := by decide +kernel
theorem dX5_copy_0 : decode cX5_copy 0 = .ok (.aload_n 0, 1) := by decide +kernel
theorem dX5_copy_1 : decode cX5_copy 1 = .ok (.iload_n 1, 1) := by decide +kernel
theorem dX5_copy_2 : decode cX5_copy 2 = .ok (.invokevirtual 57, 3) := by decide +kernel
theorem dX5_copy_5 : decode cX5_copy 5 = .ok (.ifCond .eq 11, 3) := by decide +kernel
theorem dX5_copy_8 : decode cX5_copy 8 = .ok (.aload_n 0, 1) := by decide +kernel
theorem dX5_copy_9 : decode cX5_copy 9 = .ok (.iload_n 2, 1) := by decide +kernel
theorem dX5_copy_10 : decode cX5_copy 10 = .ok (.invokevirtual 57, 3) := by decide +kernel
theorem dX5_copy_13 : decode cX5_copy 13 = .ok (.ifCond .ne 10, 3) := by decide +kernel
theorem dX5_copy_16 : decode cX5_copy 16 = .ok (.aload_n 0, 1) := by decide +kernel
theorem dX5_copy_17 : decode cX5_copy 17 = .ok (.bipush (-2), 2) := by decide +kernel
theorem dX5_copy_19 : decode cX5_copy 19 = .ok (.invokevirtual 65, 3) := by decide +kernel
theorem dX5_copy_22 : decode cX5_copy 22 = .ok (.ireturn, 1) := by decide +kernel
theorem dX5_copy_23 : decode cX5_copy 23 = .ok (.aload_n 0, 1) := by decide +kernel
theorem dX5_copy_24 : decode cX5_copy 24 = .ok (.iload_n 1, 1) := by decide +kernel
theorem dX5_copy_25 : decode cX5_copy 25 = .ok (.invokevirtual 69, 3) := by decide +kernel
theorem dX5_copy_28 : decode cX5_copy 28 = .ok (.astore 6, 2) := by decide +kernel
theorem dX5_copy_30 : decode cX5_copy 30 = .ok (.aload_n 0, 1) := by decide +kernel
theorem dX5_copy_31 : decode cX5_copy 31 = .ok (.iload_n 2, 1) := by decide +kernel
theorem dX5_copy_32 : decode cX5_copy 32 = .ok (.invokevirtual 69, 3) := by decide +kernel
theorem dX5_copy_35 : decode cX5_copy 35 = .ok (.astore 7, 2) := by decide +kernel
theorem dX5_copy_37 : decode cX5_copy 37 = .ok (.aload 6, 2) := by decide +kernel
theorem dX5_copy_39 : decode cX5_copy 39 = .ok (.invokevirtual 93, 3) := by decide +kernel
theorem dX5_copy_42 : decode cX5_copy 42 = .ok (.ifCond .ne 11, 3) := by decide +kernel
theorem dX5_copy_45 : decode cX5_copy 45 = .ok (.aload 7, 2) := by decide +kernel
theorem dX5_copy_47 : decode cX5_copy 47 = .ok (.invokevirtual 93, 3) := by decide +kernel
theorem dX5_copy_50 : decode cX5_copy 50 = .ok (.ifCond .eq 10, 3) := by decide +kernel
theorem dX5_copy_53 : decode cX5_copy 53 = .ok (.aload_n 0, 1) := by decide +kernel
theorem dX5_copy_54 : decode cX5_copy 54 = .ok (.bipush (-3), 2) := by decide +kernel
theorem dX5_copy_56 : decode cX5_copy 56 = .ok (.invokevirtual 65, 3) := by decide +kernel
theorem dX5_copy_59 : decode cX5_copy 59 = .ok (.ireturn, 1) := by decide +kernel
theorem dX5_copy_60 : decode cX5_copy 60 = .ok (.aload 6, 2) := by decide +kernel
theorem dX5_copy_62 : decode cX5_copy 62 = .ok (.invokevirtual 77, 3) := by decide +kernel
theorem dX5_copy_65 : decode cX5_copy 65 = .ok (.ifCond .eq 11, 3) := by decide +kernel
theorem dX5_copy_68 : decode cX5_copy 68 = .ok (.aload 7, 2) := by decide +kernel
theorem dX5_copy_70 : decode cX5_copy 70 = .ok (.invokevirtual 77, 3) := by decide +kernel
theorem dX5_copy_73 : decode cX5_copy 73 = .ok (.ifCond .ne 10, 3) := by decide +kernel
theorem dX5_copy_76 : decode cX5_copy 76 = .ok (.aload_n 0, 1) := by decide +kernel
theorem dX5_copy_77 : decode cX5_copy 77 = .ok (.bipush (-4), 2) := by decide +kernel
theorem dX5_copy_79 : decode cX5_copy 79 = .ok (.invokevirtual 65, 3) := by decide +kernel
theorem dX5_copy_82 : decode cX5_copy 82 = .ok (.ireturn, 1) := by decide +kernel
theorem dX5_copy_83 : decode cX5_copy 83 = .ok (.aload 6, 2) := by decide +kernel
theorem dX5_copy_85 : decode cX5_copy 85 = .ok (.getfield 96, 3) := by decide +kernel
theorem dX5_copy_88 : decode cX5_copy 88 = .ok (.aload 7, 2) := by decide +kernel
theorem dX5_copy_90 : decode cX5_copy 90 = .ok (.getfield 96, 3) := by decide +kernel
theorem dX5_copy_93 : decode cX5_copy 93 = .ok (.if_icmp .eq 10, 3) := by decide +kernel
theorem dX5_copy_96 : decode cX5_copy 96 = .ok (.aload_n 0, 1) := by decide +kernel
theorem dX5_copy_97 : decode cX5_copy 97 = .ok (.bipush (-3), 2) := by decide +kernel
theorem dX5_copy_99 : decode cX5_copy 99 = .ok (.invokevirtual 65, 3) := by decide +kernel
theorem dX5_copy_102 : decode cX5_copy 102 = .ok (.ireturn, 1) := by decide +kernel
theorem dX5_copy_103 : decode cX5_copy 103 = .ok (.aload 6, 2) := by decide +kernel
theorem dX5_copy_105 : decode cX5_copy 105 = .ok (.iload_n 3, 1) := by decide +kernel
theorem dX5_copy_106 : decode cX5_copy 106 = .ok (.iload 5, 2) := by decide +kernel
theorem dX5_copy_108 : decode cX5_copy 108 = .ok (.invokevirtual 99, 3) := by decide +kernel
theorem dX5_copy_111 : decode cX5_copy 111 = .ok (.ifCond .eq 15, 3) := by decide +kernel
theorem dX5_copy_114 : decode cX5_copy 114 = .ok (.aload 7, 2) := by decide +kernel
theorem dX5_copy_116 : decode cX5_copy 116 = .ok (.iload 4, 2) := by decide +kernel
theorem dX5_copy_118 : decode cX5_copy 118 = .ok (.iload 5, 2) := by decide +kernel
theorem dX5_copy_120 : decode cX5_copy 120 = .ok (.invokevirtual 99, 3) := by decide +kernel
theorem dX5_copy_123 : decode cX5_copy 123 = .ok (.ifCond .ne 10, 3) := by decide +kernel
theorem dX5_copy_126 : decode cX5_copy 126 = .ok (.aload_n 0, 1) := by decide +kernel
theorem dX5_copy_127 : decode cX5_copy 127 = .ok (.bipush (-2), 2) := by decide +kernel
theorem dX5_copy_129 : decode cX5_copy 129 = .ok (.invokevirtual 65, 3) := by decide +kernel
theorem dX5_copy_132 : decode cX5_copy 132 = .ok (.ireturn, 1) := by decide +kernel
theorem dX5_copy_133 : decode cX5_copy 133 = .ok (.aload 6, 2) := by decide +kernel
theorem dX5_copy_135 : decode cX5_copy 135 = .ok (.getfield 103, 3) := by decide +kernel
theorem dX5_copy_138 : decode cX5_copy 138 = .ok (.iload_n 3, 1) := by decide +kernel
theorem dX5_copy_139 : decode cX5_copy 139 = .ok (.aload 7, 2) := by decide +kernel
theorem dX5_copy_141 : decode cX5_copy 141 = .ok (.getfield 103, 3) := by decide +kernel
theorem dX5_copy_144 : decode cX5_copy 144 = .ok (.iload 4, 2) := by decide +kernel
theorem dX5_copy_146 : decode cX5_copy 146 = .ok (.iload 5, 2) := by decide +kernel
theorem dX5_copy_148 : decode cX5_copy 148 = .ok (.invokestatic 107, 3) := by decide +kernel
theorem dX5_copy_151 : decode cX5_copy 151 = .ok (.iload 5, 2) := by decide +kernel
theorem dX5_copy_153 : decode cX5_copy 153 = .ok (.ireturn, 1) := by decide +kernel
theorem dX5_element_0 : decode cX5_element 0 = .ok (.aload_n 0, 1) := by decide +kernel
theorem dX5_element_1 : decode cX5_element 1 = .ok (.iload_n 1, 1) := by decide +kernel
theorem dX5_element_2 : decode cX5_element 2 = .ok (.invokevirtual 69, 3) := by decide +kernel
theorem dX5_element_5 : decode cX5_element 5 = .ok (.iload_n 2, 1) := by decide +kernel
theorem dX5_element_6 : decode cX5_element 6 = .ok (.invokevirtual 113, 3) := by decide +kernel
theorem dX5_element_9 : decode cX5_element 9 = .ok (.lreturn, 1) := by decide +kernel
theorem dX5_holds_0 : decode cX5_holds 0 = .ok (.aload_n 0, 1) := by decide +kernel
theorem dX5_holds_1 : decode cX5_holds 1 = .ok (.iload_n 1, 1) := by decide +kernel
theorem dX5_holds_2 : decode cX5_holds 2 = .ok (.invokevirtual 69, 3) := by decide +kernel
theorem dX5_holds_5 : decode cX5_holds 5 = .ok (.getfield 96, 3) := by decide +kernel
theorem dX5_holds_8 : decode cX5_holds 8 = .ok (.ireturn, 1) := by decide +kernel
theorem dX5_show_0 : decode cX5_show 0 = .ok (.aload_n 0, 1) := by decide +kernel
theorem dX5_show_1 : decode cX5_show 1 = .ok (.iload_n 1, 1) := by decide +kernel
theorem dX5_show_2 : decode cX5_show 2 = .ok (.invokevirtual 57, 3) := by decide +kernel
theorem dX5_show_5 : decode cX5_show 5 = .ok (.ifCond .eq 16, 3) := by decide +kernel
theorem dX5_show_8 : decode cX5_show 8 = .ok (.iload_n 2, 1) := by decide +kernel
theorem dX5_show_9 : decode cX5_show 9 = .ok (.iconst (-1), 1) := by decide +kernel
theorem dX5_show_10 : decode cX5_show 10 = .ok (.if_icmp .eq 18, 3) := by decide +kernel
theorem dX5_show_13 : decode cX5_show 13 = .ok (.aload_n 0, 1) := by decide +kernel
theorem dX5_show_14 : decode cX5_show 14 = .ok (.iload_n 2, 1) := by decide +kernel
theorem dX5_show_15 : decode cX5_show 15 = .ok (.invokevirtual 117, 3) := by decide +kernel
theorem dX5_show_18 : decode cX5_show 18 = .ok (.ifCond .ne 10, 3) := by decide +kernel
theorem dX5_show_21 : decode cX5_show 21 = .ok (.aload_n 0, 1) := by decide +kernel
theorem dX5_show_22 : decode cX5_show 22 = .ok (.bipush (-2), 2) := by decide +kernel
theorem dX5_show_24 : decode cX5_show 24 = .ok (.invokevirtual 65, 3) := by decide +kernel
theorem dX5_show_27 : decode cX5_show 27 = .ok (.ireturn, 1) := by decide +kernel
theorem dX5_show_28 : decode cX5_show 28 = .ok (.aload_n 0, 1) := by decide +kernel
theorem dX5_show_29 : decode cX5_show 29 = .ok (.iload_n 1, 1) := by decide +kernel
theorem dX5_show_30 : decode cX5_show 30 = .ok (.invokevirtual 69, 3) := by decide +kernel
theorem dX5_show_33 : decode cX5_show 33 = .ok (.iload_n 2, 1) := by decide +kernel
theorem dX5_show_34 : decode cX5_show 34 = .ok (.iconst (-1), 1) := by decide +kernel
theorem dX5_show_35 : decode cX5_show 35 = .ok (.if_icmp .ne 7, 3) := by decide +kernel
theorem dX5_show_38 : decode cX5_show 38 = .ok (.iconst (-1), 1) := by decide +kernel
theorem dX5_show_39 : decode cX5_show 39 = .ok (.goto 7, 3) := by decide +kernel
theorem dX5_show_42 : decode cX5_show 42 = .ok (.bipush 10, 2) := by decide +kernel
theorem dX5_show_44 : decode cX5_show 44 = .ok (.iload_n 2, 1) := by decide +kernel
theorem dX5_show_45 : decode cX5_show 45 = .ok (.iadd, 1) := by decide +kernel
theorem dX5_show_46 : decode cX5_show 46 = .ok (.putfield 96, 3) := by decide +kernel
theorem dX5_show_49 : decode cX5_show 49 = .ok (.iconst 1, 1) := by decide +kernel
theorem dX5_show_50 : decode cX5_show 50 = .ok (.ireturn, 1) := by decide +kernel
theorem dX5_says_0 : decode cX5_says 0 = .ok (.aload_n 0, 1) := by decide +kernel
theorem dX5_says_1 : decode cX5_says 1 = .ok (.iload_n 1, 1) := by decide +kernel
theorem dX5_says_2 : decode cX5_says 2 = .ok (.invokevirtual 57, 3) := by decide +kernel
theorem dX5_says_5 : decode cX5_says 5 = .ok (.ifCond .eq 12, 3) := by decide +kernel
theorem dX5_says_8 : decode cX5_says 8 = .ok (.iload_n 2, 1) := by decide +kernel
theorem dX5_says_9 : decode cX5_says 9 = .ok (.iconst 0, 1) := by decide +kernel
theorem dX5_says_10 : decode cX5_says 10 = .ok (.iconst 5, 1) := by decide +kernel
theorem dX5_says_11 : decode cX5_says 11 = .ok (.invokestatic 61, 3) := by decide +kernel
theorem dX5_says_14 : decode cX5_says 14 = .ok (.ifCond .ne 10, 3) := by decide +kernel
theorem dX5_says_17 : decode cX5_says 17 = .ok (.aload_n 0, 1) := by decide +kernel
theorem dX5_says_18 : decode cX5_says 18 = .ok (.bipush (-2), 2) := by decide +kernel
theorem dX5_says_20 : decode cX5_says 20 = .ok (.invokevirtual 65, 3) := by decide +kernel
theorem dX5_says_23 : decode cX5_says 23 = .ok (.ireturn, 1) := by decide +kernel
theorem dX5_says_24 : decode cX5_says 24 = .ok (.aload_n 0, 1) := by decide +kernel
theorem dX5_says_25 : decode cX5_says 25 = .ok (.iload_n 1, 1) := by decide +kernel
theorem dX5_says_26 : decode cX5_says 26 = .ok (.invokevirtual 69, 3) := by decide +kernel
theorem dX5_says_29 : decode cX5_says 29 = .ok (.astore_n 3, 1) := by decide +kernel
theorem dX5_says_30 : decode cX5_says 30 = .ok (.aload_n 3, 1) := by decide +kernel
theorem dX5_says_31 : decode cX5_says 31 = .ok (.invokevirtual 77, 3) := by decide +kernel
theorem dX5_says_34 : decode cX5_says 34 = .ok (.ifCond .eq 10, 3) := by decide +kernel
theorem dX5_says_37 : decode cX5_says 37 = .ok (.aload_n 0, 1) := by decide +kernel
theorem dX5_says_38 : decode cX5_says 38 = .ok (.bipush (-3), 2) := by decide +kernel
theorem dX5_says_40 : decode cX5_says 40 = .ok (.invokevirtual 65, 3) := by decide +kernel
theorem dX5_says_43 : decode cX5_says 43 = .ok (.ireturn, 1) := by decide +kernel
theorem dX5_says_44 : decode cX5_says 44 = .ok (.aload_n 3, 1) := by decide +kernel
theorem dX5_says_45 : decode cX5_says 45 = .ok (.invokevirtual 93, 3) := by decide +kernel
theorem dX5_says_48 : decode cX5_says 48 = .ok (.ifCond .ne 10, 3) := by decide +kernel
theorem dX5_says_51 : decode cX5_says 51 = .ok (.aload_n 0, 1) := by decide +kernel
theorem dX5_says_52 : decode cX5_says 52 = .ok (.bipush (-4), 2) := by decide +kernel
theorem dX5_says_54 : decode cX5_says 54 = .ok (.invokevirtual 65, 3) := by decide +kernel
theorem dX5_says_57 : decode cX5_says 57 = .ok (.ireturn, 1) := by decide +kernel
theorem dX5_says_58 : decode cX5_says 58 = .ok (.aload_n 3, 1) := by decide +kernel
theorem dX5_says_59 : decode cX5_says 59 = .ok (.getfield 96, 3) := by decide +kernel
theorem dX5_says_62 : decode cX5_says 62 = .ok (.bipush 10, 2) := by decide +kernel
theorem dX5_says_64 : decode cX5_says 64 = .ok (.isub, 1) := by decide +kernel
theorem dX5_says_65 : decode cX5_says 65 = .ok (.istore 4, 2) := by decide +kernel
theorem dX5_says_67 : decode cX5_says 67 = .ok (.aload_n 0, 1) := by decide +kernel
theorem dX5_says_68 : decode cX5_says 68 = .ok (.getfield 12, 3) := by decide +kernel
theorem dX5_says_71 : decode cX5_says 71 = .ok (.iload 4, 2) := by decide +kernel
theorem dX5_says_73 : decode cX5_says 73 = .ok (.invokevirtual 119, 3) := by decide +kernel
theorem dX5_says_76 : decode cX5_says 76 = .ok (.iload_n 2, 1) := by decide +kernel
theorem dX5_says_77 : decode cX5_says 77 = .ok (.invokevirtual 123, 3) := by decide +kernel
theorem dX5_says_80 : decode cX5_says 80 = .ok (.ifCond .ne 10, 3) := by decide +kernel
theorem dX5_says_83 : decode cX5_says 83 = .ok (.aload_n 0, 1) := by decide +kernel
theorem dX5_says_84 : decode cX5_says 84 = .ok (.bipush (-3), 2) := by decide +kernel
theorem dX5_says_86 : decode cX5_says 86 = .ok (.invokevirtual 65, 3) := by decide +kernel
theorem dX5_says_89 : decode cX5_says 89 = .ok (.ireturn, 1) := by decide +kernel
theorem dX5_says_90 : decode cX5_says 90 = .ok (.aload_n 0, 1) := by decide +kernel
theorem dX5_says_91 : decode cX5_says 91 = .ok (.iload 4, 2) := by decide +kernel
theorem dX5_says_93 : decode cX5_says 93 = .ok (.iload_n 2, 1) := by decide +kernel
theorem dX5_says_94 : decode cX5_says 94 = .ok (.invokevirtual 128, 3) := by decide +kernel
theorem dX5_says_97 : decode cX5_says 97 = .ok (.ireturn, 1) := by decide +kernel
theorem dX5_ask_0 : decode cX5_ask 0 = .ok (.iload_n 1, 1) := by decide +kernel
theorem dX5_ask_1 : decode cX5_ask 1 = .ok (.tableswitch 45 0 2 #[27, 33, 39], 27) := by decide +kernel
theorem dX5_ask_28 : decode cX5_ask 28 = .ok (.aload_n 0, 1) := by decide +kernel
theorem dX5_ask_29 : decode cX5_ask 29 = .ok (.iload_n 2, 1) := by decide +kernel
theorem dX5_ask_30 : decode cX5_ask 30 = .ok (.invokevirtual 132, 3) := by decide +kernel
theorem dX5_ask_33 : decode cX5_ask 33 = .ok (.ireturn, 1) := by decide +kernel
theorem dX5_ask_34 : decode cX5_ask 34 = .ok (.aload_n 0, 1) := by decide +kernel
theorem dX5_ask_35 : decode cX5_ask 35 = .ok (.iload_n 2, 1) := by decide +kernel
theorem dX5_ask_36 : decode cX5_ask 36 = .ok (.invokevirtual 135, 3) := by decide +kernel
theorem dX5_ask_39 : decode cX5_ask 39 = .ok (.ireturn, 1) := by decide +kernel
theorem dX5_ask_40 : decode cX5_ask 40 = .ok (.aload_n 0, 1) := by decide +kernel
theorem dX5_ask_41 : decode cX5_ask 41 = .ok (.iload_n 2, 1) := by decide +kernel
theorem dX5_ask_42 : decode cX5_ask 42 = .ok (.invokevirtual 138, 3) := by decide +kernel
theorem dX5_ask_45 : decode cX5_ask 45 = .ok (.ireturn, 1) := by decide +kernel
theorem dX5_ask_46 : decode cX5_ask 46 = .ok (.aload_n 0, 1) := by decide +kernel
theorem dX5_ask_47 : decode cX5_ask 47 = .ok (.bipush (-2), 2) := by decide +kernel
theorem dX5_ask_49 : decode cX5_ask 49 = .ok (.invokevirtual 65, 3) := by decide +kernel
theorem dX5_ask_52 : decode cX5_ask 52 = .ok (.ireturn, 1) := by decide +kernel
theorem dX5_key_0 : decode cX5_key 0 = .ok (.iload_n 1, 1) := by decide +kernel
theorem dX5_key_1 : decode cX5_key 1 = .ok (.iconst 0, 1) := by decide +kernel
theorem dX5_key_2 : decode cX5_key 2 = .ok (.iconst 5, 1) := by decide +kernel
theorem dX5_key_3 : decode cX5_key 3 = .ok (.invokestatic 61, 3) := by decide +kernel
theorem dX5_key_6 : decode cX5_key 6 = .ok (.ifCond .eq 13, 3) := by decide +kernel
theorem dX5_key_9 : decode cX5_key 9 = .ok (.iload_n 2, 1) := by decide +kernel
theorem dX5_key_10 : decode cX5_key 10 = .ok (.iconst 0, 1) := by decide +kernel
theorem dX5_key_11 : decode cX5_key 11 = .ok (.bipush 9, 2) := by decide +kernel
theorem dX5_key_13 : decode cX5_key 13 = .ok (.invokestatic 61, 3) := by decide +kernel
theorem dX5_key_16 : decode cX5_key 16 = .ok (.ifCond .ne 10, 3) := by decide +kernel
theorem dX5_key_19 : decode cX5_key 19 = .ok (.aload_n 0, 1) := by decide +kernel
theorem dX5_key_20 : decode cX5_key 20 = .ok (.bipush (-2), 2) := by decide +kernel
theorem dX5_key_22 : decode cX5_key 22 = .ok (.invokevirtual 65, 3) := by decide +kernel
theorem dX5_key_25 : decode cX5_key 25 = .ok (.ireturn, 1) := by decide +kernel
theorem dX5_key_26 : decode cX5_key 26 = .ok (.aload_n 0, 1) := by decide +kernel
theorem dX5_key_27 : decode cX5_key 27 = .ok (.getfield 12, 3) := by decide +kernel
theorem dX5_key_30 : decode cX5_key 30 = .ok (.iload_n 1, 1) := by decide +kernel
theorem dX5_key_31 : decode cX5_key 31 = .ok (.iload_n 2, 1) := by decide +kernel
theorem dX5_key_32 : decode cX5_key 32 = .ok (.invokevirtual 141, 3) := by decide +kernel
theorem dX5_key_35 : decode cX5_key 35 = .ok (.istore_n 3, 1) := by decide +kernel
theorem dX5_key_36 : decode cX5_key 36 = .ok (.iload_n 3, 1) := by decide +kernel
theorem dX5_key_37 : decode cX5_key 37 = .ok (.iconst (-1), 1) := by decide +kernel
theorem dX5_key_38 : decode cX5_key 38 = .ok (.if_icmp .ne 12, 3) := by decide +kernel
theorem dX5_key_41 : decode cX5_key 41 = .ok (.aload_n 0, 1) := by decide +kernel
theorem dX5_key_42 : decode cX5_key 42 = .ok (.bipush (-6), 2) := by decide +kernel
theorem dX5_key_44 : decode cX5_key 44 = .ok (.invokevirtual 65, 3) := by decide +kernel
theorem dX5_key_47 : decode cX5_key 47 = .ok (.goto 4, 3) := by decide +kernel
theorem dX5_key_50 : decode cX5_key 50 = .ok (.iload_n 3, 1) := by decide +kernel
theorem dX5_key_51 : decode cX5_key 51 = .ok (.ireturn, 1) := by decide +kernel
theorem dX5_lock_0 : decode cX5_lock 0 = .ok (.aload_n 0, 1) := by decide +kernel
theorem dX5_lock_1 : decode cX5_lock 1 = .ok (.getfield 12, 3) := by decide +kernel
theorem dX5_lock_4 : decode cX5_lock 4 = .ok (.iload_n 1, 1) := by decide +kernel
theorem dX5_lock_5 : decode cX5_lock 5 = .ok (.invokevirtual 144, 3) := by decide +kernel
theorem dX5_lock_8 : decode cX5_lock 8 = .ok (.istore_n 2, 1) := by decide +kernel
theorem dX5_lock_9 : decode cX5_lock 9 = .ok (.iload_n 2, 1) := by decide +kernel
theorem dX5_lock_10 : decode cX5_lock 10 = .ok (.iconst (-1), 1) := by decide +kernel
theorem dX5_lock_11 : decode cX5_lock 11 = .ok (.if_icmp .ne 12, 3) := by decide +kernel
theorem dX5_lock_14 : decode cX5_lock 14 = .ok (.aload_n 0, 1) := by decide +kernel
theorem dX5_lock_15 : decode cX5_lock 15 = .ok (.bipush (-6), 2) := by decide +kernel
theorem dX5_lock_17 : decode cX5_lock 17 = .ok (.invokevirtual 65, 3) := by decide +kernel
theorem dX5_lock_20 : decode cX5_lock 20 = .ok (.goto 4, 3) := by decide +kernel
theorem dX5_lock_23 : decode cX5_lock 23 = .ok (.iload_n 2, 1) := by decide +kernel
theorem dX5_lock_24 : decode cX5_lock 24 = .ok (.ireturn, 1) := by decide +kernel
theorem dX5_asks_0 : decode cX5_asks 0 = .ok (.aload_n 0, 1) := by decide +kernel
theorem dX5_asks_1 : decode cX5_asks 1 = .ok (.iload_n 1, 1) := by decide +kernel
theorem dX5_asks_2 : decode cX5_asks 2 = .ok (.invokevirtual 148, 3) := by decide +kernel
theorem dX5_asks_5 : decode cX5_asks 5 = .ok (.ifCond .eq 26, 3) := by decide +kernel
theorem dX5_asks_8 : decode cX5_asks 8 = .ok (.aload_n 0, 1) := by decide +kernel
theorem dX5_asks_9 : decode cX5_asks 9 = .ok (.iload_n 2, 1) := by decide +kernel
theorem dX5_asks_10 : decode cX5_asks 10 = .ok (.invokevirtual 151, 3) := by decide +kernel
theorem dX5_asks_13 : decode cX5_asks 13 = .ok (.ifCond .eq 18, 3) := by decide +kernel
theorem dX5_asks_16 : decode cX5_asks 16 = .ok (.iload_n 3, 1) := by decide +kernel
theorem dX5_asks_17 : decode cX5_asks 17 = .ok (.iconst 0, 1) := by decide +kernel
theorem dX5_asks_18 : decode cX5_asks 18 = .ok (.aload_n 0, 1) := by decide +kernel
theorem dX5_asks_19 : decode cX5_asks 19 = .ok (.getfield 12, 3) := by decide +kernel
theorem dX5_asks_22 : decode cX5_asks 22 = .ok (.getfield 154, 3) := by decide +kernel
theorem dX5_asks_25 : decode cX5_asks 25 = .ok (.invokestatic 61, 3) := by decide +kernel
theorem dX5_asks_28 : decode cX5_asks 28 = .ok (.ifCond .ne 10, 3) := by decide +kernel
theorem dX5_asks_31 : decode cX5_asks 31 = .ok (.aload_n 0, 1) := by decide +kernel
theorem dX5_asks_32 : decode cX5_asks 32 = .ok (.bipush (-2), 2) := by decide +kernel
theorem dX5_asks_34 : decode cX5_asks 34 = .ok (.invokevirtual 65, 3) := by decide +kernel
theorem dX5_asks_37 : decode cX5_asks 37 = .ok (.ireturn, 1) := by decide +kernel
theorem dX5_asks_38 : decode cX5_asks 38 = .ok (.aload_n 0, 1) := by decide +kernel
theorem dX5_asks_39 : decode cX5_asks 39 = .ok (.getfield 12, 3) := by decide +kernel
theorem dX5_asks_42 : decode cX5_asks 42 = .ok (.iload_n 1, 1) := by decide +kernel
theorem dX5_asks_43 : decode cX5_asks 43 = .ok (.iload_n 2, 1) := by decide +kernel
theorem dX5_asks_44 : decode cX5_asks 44 = .ok (.invokevirtual 157, 3) := by decide +kernel
theorem dX5_asks_47 : decode cX5_asks 47 = .ok (.istore 4, 2) := by decide +kernel
theorem dX5_asks_49 : decode cX5_asks 49 = .ok (.aload_n 0, 1) := by decide +kernel
theorem dX5_asks_50 : decode cX5_asks 50 = .ok (.getfield 12, 3) := by decide +kernel
theorem dX5_asks_53 : decode cX5_asks 53 = .ok (.iload_n 1, 1) := by decide +kernel
theorem dX5_asks_54 : decode cX5_asks 54 = .ok (.iload_n 2, 1) := by decide +kernel
theorem dX5_asks_55 : decode cX5_asks 55 = .ok (.iload_n 3, 1) := by decide +kernel
theorem dX5_asks_56 : decode cX5_asks 56 = .ok (.invokevirtual 160, 3) := by decide +kernel
theorem dX5_asks_59 : decode cX5_asks 59 = .ok (.iload 4, 2) := by decide +kernel
theorem dX5_asks_61 : decode cX5_asks 61 = .ok (.ireturn, 1) := by decide +kernel
theorem dX5_may_0 : decode cX5_may 0 = .ok (.aload_n 0, 1) := by decide +kernel
theorem dX5_may_1 : decode cX5_may 1 = .ok (.iload_n 1, 1) := by decide +kernel
theorem dX5_may_2 : decode cX5_may 2 = .ok (.invokevirtual 117, 3) := by decide +kernel
theorem dX5_may_5 : decode cX5_may 5 = .ok (.ifCond .eq 11, 3) := by decide +kernel
theorem dX5_may_8 : decode cX5_may 8 = .ok (.aload_n 0, 1) := by decide +kernel
theorem dX5_may_9 : decode cX5_may 9 = .ok (.iload_n 2, 1) := by decide +kernel
theorem dX5_may_10 : decode cX5_may 10 = .ok (.invokevirtual 148, 3) := by decide +kernel
theorem dX5_may_13 : decode cX5_may 13 = .ok (.ifCond .ne 10, 3) := by decide +kernel
theorem dX5_may_16 : decode cX5_may 16 = .ok (.aload_n 0, 1) := by decide +kernel
theorem dX5_may_17 : decode cX5_may 17 = .ok (.bipush (-2), 2) := by decide +kernel
theorem dX5_may_19 : decode cX5_may 19 = .ok (.invokevirtual 65, 3) := by decide +kernel
theorem dX5_may_22 : decode cX5_may 22 = .ok (.ireturn, 1) := by decide +kernel
theorem dX5_may_23 : decode cX5_may 23 = .ok (.aload_n 0, 1) := by decide +kernel
theorem dX5_may_24 : decode cX5_may 24 = .ok (.getfield 12, 3) := by decide +kernel
theorem dX5_may_27 : decode cX5_may 27 = .ok (.iload_n 1, 1) := by decide +kernel
theorem dX5_may_28 : decode cX5_may 28 = .ok (.invokevirtual 119, 3) := by decide +kernel
theorem dX5_may_31 : decode cX5_may 31 = .ok (.iload_n 2, 1) := by decide +kernel
theorem dX5_may_32 : decode cX5_may 32 = .ok (.iload_n 3, 1) := by decide +kernel
theorem dX5_may_33 : decode cX5_may 33 = .ok (.invokevirtual 164, 3) := by decide +kernel
theorem dX5_may_36 : decode cX5_may 36 = .ok (.ifCond .eq 7, 3) := by decide +kernel
theorem dX5_may_39 : decode cX5_may 39 = .ok (.iconst 1, 1) := by decide +kernel
theorem dX5_may_40 : decode cX5_may 40 = .ok (.goto 4, 3) := by decide +kernel
theorem dX5_may_43 : decode cX5_may 43 = .ok (.iconst 0, 1) := by decide +kernel
theorem dX5_may_44 : decode cX5_may 44 = .ok (.ireturn, 1) := by decide +kernel
theorem dX5_file_0 : decode cX5_file 0 = .ok (.aload_n 0, 1) := by decide +kernel
theorem dX5_file_1 : decode cX5_file 1 = .ok (.iload_n 1, 1) := by decide +kernel
theorem dX5_file_2 : decode cX5_file 2 = .ok (.invokevirtual 117, 3) := by decide +kernel
theorem dX5_file_5 : decode cX5_file 5 = .ok (.ifCond .eq 11, 3) := by decide +kernel
theorem dX5_file_8 : decode cX5_file 8 = .ok (.aload_n 0, 1) := by decide +kernel
theorem dX5_file_9 : decode cX5_file 9 = .ok (.iload_n 2, 1) := by decide +kernel
theorem dX5_file_10 : decode cX5_file 10 = .ok (.invokevirtual 151, 3) := by decide +kernel
theorem dX5_file_13 : decode cX5_file 13 = .ok (.ifCond .ne 10, 3) := by decide +kernel
theorem dX5_file_16 : decode cX5_file 16 = .ok (.aload_n 0, 1) := by decide +kernel
theorem dX5_file_17 : decode cX5_file 17 = .ok (.bipush (-2), 2) := by decide +kernel
theorem dX5_file_19 : decode cX5_file 19 = .ok (.invokevirtual 65, 3) := by decide +kernel
theorem dX5_file_22 : decode cX5_file 22 = .ok (.ireturn, 1) := by decide +kernel
theorem dX5_file_23 : decode cX5_file 23 = .ok (.aload_n 0, 1) := by decide +kernel
theorem dX5_file_24 : decode cX5_file 24 = .ok (.getfield 12, 3) := by decide +kernel
theorem dX5_file_27 : decode cX5_file 27 = .ok (.iload_n 1, 1) := by decide +kernel
theorem dX5_file_28 : decode cX5_file 28 = .ok (.invokevirtual 119, 3) := by decide +kernel
theorem dX5_file_31 : decode cX5_file 31 = .ok (.astore_n 3, 1) := by decide +kernel
theorem dX5_file_32 : decode cX5_file 32 = .ok (.aload_n 3, 1) := by decide +kernel
theorem dX5_file_33 : decode cX5_file 33 = .ok (.getfield 168, 3) := by decide +kernel
theorem dX5_file_36 : decode cX5_file 36 = .ok (.iconst 4, 1) := by decide +kernel
theorem dX5_file_37 : decode cX5_file 37 = .ok (.if_icmp .eq 15, 3) := by decide +kernel
theorem dX5_file_40 : decode cX5_file 40 = .ok (.aload_n 0, 1) := by decide +kernel
theorem dX5_file_41 : decode cX5_file 41 = .ok (.getfield 12, 3) := by decide +kernel
theorem dX5_file_44 : decode cX5_file 44 = .ok (.aload_n 3, 1) := by decide +kernel
theorem dX5_file_45 : decode cX5_file 45 = .ok (.iload_n 2, 1) := by decide +kernel
theorem dX5_file_46 : decode cX5_file 46 = .ok (.invokevirtual 171, 3) := by decide +kernel
theorem dX5_file_49 : decode cX5_file 49 = .ok (.ifCond .ne 10, 3) := by decide +kernel
theorem dX5_file_52 : decode cX5_file 52 = .ok (.aload_n 0, 1) := by decide +kernel
theorem dX5_file_53 : decode cX5_file 53 = .ok (.bipush (-5), 2) := by decide +kernel
theorem dX5_file_55 : decode cX5_file 55 = .ok (.invokevirtual 65, 3) := by decide +kernel
theorem dX5_file_58 : decode cX5_file 58 = .ok (.ireturn, 1) := by decide +kernel
theorem dX5_file_59 : decode cX5_file 59 = .ok (.aload_n 3, 1) := by decide +kernel
theorem dX5_file_60 : decode cX5_file 60 = .ok (.getfield 175, 3) := by decide +kernel
theorem dX5_file_63 : decode cX5_file 63 = .ok (.iload_n 2, 1) := by decide +kernel
theorem dX5_file_64 : decode cX5_file 64 = .ok (.invokestatic 178, 3) := by decide +kernel
theorem dX5_file_67 : decode cX5_file 67 = .ok (.istore 4, 2) := by decide +kernel
theorem dX5_file_69 : decode cX5_file 69 = .ok (.aload_n 0, 1) := by decide +kernel
theorem dX5_file_70 : decode cX5_file 70 = .ok (.getfield 12, 3) := by decide +kernel
theorem dX5_file_73 : decode cX5_file 73 = .ok (.dup, 1) := by decide +kernel
theorem dX5_file_74 : decode cX5_file 74 = .ok (.getfield 182, 3) := by decide +kernel
theorem dX5_file_77 : decode cX5_file 77 = .ok (.iload 4, 2) := by decide +kernel
theorem dX5_file_79 : decode cX5_file 79 = .ok (.iadd, 1) := by decide +kernel
theorem dX5_file_80 : decode cX5_file 80 = .ok (.putfield 182, 3) := by decide +kernel
theorem dX5_file_83 : decode cX5_file 83 = .ok (.iload 4, 2) := by decide +kernel
theorem dX5_file_85 : decode cX5_file 85 = .ok (.ireturn, 1) := by decide +kernel
theorem dX5_feed_0 : decode cX5_feed 0 = .ok (.iload_n 1, 1) := by decide +kernel
theorem dX5_feed_1 : decode cX5_feed 1 = .ok (.iconst 0, 1) := by decide +kernel
theorem dX5_feed_2 : decode cX5_feed 2 = .ok (.sipush 255, 3) := by decide +kernel
theorem dX5_feed_5 : decode cX5_feed 5 = .ok (.invokestatic 61, 3) := by decide +kernel
theorem dX5_feed_8 : decode cX5_feed 8 = .ok (.ifCond .ne 10, 3) := by decide +kernel
theorem dX5_feed_11 : decode cX5_feed 11 = .ok (.aload_n 0, 1) := by decide +kernel
theorem dX5_feed_12 : decode cX5_feed 12 = .ok (.bipush (-2), 2) := by decide +kernel
theorem dX5_feed_14 : decode cX5_feed 14 = .ok (.invokevirtual 65, 3) := by decide +kernel
theorem dX5_feed_17 : decode cX5_feed 17 = .ok (.ireturn, 1) := by decide +kernel
theorem dX5_feed_18 : decode cX5_feed 18 = .ok (.aload_n 0, 1) := by decide +kernel
theorem dX5_feed_19 : decode cX5_feed 19 = .ok (.getfield 34, 3) := by decide +kernel
theorem dX5_feed_22 : decode cX5_feed 22 = .ok (.iload_n 1, 1) := by decide +kernel
theorem dX5_feed_23 : decode cX5_feed 23 = .ok (.invokevirtual 185, 3) := by decide +kernel
theorem dX5_feed_26 : decode cX5_feed 26 = .ok (.ifCond .eq 13, 3) := by decide +kernel
theorem dX5_feed_29 : decode cX5_feed 29 = .ok (.aload_n 0, 1) := by decide +kernel
theorem dX5_feed_30 : decode cX5_feed 30 = .ok (.getfield 34, 3) := by decide +kernel
theorem dX5_feed_33 : decode cX5_feed 33 = .ok (.getfield 188, 3) := by decide +kernel
theorem dX5_feed_36 : decode cX5_feed 36 = .ok (.goto 9, 3) := by decide +kernel
theorem dX5_feed_39 : decode cX5_feed 39 = .ok (.aload_n 0, 1) := by decide +kernel
theorem dX5_feed_40 : decode cX5_feed 40 = .ok (.bipush (-6), 2) := by decide +kernel
theorem dX5_feed_42 : decode cX5_feed 42 = .ok (.invokevirtual 65, 3) := by decide +kernel
theorem dX5_feed_45 : decode cX5_feed 45 = .ok (.ireturn, 1) := by decide +kernel
theorem dX5_wipe_0 : decode cX5_wipe 0 = .ok (.aload_n 0, 1) := by decide +kernel
theorem dX5_wipe_1 : decode cX5_wipe 1 = .ok (.getfield 34, 3) := by decide +kernel
theorem dX5_wipe_4 : decode cX5_wipe 4 = .ok (.getfield 188, 3) := by decide +kernel
theorem dX5_wipe_7 : decode cX5_wipe 7 = .ok (.istore_n 1, 1) := by decide +kernel
theorem dX5_wipe_8 : decode cX5_wipe 8 = .ok (.aload_n 0, 1) := by decide +kernel
theorem dX5_wipe_9 : decode cX5_wipe 9 = .ok (.getfield 34, 3) := by decide +kernel
theorem dX5_wipe_12 : decode cX5_wipe 12 = .ok (.iconst 0, 1) := by decide +kernel
theorem dX5_wipe_13 : decode cX5_wipe 13 = .ok (.putfield 188, 3) := by decide +kernel
theorem dX5_wipe_16 : decode cX5_wipe 16 = .ok (.iload_n 1, 1) := by decide +kernel
theorem dX5_wipe_17 : decode cX5_wipe 17 = .ok (.ireturn, 1) := by decide +kernel
theorem dX5_house_0 : decode cX5_house 0 = .ok (.aload_n 0, 1) := by decide +kernel
theorem dX5_house_1 : decode cX5_house 1 = .ok (.getfield 19, 3) := by decide +kernel
theorem dX5_house_4 : decode cX5_house 4 = .ok (.aload_n 0, 1) := by decide +kernel
theorem dX5_house_5 : decode cX5_house 5 = .ok (.getfield 12, 3) := by decide +kernel
theorem dX5_house_8 : decode cX5_house 8 = .ok (.invokevirtual 189, 3) := by decide +kernel
theorem dX5_house_11 : decode cX5_house 11 = .ok (.aload_n 0, 1) := by decide +kernel
theorem dX5_house_12 : decode cX5_house 12 = .ok (.getfield 34, 3) := by decide +kernel
theorem dX5_house_15 : decode cX5_house 15 = .ok (.aload_n 0, 1) := by decide +kernel
theorem dX5_house_16 : decode cX5_house 16 = .ok (.getfield 19, 3) := by decide +kernel
theorem dX5_house_19 : decode cX5_house 19 = .ok (.invokevirtual 192, 3) := by decide +kernel
theorem dX5_house_22 : decode cX5_house 22 = .ok (.istore_n 1, 1) := by decide +kernel
theorem dX5_house_23 : decode cX5_house 23 = .ok (.aload_n 0, 1) := by decide +kernel
theorem dX5_house_24 : decode cX5_house 24 = .ok (.getfield 34, 3) := by decide +kernel
theorem dX5_house_27 : decode cX5_house 27 = .ok (.iconst 0, 1) := by decide +kernel
theorem dX5_house_28 : decode cX5_house 28 = .ok (.putfield 188, 3) := by decide +kernel
theorem dX5_house_31 : decode cX5_house 31 = .ok (.iload_n 1, 1) := by decide +kernel
theorem dX5_house_32 : decode cX5_house 32 = .ok (.iconst (-1), 1) := by decide +kernel
theorem dX5_house_33 : decode cX5_house 33 = .ok (.if_icmp .ne 21, 3) := by decide +kernel
theorem dX5_house_36 : decode cX5_house 36 = .ok (.aload_n 0, 1) := by decide +kernel
theorem dX5_house_37 : decode cX5_house 37 = .ok (.bipush (-2), 2) := by decide +kernel
theorem dX5_house_39 : decode cX5_house 39 = .ok (.invokevirtual 65, 3) := by decide +kernel
theorem dX5_house_42 : decode cX5_house 42 = .ok (.pop, 1) := by decide +kernel
theorem dX5_house_43 : decode cX5_house 43 = .ok (.bipush (-20), 2) := by decide +kernel
theorem dX5_house_45 : decode cX5_house 45 = .ok (.aload_n 0, 1) := by decide +kernel
theorem dX5_house_46 : decode cX5_house 46 = .ok (.getfield 34, 3) := by decide +kernel
theorem dX5_house_49 : decode cX5_house 49 = .ok (.getfield 196, 3) := by decide +kernel
theorem dX5_house_52 : decode cX5_house 52 = .ok (.isub, 1) := by decide +kernel
theorem dX5_house_53 : decode cX5_house 53 = .ok (.ireturn, 1) := by decide +kernel
theorem dX5_house_54 : decode cX5_house 54 = .ok (.aload_n 0, 1) := by decide +kernel
theorem dX5_house_55 : decode cX5_house 55 = .ok (.getfield 12, 3) := by decide +kernel
theorem dX5_house_58 : decode cX5_house 58 = .ok (.aload_n 0, 1) := by decide +kernel
theorem dX5_house_59 : decode cX5_house 59 = .ok (.getfield 19, 3) := by decide +kernel
theorem dX5_house_62 : decode cX5_house 62 = .ok (.invokevirtual 189, 3) := by decide +kernel
theorem dX5_house_65 : decode cX5_house 65 = .ok (.iload_n 1, 1) := by decide +kernel
theorem dX5_house_66 : decode cX5_house 66 = .ok (.ireturn, 1) := by decide +kernel
theorem dX5_keyOf_0 : decode cX5_keyOf 0 = .ok (.aload_n 0, 1) := by decide +kernel
theorem dX5_keyOf_1 : decode cX5_keyOf 1 = .ok (.iload_n 1, 1) := by decide +kernel
theorem dX5_keyOf_2 : decode cX5_keyOf 2 = .ok (.invokevirtual 117, 3) := by decide +kernel
theorem dX5_keyOf_5 : decode cX5_keyOf 5 = .ok (.ifCond .ne 10, 3) := by decide +kernel
theorem dX5_keyOf_8 : decode cX5_keyOf 8 = .ok (.aload_n 0, 1) := by decide +kernel
theorem dX5_keyOf_9 : decode cX5_keyOf 9 = .ok (.bipush (-2), 2) := by decide +kernel
theorem dX5_keyOf_11 : decode cX5_keyOf 11 = .ok (.invokevirtual 65, 3) := by decide +kernel
theorem dX5_keyOf_14 : decode cX5_keyOf 14 = .ok (.ireturn, 1) := by decide +kernel
theorem dX5_keyOf_15 : decode cX5_keyOf 15 = .ok (.aload_n 0, 1) := by decide +kernel
theorem dX5_keyOf_16 : decode cX5_keyOf 16 = .ok (.getfield 12, 3) := by decide +kernel
theorem dX5_keyOf_19 : decode cX5_keyOf 19 = .ok (.iload_n 1, 1) := by decide +kernel
theorem dX5_keyOf_20 : decode cX5_keyOf 20 = .ok (.invokevirtual 119, 3) := by decide +kernel
theorem dX5_keyOf_23 : decode cX5_keyOf 23 = .ok (.astore_n 3, 1) := by decide +kernel
theorem dX5_keyOf_24 : decode cX5_keyOf 24 = .ok (.aload_n 0, 1) := by decide +kernel
theorem dX5_keyOf_25 : decode cX5_keyOf 25 = .ok (.iload_n 2, 1) := by decide +kernel
theorem dX5_keyOf_26 : decode cX5_keyOf 26 = .ok (.bipush 10, 2) := by decide +kernel
theorem dX5_keyOf_28 : decode cX5_keyOf 28 = .ok (.isub, 1) := by decide +kernel
theorem dX5_keyOf_29 : decode cX5_keyOf 29 = .ok (.invokevirtual 151, 3) := by decide +kernel
theorem dX5_keyOf_32 : decode cX5_keyOf 32 = .ok (.ifCond .eq 15, 3) := by decide +kernel
theorem dX5_keyOf_35 : decode cX5_keyOf 35 = .ok (.aload_n 3, 1) := by decide +kernel
theorem dX5_keyOf_36 : decode cX5_keyOf 36 = .ok (.getfield 175, 3) := by decide +kernel
theorem dX5_keyOf_39 : decode cX5_keyOf 39 = .ok (.iload_n 2, 1) := by decide +kernel
theorem dX5_keyOf_40 : decode cX5_keyOf 40 = .ok (.bipush 10, 2) := by decide +kernel
theorem dX5_keyOf_42 : decode cX5_keyOf 42 = .ok (.isub, 1) := by decide +kernel
theorem dX5_keyOf_43 : decode cX5_keyOf 43 = .ok (.invokestatic 178, 3) := by decide +kernel
theorem dX5_keyOf_46 : decode cX5_keyOf 46 = .ok (.ireturn, 1) := by decide +kernel
theorem dX5_keyOf_47 : decode cX5_keyOf 47 = .ok (.aload_n 0, 1) := by decide +kernel
theorem dX5_keyOf_48 : decode cX5_keyOf 48 = .ok (.iload_n 2, 1) := by decide +kernel
theorem dX5_keyOf_49 : decode cX5_keyOf 49 = .ok (.bipush 20, 2) := by decide +kernel
theorem dX5_keyOf_51 : decode cX5_keyOf 51 = .ok (.isub, 1) := by decide +kernel
theorem dX5_keyOf_52 : decode cX5_keyOf 52 = .ok (.invokevirtual 151, 3) := by decide +kernel
theorem dX5_keyOf_55 : decode cX5_keyOf 55 = .ok (.ifCond .eq 20, 3) := by decide +kernel
theorem dX5_keyOf_58 : decode cX5_keyOf 58 = .ok (.aload_n 0, 1) := by decide +kernel
theorem dX5_keyOf_59 : decode cX5_keyOf 59 = .ok (.getfield 12, 3) := by decide +kernel
theorem dX5_keyOf_62 : decode cX5_keyOf 62 = .ok (.aload_n 3, 1) := by decide +kernel
theorem dX5_keyOf_63 : decode cX5_keyOf 63 = .ok (.aload_n 3, 1) := by decide +kernel
theorem dX5_keyOf_64 : decode cX5_keyOf 64 = .ok (.getfield 175, 3) := by decide +kernel
theorem dX5_keyOf_67 : decode cX5_keyOf 67 = .ok (.iload_n 2, 1) := by decide +kernel
theorem dX5_keyOf_68 : decode cX5_keyOf 68 = .ok (.bipush 20, 2) := by decide +kernel
theorem dX5_keyOf_70 : decode cX5_keyOf 70 = .ok (.isub, 1) := by decide +kernel
theorem dX5_keyOf_71 : decode cX5_keyOf 71 = .ok (.invokevirtual 199, 3) := by decide +kernel
theorem dX5_keyOf_74 : decode cX5_keyOf 74 = .ok (.ireturn, 1) := by decide +kernel
theorem dX5_keyOf_75 : decode cX5_keyOf 75 = .ok (.iload_n 2, 1) := by decide +kernel
theorem dX5_keyOf_76 : decode cX5_keyOf 76 = .ok (.tableswitch 84 0 4 #[36, 41, 46, 58, 79], 36) := by decide +kernel
theorem dX5_keyOf_112 : decode cX5_keyOf 112 = .ok (.aload_n 3, 1) := by decide +kernel
theorem dX5_keyOf_113 : decode cX5_keyOf 113 = .ok (.getfield 168, 3) := by decide +kernel
theorem dX5_keyOf_116 : decode cX5_keyOf 116 = .ok (.ireturn, 1) := by decide +kernel
theorem dX5_keyOf_117 : decode cX5_keyOf 117 = .ok (.aload_n 3, 1) := by decide +kernel
theorem dX5_keyOf_118 : decode cX5_keyOf 118 = .ok (.getfield 203, 3) := by decide +kernel
theorem dX5_keyOf_121 : decode cX5_keyOf 121 = .ok (.ireturn, 1) := by decide +kernel
theorem dX5_keyOf_122 : decode cX5_keyOf 122 = .ok (.aload_n 0, 1) := by decide +kernel
theorem dX5_keyOf_123 : decode cX5_keyOf 123 = .ok (.getfield 12, 3) := by decide +kernel
theorem dX5_keyOf_126 : decode cX5_keyOf 126 = .ok (.aload_n 3, 1) := by decide +kernel
theorem dX5_keyOf_127 : decode cX5_keyOf 127 = .ok (.getfield 175, 3) := by decide +kernel
theorem dX5_keyOf_130 : decode cX5_keyOf 130 = .ok (.invokevirtual 206, 3) := by decide +kernel
theorem dX5_keyOf_133 : decode cX5_keyOf 133 = .ok (.ireturn, 1) := by decide +kernel
theorem dX5_keyOf_134 : decode cX5_keyOf 134 = .ok (.aload_n 0, 1) := by decide +kernel
theorem dX5_keyOf_135 : decode cX5_keyOf 135 = .ok (.getfield 12, 3) := by decide +kernel
theorem dX5_keyOf_138 : decode cX5_keyOf 138 = .ok (.aload_n 3, 1) := by decide +kernel
theorem dX5_keyOf_139 : decode cX5_keyOf 139 = .ok (.aload_n 3, 1) := by decide +kernel
theorem dX5_keyOf_140 : decode cX5_keyOf 140 = .ok (.getfield 175, 3) := by decide +kernel
theorem dX5_keyOf_143 : decode cX5_keyOf 143 = .ok (.invokevirtual 210, 3) := by decide +kernel
theorem dX5_keyOf_146 : decode cX5_keyOf 146 = .ok (.ifCond .eq 7, 3) := by decide +kernel
theorem dX5_keyOf_149 : decode cX5_keyOf 149 = .ok (.iconst 1, 1) := by decide +kernel
theorem dX5_keyOf_150 : decode cX5_keyOf 150 = .ok (.goto 4, 3) := by decide +kernel
theorem dX5_keyOf_153 : decode cX5_keyOf 153 = .ok (.iconst 0, 1) := by decide +kernel
theorem dX5_keyOf_154 : decode cX5_keyOf 154 = .ok (.ireturn, 1) := by decide +kernel
theorem dX5_keyOf_155 : decode cX5_keyOf 155 = .ok (.aload_n 3, 1) := by decide +kernel
theorem dX5_keyOf_156 : decode cX5_keyOf 156 = .ok (.getfield 214, 3) := by decide +kernel
theorem dX5_keyOf_159 : decode cX5_keyOf 159 = .ok (.ireturn, 1) := by decide +kernel
theorem dX5_keyOf_160 : decode cX5_keyOf 160 = .ok (.aload_n 0, 1) := by decide +kernel
theorem dX5_keyOf_161 : decode cX5_keyOf 161 = .ok (.bipush (-2), 2) := by decide +kernel
theorem dX5_keyOf_163 : decode cX5_keyOf 163 = .ok (.invokevirtual 65, 3) := by decide +kernel
theorem dX5_keyOf_166 : decode cX5_keyOf 166 = .ok (.ireturn, 1) := by decide +kernel
theorem dX5_lockOf_0 : decode cX5_lockOf 0 = .ok (.aload_n 0, 1) := by decide +kernel
theorem dX5_lockOf_1 : decode cX5_lockOf 1 = .ok (.iload_n 1, 1) := by decide +kernel
theorem dX5_lockOf_2 : decode cX5_lockOf 2 = .ok (.invokevirtual 148, 3) := by decide +kernel
theorem dX5_lockOf_5 : decode cX5_lockOf 5 = .ok (.ifCond .ne 10, 3) := by decide +kernel
theorem dX5_lockOf_8 : decode cX5_lockOf 8 = .ok (.aload_n 0, 1) := by decide +kernel
theorem dX5_lockOf_9 : decode cX5_lockOf 9 = .ok (.bipush (-2), 2) := by decide +kernel
theorem dX5_lockOf_11 : decode cX5_lockOf 11 = .ok (.invokevirtual 65, 3) := by decide +kernel
theorem dX5_lockOf_14 : decode cX5_lockOf 14 = .ok (.ireturn, 1) := by decide +kernel
theorem dX5_lockOf_15 : decode cX5_lockOf 15 = .ok (.aload_n 0, 1) := by decide +kernel
theorem dX5_lockOf_16 : decode cX5_lockOf 16 = .ok (.iload_n 2, 1) := by decide +kernel
theorem dX5_lockOf_17 : decode cX5_lockOf 17 = .ok (.bipush 10, 2) := by decide +kernel
theorem dX5_lockOf_19 : decode cX5_lockOf 19 = .ok (.isub, 1) := by decide +kernel
theorem dX5_lockOf_20 : decode cX5_lockOf 20 = .ok (.invokevirtual 151, 3) := by decide +kernel
theorem dX5_lockOf_23 : decode cX5_lockOf 23 = .ok (.ifCond .eq 16, 3) := by decide +kernel
theorem dX5_lockOf_26 : decode cX5_lockOf 26 = .ok (.aload_n 0, 1) := by decide +kernel
theorem dX5_lockOf_27 : decode cX5_lockOf 27 = .ok (.getfield 12, 3) := by decide +kernel
theorem dX5_lockOf_30 : decode cX5_lockOf 30 = .ok (.iload_n 1, 1) := by decide +kernel
theorem dX5_lockOf_31 : decode cX5_lockOf 31 = .ok (.iload_n 2, 1) := by decide +kernel
theorem dX5_lockOf_32 : decode cX5_lockOf 32 = .ok (.bipush 10, 2) := by decide +kernel
theorem dX5_lockOf_34 : decode cX5_lockOf 34 = .ok (.isub, 1) := by decide +kernel
theorem dX5_lockOf_35 : decode cX5_lockOf 35 = .ok (.invokevirtual 157, 3) := by decide +kernel
theorem dX5_lockOf_38 : decode cX5_lockOf 38 = .ok (.ireturn, 1) := by decide +kernel
theorem dX5_lockOf_39 : decode cX5_lockOf 39 = .ok (.iload_n 2, 1) := by decide +kernel
theorem dX5_lockOf_40 : decode cX5_lockOf 40 = .ok (.lookupswitch 54 #[(0, 28), (1, 45)], 28) := by decide +kernel
theorem dX5_lockOf_68 : decode cX5_lockOf 68 = .ok (.aload_n 0, 1) := by decide +kernel
theorem dX5_lockOf_69 : decode cX5_lockOf 69 = .ok (.getfield 12, 3) := by decide +kernel
theorem dX5_lockOf_72 : decode cX5_lockOf 72 = .ok (.iload_n 1, 1) := by decide +kernel
theorem dX5_lockOf_73 : decode cX5_lockOf 73 = .ok (.invokevirtual 217, 3) := by decide +kernel
theorem dX5_lockOf_76 : decode cX5_lockOf 76 = .ok (.ifCond .eq 7, 3) := by decide +kernel
theorem dX5_lockOf_79 : decode cX5_lockOf 79 = .ok (.iconst 1, 1) := by decide +kernel
theorem dX5_lockOf_80 : decode cX5_lockOf 80 = .ok (.goto 4, 3) := by decide +kernel
theorem dX5_lockOf_83 : decode cX5_lockOf 83 = .ok (.iconst 0, 1) := by decide +kernel
theorem dX5_lockOf_84 : decode cX5_lockOf 84 = .ok (.ireturn, 1) := by decide +kernel
theorem dX5_lockOf_85 : decode cX5_lockOf 85 = .ok (.aload_n 0, 1) := by decide +kernel
theorem dX5_lockOf_86 : decode cX5_lockOf 86 = .ok (.getfield 12, 3) := by decide +kernel
theorem dX5_lockOf_89 : decode cX5_lockOf 89 = .ok (.iload_n 1, 1) := by decide +kernel
theorem dX5_lockOf_90 : decode cX5_lockOf 90 = .ok (.invokevirtual 220, 3) := by decide +kernel
theorem dX5_lockOf_93 : decode cX5_lockOf 93 = .ok (.ireturn, 1) := by decide +kernel
theorem dX5_lockOf_94 : decode cX5_lockOf 94 = .ok (.aload_n 0, 1) := by decide +kernel
theorem dX5_lockOf_95 : decode cX5_lockOf 95 = .ok (.bipush (-2), 2) := by decide +kernel
theorem dX5_lockOf_97 : decode cX5_lockOf 97 = .ok (.invokevirtual 65, 3) := by decide +kernel
theorem dX5_lockOf_100 : decode cX5_lockOf 100 = .ok (.ireturn, 1) := by decide +kernel
theorem dX5_opens_0 : decode cX5_opens 0 = .ok (.aload_n 0, 1) := by decide +kernel
theorem dX5_opens_1 : decode cX5_opens 1 = .ok (.iload_n 1, 1) := by decide +kernel
theorem dX5_opens_2 : decode cX5_opens 2 = .ok (.invokevirtual 117, 3) := by decide +kernel
theorem dX5_opens_5 : decode cX5_opens 5 = .ok (.ifCond .eq 20, 3) := by decide +kernel
theorem dX5_opens_8 : decode cX5_opens 8 = .ok (.aload_n 0, 1) := by decide +kernel
theorem dX5_opens_9 : decode cX5_opens 9 = .ok (.iload_n 2, 1) := by decide +kernel
theorem dX5_opens_10 : decode cX5_opens 10 = .ok (.invokevirtual 148, 3) := by decide +kernel
theorem dX5_opens_13 : decode cX5_opens 13 = .ok (.ifCond .eq 12, 3) := by decide +kernel
theorem dX5_opens_16 : decode cX5_opens 16 = .ok (.iload_n 3, 1) := by decide +kernel
theorem dX5_opens_17 : decode cX5_opens 17 = .ok (.iconst 0, 1) := by decide +kernel
theorem dX5_opens_18 : decode cX5_opens 18 = .ok (.iconst 1, 1) := by decide +kernel
theorem dX5_opens_19 : decode cX5_opens 19 = .ok (.invokestatic 61, 3) := by decide +kernel
theorem dX5_opens_22 : decode cX5_opens 22 = .ok (.ifCond .ne 10, 3) := by decide +kernel
theorem dX5_opens_25 : decode cX5_opens 25 = .ok (.aload_n 0, 1) := by decide +kernel
theorem dX5_opens_26 : decode cX5_opens 26 = .ok (.bipush (-2), 2) := by decide +kernel
theorem dX5_opens_28 : decode cX5_opens 28 = .ok (.invokevirtual 65, 3) := by decide +kernel
theorem dX5_opens_31 : decode cX5_opens 31 = .ok (.ireturn, 1) := by decide +kernel
theorem dX5_opens_32 : decode cX5_opens 32 = .ok (.aload_n 0, 1) := by decide +kernel
theorem dX5_opens_33 : decode cX5_opens 33 = .ok (.getfield 12, 3) := by decide +kernel
theorem dX5_opens_36 : decode cX5_opens 36 = .ok (.iload_n 1, 1) := by decide +kernel
theorem dX5_opens_37 : decode cX5_opens 37 = .ok (.invokevirtual 119, 3) := by decide +kernel
theorem dX5_opens_40 : decode cX5_opens 40 = .ok (.astore 4, 2) := by decide +kernel
theorem dX5_opens_42 : decode cX5_opens 42 = .ok (.iload_n 3, 1) := by decide +kernel
theorem dX5_opens_43 : decode cX5_opens 43 = .ok (.ifCond .ne 20, 3) := by decide +kernel
theorem dX5_opens_46 : decode cX5_opens 46 = .ok (.aload_n 0, 1) := by decide +kernel
theorem dX5_opens_47 : decode cX5_opens 47 = .ok (.getfield 12, 3) := by decide +kernel
theorem dX5_opens_50 : decode cX5_opens 50 = .ok (.aload 4, 2) := by decide +kernel
theorem dX5_opens_52 : decode cX5_opens 52 = .ok (.aload 4, 2) := by decide +kernel
theorem dX5_opens_54 : decode cX5_opens 54 = .ok (.getfield 175, 3) := by decide +kernel
theorem dX5_opens_57 : decode cX5_opens 57 = .ok (.invokevirtual 223, 3) := by decide +kernel
theorem dX5_opens_60 : decode cX5_opens 60 = .ok (.goto 11, 3) := by decide +kernel
theorem dX5_opens_63 : decode cX5_opens 63 = .ok (.aload_n 0, 1) := by decide +kernel
theorem dX5_opens_64 : decode cX5_opens 64 = .ok (.getfield 12, 3) := by decide +kernel
theorem dX5_opens_67 : decode cX5_opens 67 = .ok (.iload_n 1, 1) := by decide +kernel
theorem dX5_opens_68 : decode cX5_opens 68 = .ok (.invokevirtual 227, 3) := by decide +kernel
theorem dX5_opens_71 : decode cX5_opens 71 = .ok (.istore 5, 2) := by decide +kernel
theorem dX5_opens_73 : decode cX5_opens 73 = .ok (.iload 5, 2) := by decide +kernel
theorem dX5_opens_75 : decode cX5_opens 75 = .ok (.iload_n 2, 1) := by decide +kernel
theorem dX5_opens_76 : decode cX5_opens 76 = .ok (.invokestatic 230, 3) := by decide +kernel
theorem dX5_opens_79 : decode cX5_opens 79 = .ok (.ifCond .eq 7, 3) := by decide +kernel
theorem dX5_opens_82 : decode cX5_opens 82 = .ok (.iconst 1, 1) := by decide +kernel
theorem dX5_opens_83 : decode cX5_opens 83 = .ok (.goto 4, 3) := by decide +kernel
theorem dX5_opens_86 : decode cX5_opens 86 = .ok (.iconst 0, 1) := by decide +kernel
theorem dX5_opens_87 : decode cX5_opens 87 = .ok (.ireturn, 1) := by decide +kernel
theorem dX5_opened_0 : decode cX5_opened 0 = .ok (.aload_n 0, 1) := by decide +kernel
theorem dX5_opened_1 : decode cX5_opened 1 = .ok (.iload_n 1, 1) := by decide +kernel
theorem dX5_opened_2 : decode cX5_opened 2 = .ok (.invokevirtual 117, 3) := by decide +kernel
theorem dX5_opened_5 : decode cX5_opened 5 = .ok (.ifCond .eq 14, 3) := by decide +kernel
theorem dX5_opened_8 : decode cX5_opened 8 = .ok (.aload_n 0, 1) := by decide +kernel
theorem dX5_opened_9 : decode cX5_opened 9 = .ok (.getfield 12, 3) := by decide +kernel
theorem dX5_opened_12 : decode cX5_opened 12 = .ok (.iload_n 1, 1) := by decide +kernel
theorem dX5_opened_13 : decode cX5_opened 13 = .ok (.invokevirtual 227, 3) := by decide +kernel
theorem dX5_opened_16 : decode cX5_opened 16 = .ok (.goto 9, 3) := by decide +kernel
theorem dX5_opened_19 : decode cX5_opened 19 = .ok (.aload_n 0, 1) := by decide +kernel
theorem dX5_opened_20 : decode cX5_opened 20 = .ok (.bipush (-2), 2) := by decide +kernel
theorem dX5_opened_22 : decode cX5_opened 22 = .ok (.invokevirtual 65, 3) := by decide +kernel
theorem dX5_opened_25 : decode cX5_opened 25 = .ok (.ireturn, 1) := by decide +kernel
theorem dX5_who_0 : decode cX5_who 0 = .ok (.aload_n 0, 1) := by decide +kernel
theorem dX5_who_1 : decode cX5_who 1 = .ok (.iload_n 1, 1) := by decide +kernel
theorem dX5_who_2 : decode cX5_who 2 = .ok (.invokevirtual 148, 3) := by decide +kernel
theorem dX5_who_5 : decode cX5_who 5 = .ok (.ifCond .eq 14, 3) := by decide +kernel
theorem dX5_who_8 : decode cX5_who 8 = .ok (.aload_n 0, 1) := by decide +kernel
theorem dX5_who_9 : decode cX5_who 9 = .ok (.getfield 12, 3) := by decide +kernel
theorem dX5_who_12 : decode cX5_who 12 = .ok (.iload_n 1, 1) := by decide +kernel
theorem dX5_who_13 : decode cX5_who 13 = .ok (.invokevirtual 233, 3) := by decide +kernel
theorem dX5_who_16 : decode cX5_who 16 = .ok (.goto 9, 3) := by decide +kernel
theorem dX5_who_19 : decode cX5_who 19 = .ok (.aload_n 0, 1) := by decide +kernel
theorem dX5_who_20 : decode cX5_who 20 = .ok (.bipush (-2), 2) := by decide +kernel
theorem dX5_who_22 : decode cX5_who 22 = .ok (.invokevirtual 65, 3) := by decide +kernel
theorem dX5_who_25 : decode cX5_who 25 = .ok (.ireturn, 1) := by decide +kernel
theorem dX5_wrong_0 : decode cX5_wrong 0 = .ok (.iconst 0, 1) := by decide +kernel
theorem dX5_wrong_1 : decode cX5_wrong 1 = .ok (.istore_n 1, 1) := by decide +kernel
theorem dX5_wrong_2 : decode cX5_wrong 2 = .ok (.iload_n 1, 1) := by decide +kernel
theorem dX5_wrong_3 : decode cX5_wrong 3 = .ok (.aload_n 0, 1) := by decide +kernel
theorem dX5_wrong_4 : decode cX5_wrong 4 = .ok (.getfield 12, 3) := by decide +kernel
theorem dX5_wrong_7 : decode cX5_wrong 7 = .ok (.getfield 236, 3) := by decide +kernel
theorem dX5_wrong_10 : decode cX5_wrong 10 = .ok (.if_icmp .ge 64, 3) := by decide +kernel
theorem dX5_wrong_13 : decode cX5_wrong 13 = .ok (.aload_n 0, 1) := by decide +kernel
theorem dX5_wrong_14 : decode cX5_wrong 14 = .ok (.getfield 12, 3) := by decide +kernel
theorem dX5_wrong_17 : decode cX5_wrong 17 = .ok (.iload_n 1, 1) := by decide +kernel
theorem dX5_wrong_18 : decode cX5_wrong 18 = .ok (.invokevirtual 227, 3) := by decide +kernel
theorem dX5_wrong_21 : decode cX5_wrong 21 = .ok (.aload_n 0, 1) := by decide +kernel
theorem dX5_wrong_22 : decode cX5_wrong 22 = .ok (.getfield 12, 3) := by decide +kernel
theorem dX5_wrong_25 : decode cX5_wrong 25 = .ok (.iload_n 1, 1) := by decide +kernel
theorem dX5_wrong_26 : decode cX5_wrong 26 = .ok (.invokevirtual 119, 3) := by decide +kernel
theorem dX5_wrong_29 : decode cX5_wrong 29 = .ok (.getfield 214, 3) := by decide +kernel
theorem dX5_wrong_32 : decode cX5_wrong 32 = .ok (.ixor, 1) := by decide +kernel
theorem dX5_wrong_33 : decode cX5_wrong 33 = .ok (.istore_n 2, 1) := by decide +kernel
theorem dX5_wrong_34 : decode cX5_wrong 34 = .ok (.iconst 0, 1) := by decide +kernel
theorem dX5_wrong_35 : decode cX5_wrong 35 = .ok (.istore_n 3, 1) := by decide +kernel
theorem dX5_wrong_36 : decode cX5_wrong 36 = .ok (.iload_n 3, 1) := by decide +kernel
theorem dX5_wrong_37 : decode cX5_wrong 37 = .ok (.aload_n 0, 1) := by decide +kernel
theorem dX5_wrong_38 : decode cX5_wrong 38 = .ok (.getfield 12, 3) := by decide +kernel
theorem dX5_wrong_41 : decode cX5_wrong 41 = .ok (.getfield 239, 3) := by decide +kernel
theorem dX5_wrong_44 : decode cX5_wrong 44 = .ok (.if_icmp .ge 24, 3) := by decide +kernel
theorem dX5_wrong_47 : decode cX5_wrong 47 = .ok (.iload_n 2, 1) := by decide +kernel
theorem dX5_wrong_48 : decode cX5_wrong 48 = .ok (.iload_n 3, 1) := by decide +kernel
theorem dX5_wrong_49 : decode cX5_wrong 49 = .ok (.invokestatic 230, 3) := by decide +kernel
theorem dX5_wrong_52 : decode cX5_wrong 52 = .ok (.ifCond .eq 10, 3) := by decide +kernel
theorem dX5_wrong_55 : decode cX5_wrong 55 = .ok (.bipush 10, 2) := by decide +kernel
theorem dX5_wrong_57 : decode cX5_wrong 57 = .ok (.iload_n 1, 1) := by decide +kernel
theorem dX5_wrong_58 : decode cX5_wrong 58 = .ok (.imul, 1) := by decide +kernel
theorem dX5_wrong_59 : decode cX5_wrong 59 = .ok (.iload_n 3, 1) := by decide +kernel
theorem dX5_wrong_60 : decode cX5_wrong 60 = .ok (.iadd, 1) := by decide +kernel
theorem dX5_wrong_61 : decode cX5_wrong 61 = .ok (.ireturn, 1) := by decide +kernel
theorem dX5_wrong_62 : decode cX5_wrong 62 = .ok (.iinc 3 1, 3) := by decide +kernel
theorem dX5_wrong_65 : decode cX5_wrong 65 = .ok (.goto (-29), 3) := by decide +kernel
theorem dX5_wrong_68 : decode cX5_wrong 68 = .ok (.iinc 1 1, 3) := by decide +kernel
theorem dX5_wrong_71 : decode cX5_wrong 71 = .ok (.goto (-69), 3) := by decide +kernel
theorem dX5_wrong_74 : decode cX5_wrong 74 = .ok (.iconst (-1), 1) := by decide +kernel
theorem dX5_wrong_75 : decode cX5_wrong 75 = .ok (.ireturn, 1) := by decide +kernel
theorem dX5_wrongs_0 : decode cX5_wrongs 0 = .ok (.iconst 0, 1) := by decide +kernel
theorem dX5_wrongs_1 : decode cX5_wrongs 1 = .ok (.istore_n 1, 1) := by decide +kernel
theorem dX5_wrongs_2 : decode cX5_wrongs 2 = .ok (.iconst 0, 1) := by decide +kernel
theorem dX5_wrongs_3 : decode cX5_wrongs 3 = .ok (.istore_n 2, 1) := by decide +kernel
theorem dX5_wrongs_4 : decode cX5_wrongs 4 = .ok (.iload_n 2, 1) := by decide +kernel
theorem dX5_wrongs_5 : decode cX5_wrongs 5 = .ok (.aload_n 0, 1) := by decide +kernel
theorem dX5_wrongs_6 : decode cX5_wrongs 6 = .ok (.getfield 12, 3) := by decide +kernel
theorem dX5_wrongs_9 : decode cX5_wrongs 9 = .ok (.getfield 236, 3) := by decide +kernel
theorem dX5_wrongs_12 : decode cX5_wrongs 12 = .ok (.if_icmp .ge 35, 3) := by decide +kernel
theorem dX5_wrongs_15 : decode cX5_wrongs 15 = .ok (.iload_n 1, 1) := by decide +kernel
theorem dX5_wrongs_16 : decode cX5_wrongs 16 = .ok (.aload_n 0, 1) := by decide +kernel
theorem dX5_wrongs_17 : decode cX5_wrongs 17 = .ok (.getfield 12, 3) := by decide +kernel
theorem dX5_wrongs_20 : decode cX5_wrongs 20 = .ok (.iload_n 2, 1) := by decide +kernel
theorem dX5_wrongs_21 : decode cX5_wrongs 21 = .ok (.invokevirtual 227, 3) := by decide +kernel
theorem dX5_wrongs_24 : decode cX5_wrongs 24 = .ok (.aload_n 0, 1) := by decide +kernel
theorem dX5_wrongs_25 : decode cX5_wrongs 25 = .ok (.getfield 12, 3) := by decide +kernel
theorem dX5_wrongs_28 : decode cX5_wrongs 28 = .ok (.iload_n 2, 1) := by decide +kernel
theorem dX5_wrongs_29 : decode cX5_wrongs 29 = .ok (.invokevirtual 119, 3) := by decide +kernel
theorem dX5_wrongs_32 : decode cX5_wrongs 32 = .ok (.getfield 214, 3) := by decide +kernel
theorem dX5_wrongs_35 : decode cX5_wrongs 35 = .ok (.ixor, 1) := by decide +kernel
theorem dX5_wrongs_36 : decode cX5_wrongs 36 = .ok (.invokestatic 242, 3) := by decide +kernel
theorem dX5_wrongs_39 : decode cX5_wrongs 39 = .ok (.iadd, 1) := by decide +kernel
theorem dX5_wrongs_40 : decode cX5_wrongs 40 = .ok (.istore_n 1, 1) := by decide +kernel
theorem dX5_wrongs_41 : decode cX5_wrongs 41 = .ok (.iinc 2 1, 3) := by decide +kernel
theorem dX5_wrongs_44 : decode cX5_wrongs 44 = .ok (.goto (-40), 3) := by decide +kernel
theorem dX5_wrongs_47 : decode cX5_wrongs 47 = .ok (.iload_n 1, 1) := by decide +kernel
theorem dX5_wrongs_48 : decode cX5_wrongs 48 = .ok (.ireturn, 1) := by decide +kernel
theorem dX5_judge_0 : decode cX5_judge 0 = .ok (.aload_n 0, 1) := by decide +kernel
theorem dX5_judge_1 : decode cX5_judge 1 = .ok (.iload_n 1, 1) := by decide +kernel
theorem dX5_judge_2 : decode cX5_judge 2 = .ok (.invokevirtual 247, 3) := by decide +kernel
theorem dX5_judge_5 : decode cX5_judge 5 = .ok (.istore_n 2, 1) := by decide +kernel
theorem dX5_judge_6 : decode cX5_judge 6 = .ok (.iload_n 2, 1) := by decide +kernel
theorem dX5_judge_7 : decode cX5_judge 7 = .ok (.ifCond .eq 9, 3) := by decide +kernel
theorem dX5_judge_10 : decode cX5_judge 10 = .ok (.aload_n 0, 1) := by decide +kernel
theorem dX5_judge_11 : decode cX5_judge 11 = .ok (.iload_n 2, 1) := by decide +kernel
theorem dX5_judge_12 : decode cX5_judge 12 = .ok (.invokevirtual 65, 3) := by decide +kernel
theorem dX5_judge_15 : decode cX5_judge 15 = .ok (.ireturn, 1) := by decide +kernel
theorem dX5_judge_16 : decode cX5_judge 16 = .ok (.iconst 0, 1) := by decide +kernel
theorem dX5_judge_17 : decode cX5_judge 17 = .ok (.istore_n 3, 1) := by decide +kernel
theorem dX5_judge_18 : decode cX5_judge 18 = .ok (.iload_n 3, 1) := by decide +kernel
theorem dX5_judge_19 : decode cX5_judge 19 = .ok (.aload_n 0, 1) := by decide +kernel
theorem dX5_judge_20 : decode cX5_judge 20 = .ok (.getfield 12, 3) := by decide +kernel
theorem dX5_judge_23 : decode cX5_judge 23 = .ok (.getfield 236, 3) := by decide +kernel
theorem dX5_judge_26 : decode cX5_judge 26 = .ok (.if_icmp .ge 28, 3) := by decide +kernel
theorem dX5_judge_29 : decode cX5_judge 29 = .ok (.aload_n 0, 1) := by decide +kernel
theorem dX5_judge_30 : decode cX5_judge 30 = .ok (.getfield 12, 3) := by decide +kernel
theorem dX5_judge_33 : decode cX5_judge 33 = .ok (.iload_n 3, 1) := by decide +kernel
theorem dX5_judge_34 : decode cX5_judge 34 = .ok (.invokevirtual 227, 3) := by decide +kernel
theorem dX5_judge_37 : decode cX5_judge 37 = .ok (.aload_n 0, 1) := by decide +kernel
theorem dX5_judge_38 : decode cX5_judge 38 = .ok (.iload_n 1, 1) := by decide +kernel
theorem dX5_judge_39 : decode cX5_judge 39 = .ok (.iload_n 3, 1) := by decide +kernel
theorem dX5_judge_40 : decode cX5_judge 40 = .ok (.invokevirtual 250, 3) := by decide +kernel
theorem dX5_judge_43 : decode cX5_judge 43 = .ok (.if_icmp .eq 5, 3) := by decide +kernel
theorem dX5_judge_46 : decode cX5_judge 46 = .ok (.iload_n 3, 1) := by decide +kernel
theorem dX5_judge_47 : decode cX5_judge 47 = .ok (.ireturn, 1) := by decide +kernel
theorem dX5_judge_48 : decode cX5_judge 48 = .ok (.iinc 3 1, 3) := by decide +kernel
theorem dX5_judge_51 : decode cX5_judge 51 = .ok (.goto (-33), 3) := by decide +kernel
theorem dX5_judge_54 : decode cX5_judge 54 = .ok (.iconst (-1), 1) := by decide +kernel
theorem dX5_judge_55 : decode cX5_judge 55 = .ok (.ireturn, 1) := by decide +kernel
theorem dX5_list_0 : decode cX5_list 0 = .ok (.aload_n 0, 1) := by decide +kernel
theorem dX5_list_1 : decode cX5_list 1 = .ok (.iload_n 1, 1) := by decide +kernel
theorem dX5_list_2 : decode cX5_list 2 = .ok (.invokevirtual 247, 3) := by decide +kernel
theorem dX5_list_5 : decode cX5_list 5 = .ok (.istore_n 2, 1) := by decide +kernel
theorem dX5_list_6 : decode cX5_list 6 = .ok (.iload_n 2, 1) := by decide +kernel
theorem dX5_list_7 : decode cX5_list 7 = .ok (.ifCond .eq 9, 3) := by decide +kernel
theorem dX5_list_10 : decode cX5_list 10 = .ok (.aload_n 0, 1) := by decide +kernel
theorem dX5_list_11 : decode cX5_list 11 = .ok (.iload_n 2, 1) := by decide +kernel
theorem dX5_list_12 : decode cX5_list 12 = .ok (.invokevirtual 65, 3) := by decide +kernel
theorem dX5_list_15 : decode cX5_list 15 = .ok (.ireturn, 1) := by decide +kernel
theorem dX5_list_16 : decode cX5_list 16 = .ok (.iconst 0, 1) := by decide +kernel
theorem dX5_list_17 : decode cX5_list 17 = .ok (.istore_n 3, 1) := by decide +kernel
theorem dX5_list_18 : decode cX5_list 18 = .ok (.iload_n 3, 1) := by decide +kernel
theorem dX5_list_19 : decode cX5_list 19 = .ok (.aload_n 0, 1) := by decide +kernel
theorem dX5_list_20 : decode cX5_list 20 = .ok (.getfield 12, 3) := by decide +kernel
theorem dX5_list_23 : decode cX5_list 23 = .ok (.getfield 236, 3) := by decide +kernel
theorem dX5_list_26 : decode cX5_list 26 = .ok (.if_icmp .ge 26, 3) := by decide +kernel
theorem dX5_list_29 : decode cX5_list 29 = .ok (.aload_n 0, 1) := by decide +kernel
theorem dX5_list_30 : decode cX5_list 30 = .ok (.getfield 12, 3) := by decide +kernel
theorem dX5_list_33 : decode cX5_list 33 = .ok (.iload_n 3, 1) := by decide +kernel
theorem dX5_list_34 : decode cX5_list 34 = .ok (.invokevirtual 119, 3) := by decide +kernel
theorem dX5_list_37 : decode cX5_list 37 = .ok (.aload_n 0, 1) := by decide +kernel
theorem dX5_list_38 : decode cX5_list 38 = .ok (.iload_n 1, 1) := by decide +kernel
theorem dX5_list_39 : decode cX5_list 39 = .ok (.iload_n 3, 1) := by decide +kernel
theorem dX5_list_40 : decode cX5_list 40 = .ok (.invokevirtual 250, 3) := by decide +kernel
theorem dX5_list_43 : decode cX5_list 43 = .ok (.putfield 214, 3) := by decide +kernel
theorem dX5_list_46 : decode cX5_list 46 = .ok (.iinc 3 1, 3) := by decide +kernel
theorem dX5_list_49 : decode cX5_list 49 = .ok (.goto (-31), 3) := by decide +kernel
theorem dX5_list_52 : decode cX5_list 52 = .ok (.aload_n 0, 1) := by decide +kernel
theorem dX5_list_53 : decode cX5_list 53 = .ok (.getfield 12, 3) := by decide +kernel
theorem dX5_list_56 : decode cX5_list 56 = .ok (.getfield 236, 3) := by decide +kernel
theorem dX5_list_59 : decode cX5_list 59 = .ok (.ireturn, 1) := by decide +kernel
theorem dX5_cuts_0 : decode cX5_cuts 0 = .ok (.aload_n 0, 1) := by decide +kernel
theorem dX5_cuts_1 : decode cX5_cuts 1 = .ok (.iload_n 1, 1) := by decide +kernel
theorem dX5_cuts_2 : decode cX5_cuts 2 = .ok (.invokevirtual 253, 3) := by decide +kernel
theorem dX5_cuts_5 : decode cX5_cuts 5 = .ok (.ifCond .eq 16, 3) := by decide +kernel
theorem dX5_cuts_8 : decode cX5_cuts 8 = .ok (.iload_n 2, 1) := by decide +kernel
theorem dX5_cuts_9 : decode cX5_cuts 9 = .ok (.iconst (-1), 1) := by decide +kernel
theorem dX5_cuts_10 : decode cX5_cuts 10 = .ok (.if_icmp .eq 18, 3) := by decide +kernel
theorem dX5_cuts_13 : decode cX5_cuts 13 = .ok (.aload_n 0, 1) := by decide +kernel
theorem dX5_cuts_14 : decode cX5_cuts 14 = .ok (.iload_n 2, 1) := by decide +kernel
theorem dX5_cuts_15 : decode cX5_cuts 15 = .ok (.invokevirtual 151, 3) := by decide +kernel
theorem dX5_cuts_18 : decode cX5_cuts 18 = .ok (.ifCond .ne 10, 3) := by decide +kernel
theorem dX5_cuts_21 : decode cX5_cuts 21 = .ok (.aload_n 0, 1) := by decide +kernel
theorem dX5_cuts_22 : decode cX5_cuts 22 = .ok (.bipush (-2), 2) := by decide +kernel
theorem dX5_cuts_24 : decode cX5_cuts 24 = .ok (.invokevirtual 65, 3) := by decide +kernel
theorem dX5_cuts_27 : decode cX5_cuts 27 = .ok (.ireturn, 1) := by decide +kernel
theorem dX5_cuts_28 : decode cX5_cuts 28 = .ok (.aload_n 0, 1) := by decide +kernel
theorem dX5_cuts_29 : decode cX5_cuts 29 = .ok (.getfield 27, 3) := by decide +kernel
theorem dX5_cuts_32 : decode cX5_cuts 32 = .ok (.iload_n 1, 1) := by decide +kernel
theorem dX5_cuts_33 : decode cX5_cuts 33 = .ok (.invokevirtual 256, 3) := by decide +kernel
theorem dX5_cuts_36 : decode cX5_cuts 36 = .ok (.istore_n 3, 1) := by decide +kernel
theorem dX5_cuts_37 : decode cX5_cuts 37 = .ok (.iload_n 3, 1) := by decide +kernel
theorem dX5_cuts_38 : decode cX5_cuts 38 = .ok (.iconst (-1), 1) := by decide +kernel
theorem dX5_cuts_39 : decode cX5_cuts 39 = .ok (.if_icmp .eq 8, 3) := by decide +kernel
theorem dX5_cuts_42 : decode cX5_cuts 42 = .ok (.iload_n 2, 1) := by decide +kernel
theorem dX5_cuts_43 : decode cX5_cuts 43 = .ok (.iconst (-1), 1) := by decide +kernel
theorem dX5_cuts_44 : decode cX5_cuts 44 = .ok (.if_icmp .ne 7, 3) := by decide +kernel
theorem dX5_cuts_47 : decode cX5_cuts 47 = .ok (.iload_n 3, 1) := by decide +kernel
theorem dX5_cuts_48 : decode cX5_cuts 48 = .ok (.goto 11, 3) := by decide +kernel
theorem dX5_cuts_51 : decode cX5_cuts 51 = .ok (.aload_n 0, 1) := by decide +kernel
theorem dX5_cuts_52 : decode cX5_cuts 52 = .ok (.getfield 27, 3) := by decide +kernel
theorem dX5_cuts_55 : decode cX5_cuts 55 = .ok (.iload_n 2, 1) := by decide +kernel
theorem dX5_cuts_56 : decode cX5_cuts 56 = .ok (.invokevirtual 259, 3) := by decide +kernel
theorem dX5_cuts_59 : decode cX5_cuts 59 = .ok (.ireturn, 1) := by decide +kernel
theorem dX5_asked_0 : decode cX5_asked 0 = .ok (.aload_n 0, 1) := by decide +kernel
theorem dX5_asked_1 : decode cX5_asked 1 = .ok (.iload_n 1, 1) := by decide +kernel
theorem dX5_asked_2 : decode cX5_asked 2 = .ok (.invokevirtual 262, 3) := by decide +kernel
theorem dX5_asked_5 : decode cX5_asked 5 = .ok (.ifCond .eq 16, 3) := by decide +kernel
theorem dX5_asked_8 : decode cX5_asked 8 = .ok (.iload_n 2, 1) := by decide +kernel
theorem dX5_asked_9 : decode cX5_asked 9 = .ok (.iconst (-1), 1) := by decide +kernel
theorem dX5_asked_10 : decode cX5_asked 10 = .ok (.if_icmp .eq 18, 3) := by decide +kernel
theorem dX5_asked_13 : decode cX5_asked 13 = .ok (.aload_n 0, 1) := by decide +kernel
theorem dX5_asked_14 : decode cX5_asked 14 = .ok (.iload_n 2, 1) := by decide +kernel
theorem dX5_asked_15 : decode cX5_asked 15 = .ok (.invokevirtual 151, 3) := by decide +kernel
theorem dX5_asked_18 : decode cX5_asked 18 = .ok (.ifCond .ne 10, 3) := by decide +kernel
theorem dX5_asked_21 : decode cX5_asked 21 = .ok (.aload_n 0, 1) := by decide +kernel
theorem dX5_asked_22 : decode cX5_asked 22 = .ok (.bipush (-2), 2) := by decide +kernel
theorem dX5_asked_24 : decode cX5_asked 24 = .ok (.invokevirtual 65, 3) := by decide +kernel
theorem dX5_asked_27 : decode cX5_asked 27 = .ok (.ireturn, 1) := by decide +kernel
theorem dX5_asked_28 : decode cX5_asked 28 = .ok (.aload_n 0, 1) := by decide +kernel
theorem dX5_asked_29 : decode cX5_asked 29 = .ok (.getfield 27, 3) := by decide +kernel
theorem dX5_asked_32 : decode cX5_asked 32 = .ok (.iload_n 1, 1) := by decide +kernel
theorem dX5_asked_33 : decode cX5_asked 33 = .ok (.invokevirtual 265, 3) := by decide +kernel
theorem dX5_asked_36 : decode cX5_asked 36 = .ok (.istore_n 3, 1) := by decide +kernel
theorem dX5_asked_37 : decode cX5_asked 37 = .ok (.iload_n 3, 1) := by decide +kernel
theorem dX5_asked_38 : decode cX5_asked 38 = .ok (.iconst (-1), 1) := by decide +kernel
theorem dX5_asked_39 : decode cX5_asked 39 = .ok (.if_icmp .eq 8, 3) := by decide +kernel
theorem dX5_asked_42 : decode cX5_asked 42 = .ok (.iload_n 2, 1) := by decide +kernel
theorem dX5_asked_43 : decode cX5_asked 43 = .ok (.iconst (-1), 1) := by decide +kernel
theorem dX5_asked_44 : decode cX5_asked 44 = .ok (.if_icmp .ne 7, 3) := by decide +kernel
theorem dX5_asked_47 : decode cX5_asked 47 = .ok (.iload_n 3, 1) := by decide +kernel
theorem dX5_asked_48 : decode cX5_asked 48 = .ok (.goto 11, 3) := by decide +kernel
theorem dX5_asked_51 : decode cX5_asked 51 = .ok (.aload_n 0, 1) := by decide +kernel
theorem dX5_asked_52 : decode cX5_asked 52 = .ok (.getfield 27, 3) := by decide +kernel
theorem dX5_asked_55 : decode cX5_asked 55 = .ok (.iload_n 2, 1) := by decide +kernel
theorem dX5_asked_56 : decode cX5_asked 56 = .ok (.invokevirtual 259, 3) := by decide +kernel
theorem dX5_asked_59 : decode cX5_asked 59 = .ok (.ireturn, 1) := by decide +kernel
theorem dX5_toOpen_0 : decode cX5_toOpen 0 = .ok (.aload_n 0, 1) := by decide +kernel
theorem dX5_toOpen_1 : decode cX5_toOpen 1 = .ok (.iload_n 1, 1) := by decide +kernel
theorem dX5_toOpen_2 : decode cX5_toOpen 2 = .ok (.invokevirtual 117, 3) := by decide +kernel
theorem dX5_toOpen_5 : decode cX5_toOpen 5 = .ok (.ifCond .eq 23, 3) := by decide +kernel
theorem dX5_toOpen_8 : decode cX5_toOpen 8 = .ok (.aload_n 0, 1) := by decide +kernel
theorem dX5_toOpen_9 : decode cX5_toOpen 9 = .ok (.iload_n 2, 1) := by decide +kernel
theorem dX5_toOpen_10 : decode cX5_toOpen 10 = .ok (.invokevirtual 148, 3) := by decide +kernel
theorem dX5_toOpen_13 : decode cX5_toOpen 13 = .ok (.ifCond .eq 15, 3) := by decide +kernel
theorem dX5_toOpen_16 : decode cX5_toOpen 16 = .ok (.aload_n 0, 1) := by decide +kernel
theorem dX5_toOpen_17 : decode cX5_toOpen 17 = .ok (.getfield 27, 3) := by decide +kernel
theorem dX5_toOpen_20 : decode cX5_toOpen 20 = .ok (.iload_n 1, 1) := by decide +kernel
theorem dX5_toOpen_21 : decode cX5_toOpen 21 = .ok (.iload_n 2, 1) := by decide +kernel
theorem dX5_toOpen_22 : decode cX5_toOpen 22 = .ok (.invokevirtual 268, 3) := by decide +kernel
theorem dX5_toOpen_25 : decode cX5_toOpen 25 = .ok (.goto 9, 3) := by decide +kernel
theorem dX5_toOpen_28 : decode cX5_toOpen 28 = .ok (.aload_n 0, 1) := by decide +kernel
theorem dX5_toOpen_29 : decode cX5_toOpen 29 = .ok (.bipush (-2), 2) := by decide +kernel
theorem dX5_toOpen_31 : decode cX5_toOpen 31 = .ok (.invokevirtual 65, 3) := by decide +kernel
theorem dX5_toOpen_34 : decode cX5_toOpen 34 = .ok (.ireturn, 1) := by decide +kernel
theorem dX5_safe_0 : decode cX5_safe 0 = .ok (.aload_n 0, 1) := by decide +kernel
theorem dX5_safe_1 : decode cX5_safe 1 = .ok (.iload_n 1, 1) := by decide +kernel
theorem dX5_safe_2 : decode cX5_safe 2 = .ok (.invokevirtual 148, 3) := by decide +kernel
theorem dX5_safe_5 : decode cX5_safe 5 = .ok (.ifCond .eq 14, 3) := by decide +kernel
theorem dX5_safe_8 : decode cX5_safe 8 = .ok (.aload_n 0, 1) := by decide +kernel
theorem dX5_safe_9 : decode cX5_safe 9 = .ok (.getfield 27, 3) := by decide +kernel
theorem dX5_safe_12 : decode cX5_safe 12 = .ok (.iload_n 1, 1) := by decide +kernel
theorem dX5_safe_13 : decode cX5_safe 13 = .ok (.invokevirtual 271, 3) := by decide +kernel
theorem dX5_safe_16 : decode cX5_safe 16 = .ok (.goto 9, 3) := by decide +kernel
theorem dX5_safe_19 : decode cX5_safe 19 = .ok (.aload_n 0, 1) := by decide +kernel
theorem dX5_safe_20 : decode cX5_safe 20 = .ok (.bipush (-2), 2) := by decide +kernel
theorem dX5_safe_22 : decode cX5_safe 22 = .ok (.invokevirtual 65, 3) := by decide +kernel
theorem dX5_safe_25 : decode cX5_safe 25 = .ok (.ireturn, 1) := by decide +kernel
theorem dX5_safest_0 : decode cX5_safest 0 = .ok (.iconst (-1), 1) := by decide +kernel
theorem dX5_safest_1 : decode cX5_safest 1 = .ok (.istore_n 1, 1) := by decide +kernel
theorem dX5_safest_2 : decode cX5_safest 2 = .ok (.iconst (-1), 1) := by decide +kernel
theorem dX5_safest_3 : decode cX5_safest 3 = .ok (.istore_n 2, 1) := by decide +kernel
theorem dX5_safest_4 : decode cX5_safest 4 = .ok (.iconst 0, 1) := by decide +kernel
theorem dX5_safest_5 : decode cX5_safest 5 = .ok (.istore_n 3, 1) := by decide +kernel
theorem dX5_safest_6 : decode cX5_safest 6 = .ok (.iload_n 3, 1) := by decide +kernel
theorem dX5_safest_7 : decode cX5_safest 7 = .ok (.aload_n 0, 1) := by decide +kernel
theorem dX5_safest_8 : decode cX5_safest 8 = .ok (.getfield 12, 3) := by decide +kernel
theorem dX5_safest_11 : decode cX5_safest 11 = .ok (.getfield 239, 3) := by decide +kernel
theorem dX5_safest_14 : decode cX5_safest 14 = .ok (.if_icmp .ge 33, 3) := by decide +kernel
theorem dX5_safest_17 : decode cX5_safest 17 = .ok (.aload_n 0, 1) := by decide +kernel
theorem dX5_safest_18 : decode cX5_safest 18 = .ok (.getfield 27, 3) := by decide +kernel
theorem dX5_safest_21 : decode cX5_safest 21 = .ok (.iload_n 3, 1) := by decide +kernel
theorem dX5_safest_22 : decode cX5_safest 22 = .ok (.invokevirtual 271, 3) := by decide +kernel
theorem dX5_safest_25 : decode cX5_safest 25 = .ok (.invokestatic 242, 3) := by decide +kernel
theorem dX5_safest_28 : decode cX5_safest 28 = .ok (.istore 4, 2) := by decide +kernel
theorem dX5_safest_30 : decode cX5_safest 30 = .ok (.iload 4, 2) := by decide +kernel
theorem dX5_safest_32 : decode cX5_safest 32 = .ok (.iload_n 2, 1) := by decide +kernel
theorem dX5_safest_33 : decode cX5_safest 33 = .ok (.if_icmp .le 8, 3) := by decide +kernel
theorem dX5_safest_36 : decode cX5_safest 36 = .ok (.iload 4, 2) := by decide +kernel
theorem dX5_safest_38 : decode cX5_safest 38 = .ok (.istore_n 2, 1) := by decide +kernel
theorem dX5_safest_39 : decode cX5_safest 39 = .ok (.iload_n 3, 1) := by decide +kernel
theorem dX5_safest_40 : decode cX5_safest 40 = .ok (.istore_n 1, 1) := by decide +kernel
theorem dX5_safest_41 : decode cX5_safest 41 = .ok (.iinc 3 1, 3) := by decide +kernel
theorem dX5_safest_44 : decode cX5_safest 44 = .ok (.goto (-38), 3) := by decide +kernel
theorem dX5_safest_47 : decode cX5_safest 47 = .ok (.iload_n 1, 1) := by decide +kernel
theorem dX5_safest_48 : decode cX5_safest 48 = .ok (.ireturn, 1) := by decide +kernel
theorem dX5_mended_0 : decode cX5_mended 0 = .ok (.iload_n 1, 1) := by decide +kernel
theorem dX5_mended_1 : decode cX5_mended 1 = .ok (.iconst 0, 1) := by decide +kernel
theorem dX5_mended_2 : decode cX5_mended 2 = .ok (.iconst 1, 1) := by decide +kernel
theorem dX5_mended_3 : decode cX5_mended 3 = .ok (.invokestatic 61, 3) := by decide +kernel
theorem dX5_mended_6 : decode cX5_mended 6 = .ok (.ifCond .ne 10, 3) := by decide +kernel
theorem dX5_mended_9 : decode cX5_mended 9 = .ok (.aload_n 0, 1) := by decide +kernel
theorem dX5_mended_10 : decode cX5_mended 10 = .ok (.bipush (-2), 2) := by decide +kernel
theorem dX5_mended_12 : decode cX5_mended 12 = .ok (.invokevirtual 65, 3) := by decide +kernel
theorem dX5_mended_15 : decode cX5_mended 15 = .ok (.ireturn, 1) := by decide +kernel
theorem dX5_mended_16 : decode cX5_mended 16 = .ok (.aload_n 0, 1) := by decide +kernel
theorem dX5_mended_17 : decode cX5_mended 17 = .ok (.getfield 27, 3) := by decide +kernel
theorem dX5_mended_20 : decode cX5_mended 20 = .ok (.invokevirtual 274, 3) := by decide +kernel
theorem dX5_mended_23 : decode cX5_mended 23 = .ok (.iload_n 1, 1) := by decide +kernel
theorem dX5_mended_24 : decode cX5_mended 24 = .ok (.ifCond .ne 13, 3) := by decide +kernel
theorem dX5_mended_27 : decode cX5_mended 27 = .ok (.aload_n 0, 1) := by decide +kernel
theorem dX5_mended_28 : decode cX5_mended 28 = .ok (.getfield 27, 3) := by decide +kernel
theorem dX5_mended_31 : decode cX5_mended 31 = .ok (.invokevirtual 277, 3) := by decide +kernel
theorem dX5_mended_34 : decode cX5_mended 34 = .ok (.goto 10, 3) := by decide +kernel
theorem dX5_mended_37 : decode cX5_mended 37 = .ok (.aload_n 0, 1) := by decide +kernel
theorem dX5_mended_38 : decode cX5_mended 38 = .ok (.getfield 27, 3) := by decide +kernel
theorem dX5_mended_41 : decode cX5_mended 41 = .ok (.invokevirtual 280, 3) := by decide +kernel
theorem dX5_mended_44 : decode cX5_mended 44 = .ok (.ireturn, 1) := by decide +kernel
theorem dX5_left_0 : decode cX5_left 0 = .ok (.aload_n 0, 1) := by decide +kernel
theorem dX5_left_1 : decode cX5_left 1 = .ok (.iload_n 1, 1) := by decide +kernel
theorem dX5_left_2 : decode cX5_left 2 = .ok (.invokevirtual 117, 3) := by decide +kernel
theorem dX5_left_5 : decode cX5_left 5 = .ok (.ifCond .ne 10, 3) := by decide +kernel
theorem dX5_left_8 : decode cX5_left 8 = .ok (.aload_n 0, 1) := by decide +kernel
theorem dX5_left_9 : decode cX5_left 9 = .ok (.bipush (-2), 2) := by decide +kernel
theorem dX5_left_11 : decode cX5_left 11 = .ok (.invokevirtual 65, 3) := by decide +kernel
theorem dX5_left_14 : decode cX5_left 14 = .ok (.ireturn, 1) := by decide +kernel
theorem dX5_left_15 : decode cX5_left 15 = .ok (.aload_n 0, 1) := by decide +kernel
theorem dX5_left_16 : decode cX5_left 16 = .ok (.getfield 12, 3) := by decide +kernel
theorem dX5_left_19 : decode cX5_left 19 = .ok (.iload_n 1, 1) := by decide +kernel
theorem dX5_left_20 : decode cX5_left 20 = .ok (.invokevirtual 119, 3) := by decide +kernel
theorem dX5_left_23 : decode cX5_left 23 = .ok (.astore_n 2, 1) := by decide +kernel
theorem dX5_left_24 : decode cX5_left 24 = .ok (.iconst 0, 1) := by decide +kernel
theorem dX5_left_25 : decode cX5_left 25 = .ok (.aload_n 0, 1) := by decide +kernel
theorem dX5_left_26 : decode cX5_left 26 = .ok (.getfield 12, 3) := by decide +kernel
theorem dX5_left_29 : decode cX5_left 29 = .ok (.aload_n 2, 1) := by decide +kernel
theorem dX5_left_30 : decode cX5_left 30 = .ok (.invokevirtual 283, 3) := by decide +kernel
theorem dX5_left_33 : decode cX5_left 33 = .ok (.aload_n 0, 1) := by decide +kernel
theorem dX5_left_34 : decode cX5_left 34 = .ok (.getfield 12, 3) := by decide +kernel
theorem dX5_left_37 : decode cX5_left 37 = .ok (.aload_n 2, 1) := by decide +kernel
theorem dX5_left_38 : decode cX5_left 38 = .ok (.getfield 175, 3) := by decide +kernel
theorem dX5_left_41 : decode cX5_left 41 = .ok (.invokevirtual 206, 3) := by decide +kernel
theorem dX5_left_44 : decode cX5_left 44 = .ok (.isub, 1) := by decide +kernel
theorem dX5_left_45 : decode cX5_left 45 = .ok (.invokestatic 287, 3) := by decide +kernel
theorem dX5_left_48 : decode cX5_left 48 = .ok (.ireturn, 1) := by decide +kernel
theorem dX5_idle_0 : decode cX5_idle 0 = .ok (.aload_n 0, 1) := by decide +kernel
theorem dX5_idle_1 : decode cX5_idle 1 = .ok (.iload_n 1, 1) := by decide +kernel
theorem dX5_idle_2 : decode cX5_idle 2 = .ok (.invokevirtual 151, 3) := by decide +kernel
theorem dX5_idle_5 : decode cX5_idle 5 = .ok (.ifCond .ne 10, 3) := by decide +kernel
theorem dX5_idle_8 : decode cX5_idle 8 = .ok (.aload_n 0, 1) := by decide +kernel
theorem dX5_idle_9 : decode cX5_idle 9 = .ok (.bipush (-2), 2) := by decide +kernel
theorem dX5_idle_11 : decode cX5_idle 11 = .ok (.invokevirtual 65, 3) := by decide +kernel
theorem dX5_idle_14 : decode cX5_idle 14 = .ok (.ireturn, 1) := by decide +kernel
theorem dX5_idle_15 : decode cX5_idle 15 = .ok (.aload_n 0, 1) := by decide +kernel
theorem dX5_idle_16 : decode cX5_idle 16 = .ok (.getfield 12, 3) := by decide +kernel
theorem dX5_idle_19 : decode cX5_idle 19 = .ok (.iload_n 1, 1) := by decide +kernel
theorem dX5_idle_20 : decode cX5_idle 20 = .ok (.iconst 0, 1) := by decide +kernel
theorem dX5_idle_21 : decode cX5_idle 21 = .ok (.invokevirtual 292, 3) := by decide +kernel
theorem dX5_idle_24 : decode cX5_idle 24 = .ok (.invokestatic 242, 3) := by decide +kernel
theorem dX5_idle_27 : decode cX5_idle 27 = .ok (.ireturn, 1) := by decide +kernel
theorem dX5_together_0 : decode cX5_together 0 = .ok (.aload_n 0, 1) := by decide +kernel
theorem dX5_together_1 : decode cX5_together 1 = .ok (.iload_n 1, 1) := by decide +kernel
theorem dX5_together_2 : decode cX5_together 2 = .ok (.invokevirtual 117, 3) := by decide +kernel
theorem dX5_together_5 : decode cX5_together 5 = .ok (.ifCond .eq 16, 3) := by decide +kernel
theorem dX5_together_8 : decode cX5_together 8 = .ok (.aload_n 0, 1) := by decide +kernel
theorem dX5_together_9 : decode cX5_together 9 = .ok (.iload_n 2, 1) := by decide +kernel
theorem dX5_together_10 : decode cX5_together 10 = .ok (.invokevirtual 117, 3) := by decide +kernel
theorem dX5_together_13 : decode cX5_together 13 = .ok (.ifCond .eq 8, 3) := by decide +kernel
theorem dX5_together_16 : decode cX5_together 16 = .ok (.iload_n 1, 1) := by decide +kernel
theorem dX5_together_17 : decode cX5_together 17 = .ok (.iload_n 2, 1) := by decide +kernel
theorem dX5_together_18 : decode cX5_together 18 = .ok (.if_icmp .ne 10, 3) := by decide +kernel
theorem dX5_together_21 : decode cX5_together 21 = .ok (.aload_n 0, 1) := by decide +kernel
theorem dX5_together_22 : decode cX5_together 22 = .ok (.bipush (-2), 2) := by decide +kernel
theorem dX5_together_24 : decode cX5_together 24 = .ok (.invokevirtual 65, 3) := by decide +kernel
theorem dX5_together_27 : decode cX5_together 27 = .ok (.ireturn, 1) := by decide +kernel
theorem dX5_together_28 : decode cX5_together 28 = .ok (.aload_n 0, 1) := by decide +kernel
theorem dX5_together_29 : decode cX5_together 29 = .ok (.getfield 27, 3) := by decide +kernel
theorem dX5_together_32 : decode cX5_together 32 = .ok (.iload_n 1, 1) := by decide +kernel
theorem dX5_together_33 : decode cX5_together 33 = .ok (.iload_n 2, 1) := by decide +kernel
theorem dX5_together_34 : decode cX5_together 34 = .ok (.invokevirtual 295, 3) := by decide +kernel
theorem dX5_together_37 : decode cX5_together 37 = .ok (.ireturn, 1) := by decide +kernel
theorem dX5_pair_0 : decode cX5_pair 0 = .ok (.aload_n 0, 1) := by decide +kernel
theorem dX5_pair_1 : decode cX5_pair 1 = .ok (.getfield 12, 3) := by decide +kernel
theorem dX5_pair_4 : decode cX5_pair 4 = .ok (.getfield 236, 3) := by decide +kernel
theorem dX5_pair_7 : decode cX5_pair 7 = .ok (.iconst 2, 1) := by decide +kernel
theorem dX5_pair_8 : decode cX5_pair 8 = .ok (.if_icmp .ge 12, 3) := by decide +kernel
theorem dX5_pair_11 : decode cX5_pair 11 = .ok (.aload_n 0, 1) := by decide +kernel
theorem dX5_pair_12 : decode cX5_pair 12 = .ok (.bipush (-5), 2) := by decide +kernel
theorem dX5_pair_14 : decode cX5_pair 14 = .ok (.invokevirtual 65, 3) := by decide +kernel
theorem dX5_pair_17 : decode cX5_pair 17 = .ok (.goto 10, 3) := by decide +kernel
theorem dX5_pair_20 : decode cX5_pair 20 = .ok (.aload_n 0, 1) := by decide +kernel
theorem dX5_pair_21 : decode cX5_pair 21 = .ok (.getfield 27, 3) := by decide +kernel
theorem dX5_pair_24 : decode cX5_pair 24 = .ok (.invokevirtual 298, 3) := by decide +kernel
theorem dX5_pair_27 : decode cX5_pair 27 = .ok (.ireturn, 1) := by decide +kernel
theorem dX5_unlike_0 : decode cX5_unlike 0 = .ok (.aload_n 0, 1) := by decide +kernel
theorem dX5_unlike_1 : decode cX5_unlike 1 = .ok (.getfield 27, 3) := by decide +kernel
theorem dX5_unlike_4 : decode cX5_unlike 4 = .ok (.invokevirtual 301, 3) := by decide +kernel
theorem dX5_unlike_7 : decode cX5_unlike 7 = .ok (.ireturn, 1) := by decide +kernel
theorem dX5_alike_0 : decode cX5_alike 0 = .ok (.iconst 0, 1) := by decide +kernel
theorem dX5_alike_1 : decode cX5_alike 1 = .ok (.istore_n 1, 1) := by decide +kernel
theorem dX5_alike_2 : decode cX5_alike 2 = .ok (.iload_n 1, 1) := by decide +kernel
theorem dX5_alike_3 : decode cX5_alike 3 = .ok (.aload_n 0, 1) := by decide +kernel
theorem dX5_alike_4 : decode cX5_alike 4 = .ok (.getfield 12, 3) := by decide +kernel
theorem dX5_alike_7 : decode cX5_alike 7 = .ok (.getfield 239, 3) := by decide +kernel
theorem dX5_alike_10 : decode cX5_alike 10 = .ok (.if_icmp .ge 52, 3) := by decide +kernel
theorem dX5_alike_13 : decode cX5_alike 13 = .ok (.iconst 0, 1) := by decide +kernel
theorem dX5_alike_14 : decode cX5_alike 14 = .ok (.istore_n 2, 1) := by decide +kernel
theorem dX5_alike_15 : decode cX5_alike 15 = .ok (.iload_n 2, 1) := by decide +kernel
theorem dX5_alike_16 : decode cX5_alike 16 = .ok (.aload_n 0, 1) := by decide +kernel
theorem dX5_alike_17 : decode cX5_alike 17 = .ok (.getfield 12, 3) := by decide +kernel
theorem dX5_alike_20 : decode cX5_alike 20 = .ok (.getfield 239, 3) := by decide +kernel
theorem dX5_alike_23 : decode cX5_alike 23 = .ok (.if_icmp .ge 33, 3) := by decide +kernel
theorem dX5_alike_26 : decode cX5_alike 26 = .ok (.iload_n 1, 1) := by decide +kernel
theorem dX5_alike_27 : decode cX5_alike 27 = .ok (.iload_n 2, 1) := by decide +kernel
theorem dX5_alike_28 : decode cX5_alike 28 = .ok (.if_icmp .eq 22, 3) := by decide +kernel
theorem dX5_alike_31 : decode cX5_alike 31 = .ok (.aload_n 0, 1) := by decide +kernel
theorem dX5_alike_32 : decode cX5_alike 32 = .ok (.getfield 12, 3) := by decide +kernel
theorem dX5_alike_35 : decode cX5_alike 35 = .ok (.iload_n 1, 1) := by decide +kernel
theorem dX5_alike_36 : decode cX5_alike 36 = .ok (.iload_n 2, 1) := by decide +kernel
theorem dX5_alike_37 : decode cX5_alike 37 = .ok (.invokevirtual 304, 3) := by decide +kernel
theorem dX5_alike_40 : decode cX5_alike 40 = .ok (.ifCond .eq 10, 3) := by decide +kernel
theorem dX5_alike_43 : decode cX5_alike 43 = .ok (.bipush 10, 2) := by decide +kernel
theorem dX5_alike_45 : decode cX5_alike 45 = .ok (.iload_n 1, 1) := by decide +kernel
theorem dX5_alike_46 : decode cX5_alike 46 = .ok (.imul, 1) := by decide +kernel
theorem dX5_alike_47 : decode cX5_alike 47 = .ok (.iload_n 2, 1) := by decide +kernel
theorem dX5_alike_48 : decode cX5_alike 48 = .ok (.iadd, 1) := by decide +kernel
theorem dX5_alike_49 : decode cX5_alike 49 = .ok (.ireturn, 1) := by decide +kernel
theorem dX5_alike_50 : decode cX5_alike 50 = .ok (.iinc 2 1, 3) := by decide +kernel
theorem dX5_alike_53 : decode cX5_alike 53 = .ok (.goto (-38), 3) := by decide +kernel
theorem dX5_alike_56 : decode cX5_alike 56 = .ok (.iinc 1 1, 3) := by decide +kernel
theorem dX5_alike_59 : decode cX5_alike 59 = .ok (.goto (-57), 3) := by decide +kernel
theorem dX5_alike_62 : decode cX5_alike 62 = .ok (.iconst (-1), 1) := by decide +kernel
theorem dX5_alike_63 : decode cX5_alike 63 = .ok (.ireturn, 1) := by decide +kernel
theorem dX5_over_0 : decode cX5_over 0 = .ok (.aload_n 0, 1) := by decide +kernel
theorem dX5_over_1 : decode cX5_over 1 = .ok (.iload_n 1, 1) := by decide +kernel
theorem dX5_over_2 : decode cX5_over 2 = .ok (.invokevirtual 117, 3) := by decide +kernel
theorem dX5_over_5 : decode cX5_over 5 = .ok (.ifCond .eq 14, 3) := by decide +kernel
theorem dX5_over_8 : decode cX5_over 8 = .ok (.aload_n 0, 1) := by decide +kernel
theorem dX5_over_9 : decode cX5_over 9 = .ok (.getfield 27, 3) := by decide +kernel
theorem dX5_over_12 : decode cX5_over 12 = .ok (.iload_n 1, 1) := by decide +kernel
theorem dX5_over_13 : decode cX5_over 13 = .ok (.invokevirtual 307, 3) := by decide +kernel
theorem dX5_over_16 : decode cX5_over 16 = .ok (.goto 9, 3) := by decide +kernel
theorem dX5_over_19 : decode cX5_over 19 = .ok (.aload_n 0, 1) := by decide +kernel
theorem dX5_over_20 : decode cX5_over 20 = .ok (.bipush (-2), 2) := by decide +kernel
theorem dX5_over_22 : decode cX5_over 22 = .ok (.invokevirtual 65, 3) := by decide +kernel
theorem dX5_over_25 : decode cX5_over 25 = .ok (.ireturn, 1) := by decide +kernel
theorem dX5_chain_0 : decode cX5_chain 0 = .ok (.aload_n 0, 1) := by decide +kernel
theorem dX5_chain_1 : decode cX5_chain 1 = .ok (.getfield 27, 3) := by decide +kernel
theorem dX5_chain_4 : decode cX5_chain 4 = .ok (.invokevirtual 310, 3) := by decide +kernel
theorem dX5_chain_7 : decode cX5_chain 7 = .ok (.ireturn, 1) := by decide +kernel
theorem dX5_ward_0 : decode cX5_ward 0 = .ok (.aload_n 0, 1) := by decide +kernel
theorem dX5_ward_1 : decode cX5_ward 1 = .ok (.iload_n 1, 1) := by decide +kernel
theorem dX5_ward_2 : decode cX5_ward 2 = .ok (.invokevirtual 148, 3) := by decide +kernel
theorem dX5_ward_5 : decode cX5_ward 5 = .ok (.ifCond .ne 10, 3) := by decide +kernel
theorem dX5_ward_8 : decode cX5_ward 8 = .ok (.aload_n 0, 1) := by decide +kernel
theorem dX5_ward_9 : decode cX5_ward 9 = .ok (.bipush (-2), 2) := by decide +kernel
theorem dX5_ward_11 : decode cX5_ward 11 = .ok (.invokevirtual 65, 3) := by decide +kernel
theorem dX5_ward_14 : decode cX5_ward 14 = .ok (.ireturn, 1) := by decide +kernel
theorem dX5_ward_15 : decode cX5_ward 15 = .ok (.aload_n 0, 1) := by decide +kernel
theorem dX5_ward_16 : decode cX5_ward 16 = .ok (.getfield 12, 3) := by decide +kernel
theorem dX5_ward_19 : decode cX5_ward 19 = .ok (.iload_n 1, 1) := by decide +kernel
theorem dX5_ward_20 : decode cX5_ward 20 = .ok (.invokevirtual 217, 3) := by decide +kernel
theorem dX5_ward_23 : decode cX5_ward 23 = .ok (.ifCond .eq 12, 3) := by decide +kernel
theorem dX5_ward_26 : decode cX5_ward 26 = .ok (.aload_n 0, 1) := by decide +kernel
theorem dX5_ward_27 : decode cX5_ward 27 = .ok (.bipush (-5), 2) := by decide +kernel
theorem dX5_ward_29 : decode cX5_ward 29 = .ok (.invokevirtual 65, 3) := by decide +kernel
theorem dX5_ward_32 : decode cX5_ward 32 = .ok (.goto 11, 3) := by decide +kernel
theorem dX5_ward_35 : decode cX5_ward 35 = .ok (.aload_n 0, 1) := by decide +kernel
theorem dX5_ward_36 : decode cX5_ward 36 = .ok (.getfield 27, 3) := by decide +kernel
theorem dX5_ward_39 : decode cX5_ward 39 = .ok (.iload_n 1, 1) := by decide +kernel
theorem dX5_ward_40 : decode cX5_ward 40 = .ok (.invokevirtual 313, 3) := by decide +kernel
theorem dX5_ward_43 : decode cX5_ward 43 = .ok (.ireturn, 1) := by decide +kernel
theorem dX5_found_0 : decode cX5_found 0 = .ok (.aload_n 0, 1) := by decide +kernel
theorem dX5_found_1 : decode cX5_found 1 = .ok (.iload_n 1, 1) := by decide +kernel
theorem dX5_found_2 : decode cX5_found 2 = .ok (.invokevirtual 57, 3) := by decide +kernel
theorem dX5_found_5 : decode cX5_found 5 = .ok (.ifCond .eq 11, 3) := by decide +kernel
theorem dX5_found_8 : decode cX5_found 8 = .ok (.aload_n 0, 1) := by decide +kernel
theorem dX5_found_9 : decode cX5_found 9 = .ok (.iload_n 2, 1) := by decide +kernel
theorem dX5_found_10 : decode cX5_found 10 = .ok (.invokevirtual 253, 3) := by decide +kernel
theorem dX5_found_13 : decode cX5_found 13 = .ok (.ifCond .ne 10, 3) := by decide +kernel
theorem dX5_found_16 : decode cX5_found 16 = .ok (.aload_n 0, 1) := by decide +kernel
theorem dX5_found_17 : decode cX5_found 17 = .ok (.bipush (-2), 2) := by decide +kernel
theorem dX5_found_19 : decode cX5_found 19 = .ok (.invokevirtual 65, 3) := by decide +kernel
theorem dX5_found_22 : decode cX5_found 22 = .ok (.ireturn, 1) := by decide +kernel
theorem dX5_found_23 : decode cX5_found 23 = .ok (.aload_n 0, 1) := by decide +kernel
theorem dX5_found_24 : decode cX5_found 24 = .ok (.iload_n 1, 1) := by decide +kernel
theorem dX5_found_25 : decode cX5_found 25 = .ok (.invokevirtual 69, 3) := by decide +kernel
theorem dX5_found_28 : decode cX5_found 28 = .ok (.astore_n 3, 1) := by decide +kernel
theorem dX5_found_29 : decode cX5_found 29 = .ok (.aload_n 3, 1) := by decide +kernel
theorem dX5_found_30 : decode cX5_found 30 = .ok (.invokevirtual 77, 3) := by decide +kernel
theorem dX5_found_33 : decode cX5_found 33 = .ok (.ifCond .ne 12, 3) := by decide +kernel
theorem dX5_found_36 : decode cX5_found 36 = .ok (.aload_n 0, 1) := by decide +kernel
theorem dX5_found_37 : decode cX5_found 37 = .ok (.aload_n 3, 1) := by decide +kernel
theorem dX5_found_38 : decode cX5_found 38 = .ok (.invokevirtual 81, 3) := by decide +kernel
theorem dX5_found_41 : decode cX5_found 41 = .ok (.invokevirtual 65, 3) := by decide +kernel
theorem dX5_found_44 : decode cX5_found 44 = .ok (.ireturn, 1) := by decide +kernel
theorem dX5_found_45 : decode cX5_found 45 = .ok (.aload_n 0, 1) := by decide +kernel
theorem dX5_found_46 : decode cX5_found 46 = .ok (.aload_n 3, 1) := by decide +kernel
theorem dX5_found_47 : decode cX5_found 47 = .ok (.invokevirtual 316, 3) := by decide +kernel
theorem dX5_found_50 : decode cX5_found 50 = .ok (.ifCond .ne 10, 3) := by decide +kernel
theorem dX5_found_53 : decode cX5_found 53 = .ok (.aload_n 0, 1) := by decide +kernel
theorem dX5_found_54 : decode cX5_found 54 = .ok (.bipush (-2), 2) := by decide +kernel
theorem dX5_found_56 : decode cX5_found 56 = .ok (.invokevirtual 65, 3) := by decide +kernel
theorem dX5_found_59 : decode cX5_found 59 = .ok (.ireturn, 1) := by decide +kernel
theorem dX5_found_60 : decode cX5_found 60 = .ok (.iconst 0, 1) := by decide +kernel
theorem dX5_found_61 : decode cX5_found 61 = .ok (.istore 4, 2) := by decide +kernel
theorem dX5_found_63 : decode cX5_found 63 = .ok (.iload 4, 2) := by decide +kernel
theorem dX5_found_65 : decode cX5_found 65 = .ok (.aload_n 0, 1) := by decide +kernel
theorem dX5_found_66 : decode cX5_found 66 = .ok (.getfield 12, 3) := by decide +kernel
theorem dX5_found_69 : decode cX5_found 69 = .ok (.getfield 320, 3) := by decide +kernel
theorem dX5_found_72 : decode cX5_found 72 = .ok (.if_icmp .ge 25, 3) := by decide +kernel
theorem dX5_found_75 : decode cX5_found 75 = .ok (.aload_n 0, 1) := by decide +kernel
theorem dX5_found_76 : decode cX5_found 76 = .ok (.getfield 27, 3) := by decide +kernel
theorem dX5_found_79 : decode cX5_found 79 = .ok (.iload 4, 2) := by decide +kernel
theorem dX5_found_81 : decode cX5_found 81 = .ok (.aload_n 3, 1) := by decide +kernel
theorem dX5_found_82 : decode cX5_found 82 = .ok (.iload 4, 2) := by decide +kernel
theorem dX5_found_84 : decode cX5_found 84 = .ok (.invokevirtual 113, 3) := by decide +kernel
theorem dX5_found_87 : decode cX5_found 87 = .ok (.l2i, 1) := by decide +kernel
theorem dX5_found_88 : decode cX5_found 88 = .ok (.invokevirtual 323, 3) := by decide +kernel
theorem dX5_found_91 : decode cX5_found 91 = .ok (.iinc 4 1, 3) := by decide +kernel
theorem dX5_found_94 : decode cX5_found 94 = .ok (.goto (-31), 3) := by decide +kernel
theorem dX5_found_97 : decode cX5_found 97 = .ok (.aload_n 0, 1) := by decide +kernel
theorem dX5_found_98 : decode cX5_found 98 = .ok (.getfield 27, 3) := by decide +kernel
theorem dX5_found_101 : decode cX5_found 101 = .ok (.iload_n 2, 1) := by decide +kernel
theorem dX5_found_102 : decode cX5_found 102 = .ok (.invokevirtual 326, 3) := by decide +kernel
theorem dX5_found_105 : decode cX5_found 105 = .ok (.ireturn, 1) := by decide +kernel
theorem dX5_many_0 : decode cX5_many 0 = .ok (.aload_n 0, 1) := by decide +kernel
theorem dX5_many_1 : decode cX5_many 1 = .ok (.iload_n 1, 1) := by decide +kernel
theorem dX5_many_2 : decode cX5_many 2 = .ok (.invokevirtual 253, 3) := by decide +kernel
theorem dX5_many_5 : decode cX5_many 5 = .ok (.ifCond .eq 14, 3) := by decide +kernel
theorem dX5_many_8 : decode cX5_many 8 = .ok (.aload_n 0, 1) := by decide +kernel
theorem dX5_many_9 : decode cX5_many 9 = .ok (.getfield 27, 3) := by decide +kernel
theorem dX5_many_12 : decode cX5_many 12 = .ok (.iload_n 1, 1) := by decide +kernel
theorem dX5_many_13 : decode cX5_many 13 = .ok (.invokevirtual 329, 3) := by decide +kernel
theorem dX5_many_16 : decode cX5_many 16 = .ok (.goto 9, 3) := by decide +kernel
theorem dX5_many_19 : decode cX5_many 19 = .ok (.aload_n 0, 1) := by decide +kernel
theorem dX5_many_20 : decode cX5_many 20 = .ok (.bipush (-2), 2) := by decide +kernel
theorem dX5_many_22 : decode cX5_many 22 = .ok (.invokevirtual 65, 3) := by decide +kernel
theorem dX5_many_25 : decode cX5_many 25 = .ok (.ireturn, 1) := by decide +kernel
theorem dX5_use_0 : decode cX5_use 0 = .ok (.aload_n 0, 1) := by decide +kernel
theorem dX5_use_1 : decode cX5_use 1 = .ok (.iload_n 1, 1) := by decide +kernel
theorem dX5_use_2 : decode cX5_use 2 = .ok (.invokevirtual 117, 3) := by decide +kernel
theorem dX5_use_5 : decode cX5_use 5 = .ok (.ifCond .eq 11, 3) := by decide +kernel
theorem dX5_use_8 : decode cX5_use 8 = .ok (.aload_n 0, 1) := by decide +kernel
theorem dX5_use_9 : decode cX5_use 9 = .ok (.iload_n 2, 1) := by decide +kernel
theorem dX5_use_10 : decode cX5_use 10 = .ok (.invokevirtual 148, 3) := by decide +kernel
theorem dX5_use_13 : decode cX5_use 13 = .ok (.ifCond .ne 10, 3) := by decide +kernel
theorem dX5_use_16 : decode cX5_use 16 = .ok (.aload_n 0, 1) := by decide +kernel
theorem dX5_use_17 : decode cX5_use 17 = .ok (.bipush (-2), 2) := by decide +kernel
theorem dX5_use_19 : decode cX5_use 19 = .ok (.invokevirtual 65, 3) := by decide +kernel
theorem dX5_use_22 : decode cX5_use 22 = .ok (.ireturn, 1) := by decide +kernel
theorem dX5_use_23 : decode cX5_use 23 = .ok (.aload_n 0, 1) := by decide +kernel
theorem dX5_use_24 : decode cX5_use 24 = .ok (.getfield 12, 3) := by decide +kernel
theorem dX5_use_27 : decode cX5_use 27 = .ok (.iload_n 1, 1) := by decide +kernel
theorem dX5_use_28 : decode cX5_use 28 = .ok (.invokevirtual 227, 3) := by decide +kernel
theorem dX5_use_31 : decode cX5_use 31 = .ok (.iload_n 2, 1) := by decide +kernel
theorem dX5_use_32 : decode cX5_use 32 = .ok (.invokestatic 230, 3) := by decide +kernel
theorem dX5_use_35 : decode cX5_use 35 = .ok (.ifCond .ne 10, 3) := by decide +kernel
theorem dX5_use_38 : decode cX5_use 38 = .ok (.aload_n 0, 1) := by decide +kernel
theorem dX5_use_39 : decode cX5_use 39 = .ok (.bipush (-5), 2) := by decide +kernel
theorem dX5_use_41 : decode cX5_use 41 = .ok (.invokevirtual 65, 3) := by decide +kernel
theorem dX5_use_44 : decode cX5_use 44 = .ok (.ireturn, 1) := by decide +kernel
theorem dX5_use_45 : decode cX5_use 45 = .ok (.aload_n 0, 1) := by decide +kernel
theorem dX5_use_46 : decode cX5_use 46 = .ok (.getfield 12, 3) := by decide +kernel
theorem dX5_use_49 : decode cX5_use 49 = .ok (.aload_n 0, 1) := by decide +kernel
theorem dX5_use_50 : decode cX5_use 50 = .ok (.getfield 12, 3) := by decide +kernel
theorem dX5_use_53 : decode cX5_use 53 = .ok (.iload_n 1, 1) := by decide +kernel
theorem dX5_use_54 : decode cX5_use 54 = .ok (.invokevirtual 119, 3) := by decide +kernel
theorem dX5_use_57 : decode cX5_use 57 = .ok (.invokevirtual 332, 3) := by decide +kernel
theorem dX5_use_60 : decode cX5_use 60 = .ok (.ifCond .eq 7, 3) := by decide +kernel
theorem dX5_use_63 : decode cX5_use 63 = .ok (.iconst 1, 1) := by decide +kernel
theorem dX5_use_64 : decode cX5_use 64 = .ok (.goto 4, 3) := by decide +kernel
theorem dX5_use_67 : decode cX5_use 67 = .ok (.iconst 0, 1) := by decide +kernel
theorem dX5_use_68 : decode cX5_use 68 = .ok (.ireturn, 1) := by decide +kernel
theorem dX5_days_0 : decode cX5_days 0 = .ok (.iload_n 1, 1) := by decide +kernel
theorem dX5_days_1 : decode cX5_days 1 = .ok (.iconst 1, 1) := by decide +kernel
theorem dX5_days_2 : decode cX5_days 2 = .ok (.bipush 40, 2) := by decide +kernel
theorem dX5_days_4 : decode cX5_days 4 = .ok (.invokestatic 61, 3) := by decide +kernel
theorem dX5_days_7 : decode cX5_days 7 = .ok (.ifCond .ne 10, 3) := by decide +kernel
theorem dX5_days_10 : decode cX5_days 10 = .ok (.aload_n 0, 1) := by decide +kernel
theorem dX5_days_11 : decode cX5_days 11 = .ok (.bipush (-2), 2) := by decide +kernel
theorem dX5_days_13 : decode cX5_days 13 = .ok (.invokevirtual 65, 3) := by decide +kernel
theorem dX5_days_16 : decode cX5_days 16 = .ok (.ireturn, 1) := by decide +kernel
theorem dX5_days_17 : decode cX5_days 17 = .ok (.aload_n 0, 1) := by decide +kernel
theorem dX5_days_18 : decode cX5_days 18 = .ok (.getfield 12, 3) := by decide +kernel
theorem dX5_days_21 : decode cX5_days 21 = .ok (.getfield 236, 3) := by decide +kernel
theorem dX5_days_24 : decode cX5_days 24 = .ok (.ifCond .eq 13, 3) := by decide +kernel
theorem dX5_days_27 : decode cX5_days 27 = .ok (.aload_n 0, 1) := by decide +kernel
theorem dX5_days_28 : decode cX5_days 28 = .ok (.getfield 12, 3) := by decide +kernel
theorem dX5_days_31 : decode cX5_days 31 = .ok (.getfield 239, 3) := by decide +kernel
theorem dX5_days_34 : decode cX5_days 34 = .ok (.ifCond .ne 10, 3) := by decide +kernel
theorem dX5_days_37 : decode cX5_days 37 = .ok (.aload_n 0, 1) := by decide +kernel
theorem dX5_days_38 : decode cX5_days 38 = .ok (.bipush (-5), 2) := by decide +kernel
theorem dX5_days_40 : decode cX5_days 40 = .ok (.invokevirtual 65, 3) := by decide +kernel
theorem dX5_days_43 : decode cX5_days 43 = .ok (.ireturn, 1) := by decide +kernel
theorem dX5_days_44 : decode cX5_days 44 = .ok (.iconst 0, 1) := by decide +kernel
theorem dX5_days_45 : decode cX5_days 45 = .ok (.istore_n 2, 1) := by decide +kernel
theorem dX5_days_46 : decode cX5_days 46 = .ok (.iconst 0, 1) := by decide +kernel
theorem dX5_days_47 : decode cX5_days 47 = .ok (.istore_n 3, 1) := by decide +kernel
theorem dX5_days_48 : decode cX5_days 48 = .ok (.iload_n 3, 1) := by decide +kernel
theorem dX5_days_49 : decode cX5_days 49 = .ok (.iload_n 1, 1) := by decide +kernel
theorem dX5_days_50 : decode cX5_days 50 = .ok (.if_icmp .ge 22, 3) := by decide +kernel
theorem dX5_days_53 : decode cX5_days 53 = .ok (.aload_n 0, 1) := by decide +kernel
theorem dX5_days_54 : decode cX5_days 54 = .ok (.getfield 12, 3) := by decide +kernel
theorem dX5_days_57 : decode cX5_days 57 = .ok (.invokevirtual 336, 3) := by decide +kernel
theorem dX5_days_60 : decode cX5_days 60 = .ok (.ifCond .eq 6, 3) := by decide +kernel
theorem dX5_days_63 : decode cX5_days 63 = .ok (.iinc 2 1, 3) := by decide +kernel
theorem dX5_days_66 : decode cX5_days 66 = .ok (.iinc 3 1, 3) := by decide +kernel
theorem dX5_days_69 : decode cX5_days 69 = .ok (.goto (-21), 3) := by decide +kernel
theorem dX5_days_72 : decode cX5_days 72 = .ok (.iload_n 2, 1) := by decide +kernel
theorem dX5_days_73 : decode cX5_days 73 = .ok (.ireturn, 1) := by decide +kernel
theorem dX5_renew_0 : decode cX5_renew 0 = .ok (.aload_n 0, 1) := by decide +kernel
theorem dX5_renew_1 : decode cX5_renew 1 = .ok (.iload_n 1, 1) := by decide +kernel
theorem dX5_renew_2 : decode cX5_renew 2 = .ok (.invokevirtual 117, 3) := by decide +kernel
theorem dX5_renew_5 : decode cX5_renew 5 = .ok (.ifCond .ne 10, 3) := by decide +kernel
theorem dX5_renew_8 : decode cX5_renew 8 = .ok (.aload_n 0, 1) := by decide +kernel
theorem dX5_renew_9 : decode cX5_renew 9 = .ok (.bipush (-2), 2) := by decide +kernel
theorem dX5_renew_11 : decode cX5_renew 11 = .ok (.invokevirtual 65, 3) := by decide +kernel
theorem dX5_renew_14 : decode cX5_renew 14 = .ok (.ireturn, 1) := by decide +kernel
theorem dX5_renew_15 : decode cX5_renew 15 = .ok (.aload_n 0, 1) := by decide +kernel
theorem dX5_renew_16 : decode cX5_renew 16 = .ok (.getfield 12, 3) := by decide +kernel
theorem dX5_renew_19 : decode cX5_renew 19 = .ok (.iload_n 1, 1) := by decide +kernel
theorem dX5_renew_20 : decode cX5_renew 20 = .ok (.invokevirtual 119, 3) := by decide +kernel
theorem dX5_renew_23 : decode cX5_renew 23 = .ok (.astore_n 2, 1) := by decide +kernel
theorem dX5_renew_24 : decode cX5_renew 24 = .ok (.aload_n 0, 1) := by decide +kernel
theorem dX5_renew_25 : decode cX5_renew 25 = .ok (.getfield 12, 3) := by decide +kernel
theorem dX5_renew_28 : decode cX5_renew 28 = .ok (.aload_n 2, 1) := by decide +kernel
theorem dX5_renew_29 : decode cX5_renew 29 = .ok (.aload_n 2, 1) := by decide +kernel
theorem dX5_renew_30 : decode cX5_renew 30 = .ok (.getfield 175, 3) := by decide +kernel
theorem dX5_renew_33 : decode cX5_renew 33 = .ok (.invokevirtual 210, 3) := by decide +kernel
theorem dX5_renew_36 : decode cX5_renew 36 = .ok (.ifCond .ne 10, 3) := by decide +kernel
theorem dX5_renew_39 : decode cX5_renew 39 = .ok (.aload_n 0, 1) := by decide +kernel
theorem dX5_renew_40 : decode cX5_renew 40 = .ok (.bipush (-5), 2) := by decide +kernel
theorem dX5_renew_42 : decode cX5_renew 42 = .ok (.invokevirtual 65, 3) := by decide +kernel
theorem dX5_renew_45 : decode cX5_renew 45 = .ok (.ireturn, 1) := by decide +kernel
theorem dX5_renew_46 : decode cX5_renew 46 = .ok (.aload_n 2, 1) := by decide +kernel
theorem dX5_renew_47 : decode cX5_renew 47 = .ok (.getfield 168, 3) := by decide +kernel
theorem dX5_renew_50 : decode cX5_renew 50 = .ok (.istore_n 3, 1) := by decide +kernel
theorem dX5_renew_51 : decode cX5_renew 51 = .ok (.aload_n 2, 1) := by decide +kernel
theorem dX5_renew_52 : decode cX5_renew 52 = .ok (.iconst 0, 1) := by decide +kernel
theorem dX5_renew_53 : decode cX5_renew 53 = .ok (.putfield 168, 3) := by decide +kernel
theorem dX5_renew_56 : decode cX5_renew 56 = .ok (.aload_n 2, 1) := by decide +kernel
theorem dX5_renew_57 : decode cX5_renew 57 = .ok (.getfield 175, 3) := by decide +kernel
theorem dX5_renew_60 : decode cX5_renew 60 = .ok (.iconst 0, 1) := by decide +kernel
theorem dX5_renew_61 : decode cX5_renew 61 = .ok (.invokestatic 339, 3) := by decide +kernel
theorem dX5_renew_64 : decode cX5_renew 64 = .ok (.iload_n 3, 1) := by decide +kernel
theorem dX5_renew_65 : decode cX5_renew 65 = .ok (.ireturn, 1) := by decide +kernel
theorem dX5_mend_0 : decode cX5_mend 0 = .ok (.aload_n 0, 1) := by decide +kernel
theorem dX5_mend_1 : decode cX5_mend 1 = .ok (.getfield 27, 3) := by decide +kernel
theorem dX5_mend_4 : decode cX5_mend 4 = .ok (.invokevirtual 274, 3) := by decide +kernel
theorem dX5_mend_7 : decode cX5_mend 7 = .ok (.aload_n 0, 1) := by decide +kernel
theorem dX5_mend_8 : decode cX5_mend 8 = .ok (.getfield 27, 3) := by decide +kernel
theorem dX5_mend_11 : decode cX5_mend 11 = .ok (.invokevirtual 345, 3) := by decide +kernel
theorem dX5_mend_14 : decode cX5_mend 14 = .ok (.aload_n 0, 1) := by decide +kernel
theorem dX5_mend_15 : decode cX5_mend 15 = .ok (.getfield 27, 3) := by decide +kernel
theorem dX5_mend_18 : decode cX5_mend 18 = .ok (.invokevirtual 277, 3) := by decide +kernel
theorem dX5_mend_21 : decode cX5_mend 21 = .ok (.istore_n 1, 1) := by decide +kernel
theorem dX5_mend_22 : decode cX5_mend 22 = .ok (.aload_n 0, 1) := by decide +kernel
theorem dX5_mend_23 : decode cX5_mend 23 = .ok (.getfield 12, 3) := by decide +kernel
theorem dX5_mend_26 : decode cX5_mend 26 = .ok (.dup, 1) := by decide +kernel
theorem dX5_mend_27 : decode cX5_mend 27 = .ok (.getfield 182, 3) := by decide +kernel
theorem dX5_mend_30 : decode cX5_mend 30 = .ok (.iload_n 1, 1) := by decide +kernel
theorem dX5_mend_31 : decode cX5_mend 31 = .ok (.iadd, 1) := by decide +kernel
theorem dX5_mend_32 : decode cX5_mend 32 = .ok (.putfield 182, 3) := by decide +kernel
theorem dX5_mend_35 : decode cX5_mend 35 = .ok (.iload_n 1, 1) := by decide +kernel
theorem dX5_mend_36 : decode cX5_mend 36 = .ok (.ireturn, 1) := by decide +kernel
theorem dX5_seed_0 : decode cX5_seed 0 = .ok (.aload_n 0, 1) := by decide +kernel
theorem dX5_seed_1 : decode cX5_seed 1 = .ok (.getfield 12, 3) := by decide +kernel
theorem dX5_seed_4 : decode cX5_seed 4 = .ok (.getfield 348, 3) := by decide +kernel
theorem dX5_seed_7 : decode cX5_seed 7 = .ok (.istore_n 2, 1) := by decide +kernel
theorem dX5_seed_8 : decode cX5_seed 8 = .ok (.aload_n 0, 1) := by decide +kernel
theorem dX5_seed_9 : decode cX5_seed 9 = .ok (.getfield 12, 3) := by decide +kernel
theorem dX5_seed_12 : decode cX5_seed 12 = .ok (.iload_n 1, 1) := by decide +kernel
theorem dX5_seed_13 : decode cX5_seed 13 = .ok (.putfield 348, 3) := by decide +kernel
theorem dX5_seed_16 : decode cX5_seed 16 = .ok (.iload_n 2, 1) := by decide +kernel
theorem dX5_seed_17 : decode cX5_seed 17 = .ok (.ireturn, 1) := by decide +kernel
theorem dX5_image_0 : decode cX5_image 0 = .ok (.aload_n 0, 1) := by decide +kernel
theorem dX5_image_1 : decode cX5_image 1 = .ok (.getfield 16, 3) := by decide +kernel
theorem dX5_image_4 : decode cX5_image 4 = .ok (.aload_n 0, 1) := by decide +kernel
theorem dX5_image_5 : decode cX5_image 5 = .ok (.getfield 12, 3) := by decide +kernel
theorem dX5_image_8 : decode cX5_image 8 = .ok (.invokevirtual 189, 3) := by decide +kernel
theorem dX5_image_11 : decode cX5_image 11 = .ok (.aload_n 0, 1) := by decide +kernel
theorem dX5_image_12 : decode cX5_image 12 = .ok (.iconst 1, 1) := by decide +kernel
theorem dX5_image_13 : decode cX5_image 13 = .ok (.putfield 53, 3) := by decide +kernel
theorem dX5_image_16 : decode cX5_image 16 = .ok (.iconst 1, 1) := by decide +kernel
theorem dX5_image_17 : decode cX5_image 17 = .ok (.ireturn, 1) := by decide +kernel
theorem dX5_back_0 : decode cX5_back 0 = .ok (.aload_n 0, 1) := by decide +kernel
theorem dX5_back_1 : decode cX5_back 1 = .ok (.getfield 53, 3) := by decide +kernel
theorem dX5_back_4 : decode cX5_back 4 = .ok (.ifCond .ne 10, 3) := by decide +kernel
theorem dX5_back_7 : decode cX5_back 7 = .ok (.aload_n 0, 1) := by decide +kernel
theorem dX5_back_8 : decode cX5_back 8 = .ok (.bipush (-5), 2) := by decide +kernel
theorem dX5_back_10 : decode cX5_back 10 = .ok (.invokevirtual 65, 3) := by decide +kernel
theorem dX5_back_13 : decode cX5_back 13 = .ok (.ireturn, 1) := by decide +kernel
theorem dX5_back_14 : decode cX5_back 14 = .ok (.aload_n 0, 1) := by decide +kernel
theorem dX5_back_15 : decode cX5_back 15 = .ok (.getfield 12, 3) := by decide +kernel
theorem dX5_back_18 : decode cX5_back 18 = .ok (.aload_n 0, 1) := by decide +kernel
theorem dX5_back_19 : decode cX5_back 19 = .ok (.getfield 16, 3) := by decide +kernel
theorem dX5_back_22 : decode cX5_back 22 = .ok (.invokevirtual 189, 3) := by decide +kernel
theorem dX5_back_25 : decode cX5_back 25 = .ok (.iconst 0, 1) := by decide +kernel
theorem dX5_back_26 : decode cX5_back 26 = .ok (.istore_n 1, 1) := by decide +kernel
theorem dX5_back_27 : decode cX5_back 27 = .ok (.iload_n 1, 1) := by decide +kernel
theorem dX5_back_28 : decode cX5_back 28 = .ok (.bipush 8, 2) := by decide +kernel
theorem dX5_back_30 : decode cX5_back 30 = .ok (.if_icmp .ge 24, 3) := by decide +kernel
theorem dX5_back_33 : decode cX5_back 33 = .ok (.aload_n 0, 1) := by decide +kernel
theorem dX5_back_34 : decode cX5_back 34 = .ok (.iload_n 1, 1) := by decide +kernel
theorem dX5_back_35 : decode cX5_back 35 = .ok (.invokevirtual 69, 3) := by decide +kernel
theorem dX5_back_38 : decode cX5_back 38 = .ok (.aload_n 0, 1) := by decide +kernel
theorem dX5_back_39 : decode cX5_back 39 = .ok (.getfield 12, 3) := by decide +kernel
theorem dX5_back_42 : decode cX5_back 42 = .ok (.getfield 236, 3) := by decide +kernel
theorem dX5_back_45 : decode cX5_back 45 = .ok (.invokevirtual 351, 3) := by decide +kernel
theorem dX5_back_48 : decode cX5_back 48 = .ok (.iinc 1 1, 3) := by decide +kernel
theorem dX5_back_51 : decode cX5_back 51 = .ok (.goto (-24), 3) := by decide +kernel
theorem dX5_back_54 : decode cX5_back 54 = .ok (.iconst 1, 1) := by decide +kernel
theorem dX5_back_55 : decode cX5_back 55 = .ok (.ireturn, 1) := by decide +kernel
theorem dX5_status_0 : decode cX5_status 0 = .ok (.iload_n 1, 1) := by decide +kernel
theorem dX5_status_1 : decode cX5_status 1 = .ok (.tableswitch 144 0 10 #[59, 67, 75, 83, 91, 99, 107, 115, 123, 131, 139], 59) := by decide +kernel
theorem dX5_status_60 : decode cX5_status 60 = .ok (.aload_n 0, 1) := by decide +kernel
theorem dX5_status_61 : decode cX5_status 61 = .ok (.getfield 12, 3) := by decide +kernel
theorem dX5_status_64 : decode cX5_status 64 = .ok (.getfield 236, 3) := by decide +kernel
theorem dX5_status_67 : decode cX5_status 67 = .ok (.ireturn, 1) := by decide +kernel
theorem dX5_status_68 : decode cX5_status 68 = .ok (.aload_n 0, 1) := by decide +kernel
theorem dX5_status_69 : decode cX5_status 69 = .ok (.getfield 12, 3) := by decide +kernel
theorem dX5_status_72 : decode cX5_status 72 = .ok (.getfield 239, 3) := by decide +kernel
theorem dX5_status_75 : decode cX5_status 75 = .ok (.ireturn, 1) := by decide +kernel
theorem dX5_status_76 : decode cX5_status 76 = .ok (.aload_n 0, 1) := by decide +kernel
theorem dX5_status_77 : decode cX5_status 77 = .ok (.getfield 12, 3) := by decide +kernel
theorem dX5_status_80 : decode cX5_status 80 = .ok (.getfield 320, 3) := by decide +kernel
theorem dX5_status_83 : decode cX5_status 83 = .ok (.ireturn, 1) := by decide +kernel
theorem dX5_status_84 : decode cX5_status 84 = .ok (.aload_n 0, 1) := by decide +kernel
theorem dX5_status_85 : decode cX5_status 85 = .ok (.getfield 12, 3) := by decide +kernel
theorem dX5_status_88 : decode cX5_status 88 = .ok (.getfield 154, 3) := by decide +kernel
theorem dX5_status_91 : decode cX5_status 91 = .ok (.ireturn, 1) := by decide +kernel
theorem dX5_status_92 : decode cX5_status 92 = .ok (.aload_n 0, 1) := by decide +kernel
theorem dX5_status_93 : decode cX5_status 93 = .ok (.getfield 12, 3) := by decide +kernel
theorem dX5_status_96 : decode cX5_status 96 = .ok (.getfield 355, 3) := by decide +kernel
theorem dX5_status_99 : decode cX5_status 99 = .ok (.ireturn, 1) := by decide +kernel
theorem dX5_status_100 : decode cX5_status 100 = .ok (.aload_n 0, 1) := by decide +kernel
theorem dX5_status_101 : decode cX5_status 101 = .ok (.getfield 12, 3) := by decide +kernel
theorem dX5_status_104 : decode cX5_status 104 = .ok (.getfield 182, 3) := by decide +kernel
theorem dX5_status_107 : decode cX5_status 107 = .ok (.ireturn, 1) := by decide +kernel
theorem dX5_status_108 : decode cX5_status 108 = .ok (.aload_n 0, 1) := by decide +kernel
theorem dX5_status_109 : decode cX5_status 109 = .ok (.getfield 12, 3) := by decide +kernel
theorem dX5_status_112 : decode cX5_status 112 = .ok (.invokevirtual 358, 3) := by decide +kernel
theorem dX5_status_115 : decode cX5_status 115 = .ok (.ireturn, 1) := by decide +kernel
theorem dX5_status_116 : decode cX5_status 116 = .ok (.aload_n 0, 1) := by decide +kernel
theorem dX5_status_117 : decode cX5_status 117 = .ok (.getfield 12, 3) := by decide +kernel
theorem dX5_status_120 : decode cX5_status 120 = .ok (.getfield 361, 3) := by decide +kernel
theorem dX5_status_123 : decode cX5_status 123 = .ok (.ireturn, 1) := by decide +kernel
theorem dX5_status_124 : decode cX5_status 124 = .ok (.aload_n 0, 1) := by decide +kernel
theorem dX5_status_125 : decode cX5_status 125 = .ok (.getfield 34, 3) := by decide +kernel
theorem dX5_status_128 : decode cX5_status 128 = .ok (.getfield 188, 3) := by decide +kernel
theorem dX5_status_131 : decode cX5_status 131 = .ok (.ireturn, 1) := by decide +kernel
theorem dX5_status_132 : decode cX5_status 132 = .ok (.aload_n 0, 1) := by decide +kernel
theorem dX5_status_133 : decode cX5_status 133 = .ok (.getfield 12, 3) := by decide +kernel
theorem dX5_status_136 : decode cX5_status 136 = .ok (.getfield 348, 3) := by decide +kernel
theorem dX5_status_139 : decode cX5_status 139 = .ok (.ireturn, 1) := by decide +kernel
theorem dX5_status_140 : decode cX5_status 140 = .ok (.aload_n 0, 1) := by decide +kernel
theorem dX5_status_141 : decode cX5_status 141 = .ok (.invokevirtual 364, 3) := by decide +kernel
theorem dX5_status_144 : decode cX5_status 144 = .ok (.ireturn, 1) := by decide +kernel
theorem dX5_status_145 : decode cX5_status 145 = .ok (.iload_n 1, 1) := by decide +kernel
theorem dX5_status_146 : decode cX5_status 146 = .ok (.bipush 12, 2) := by decide +kernel
theorem dX5_status_148 : decode cX5_status 148 = .ok (.bipush 16, 2) := by decide +kernel
theorem dX5_status_150 : decode cX5_status 150 = .ok (.invokestatic 61, 3) := by decide +kernel
theorem dX5_status_153 : decode cX5_status 153 = .ok (.ifCond .eq 17, 3) := by decide +kernel
theorem dX5_status_156 : decode cX5_status 156 = .ok (.aload_n 0, 1) := by decide +kernel
theorem dX5_status_157 : decode cX5_status 157 = .ok (.getfield 49, 3) := by decide +kernel
theorem dX5_status_160 : decode cX5_status 160 = .ok (.iload_n 1, 1) := by decide +kernel
theorem dX5_status_161 : decode cX5_status 161 = .ok (.bipush 12, 2) := by decide +kernel
theorem dX5_status_163 : decode cX5_status 163 = .ok (.isub, 1) := by decide +kernel
theorem dX5_status_164 : decode cX5_status 164 = .ok (.invokestatic 178, 3) := by decide +kernel
theorem dX5_status_167 : decode cX5_status 167 = .ok (.goto 4, 3) := by decide +kernel
theorem dX5_status_170 : decode cX5_status 170 = .ok (.iconst (-1), 1) := by decide +kernel
theorem dX5_status_171 : decode cX5_status 171 = .ok (.ireturn, 1) := by decide +kernel
theorem dX5_refuse_0 : decode cX5_refuse 0 = .ok (.bipush (-2), 2) := by decide +kernel
theorem dX5_refuse_2 : decode cX5_refuse 2 = .ok (.iload_n 1, 1) := by decide +kernel
theorem dX5_refuse_3 : decode cX5_refuse 3 = .ok (.isub, 1) := by decide +kernel
theorem dX5_refuse_4 : decode cX5_refuse 4 = .ok (.istore_n 2, 1) := by decide +kernel
theorem dX5_refuse_5 : decode cX5_refuse 5 = .ok (.aload_n 0, 1) := by decide +kernel
theorem dX5_refuse_6 : decode cX5_refuse 6 = .ok (.getfield 49, 3) := by decide +kernel
theorem dX5_refuse_9 : decode cX5_refuse 9 = .ok (.iload_n 2, 1) := by decide +kernel
theorem dX5_refuse_10 : decode cX5_refuse 10 = .ok (.aload_n 0, 1) := by decide +kernel
theorem dX5_refuse_11 : decode cX5_refuse 11 = .ok (.getfield 49, 3) := by decide +kernel
theorem dX5_refuse_14 : decode cX5_refuse 14 = .ok (.iload_n 2, 1) := by decide +kernel
theorem dX5_refuse_15 : decode cX5_refuse 15 = .ok (.invokestatic 178, 3) := by decide +kernel
theorem dX5_refuse_18 : decode cX5_refuse 18 = .ok (.iconst 1, 1) := by decide +kernel
theorem dX5_refuse_19 : decode cX5_refuse 19 = .ok (.iadd, 1) := by decide +kernel
theorem dX5_refuse_20 : decode cX5_refuse 20 = .ok (.invokestatic 367, 3) := by decide +kernel
theorem dX5_refuse_23 : decode cX5_refuse 23 = .ok (.iload_n 1, 1) := by decide +kernel
theorem dX5_refuse_24 : decode cX5_refuse 24 = .ok (.ireturn, 1) := by decide +kernel
theorem dX5_isWithin_0 : decode cX5_isWithin 0 = .ok (.iload_n 0, 1) := by decide +kernel
theorem dX5_isWithin_1 : decode cX5_isWithin 1 = .ok (.iload_n 1, 1) := by decide +kernel
theorem dX5_isWithin_2 : decode cX5_isWithin 2 = .ok (.if_icmp .lt 12, 3) := by decide +kernel
theorem dX5_isWithin_5 : decode cX5_isWithin 5 = .ok (.iload_n 0, 1) := by decide +kernel
theorem dX5_isWithin_6 : decode cX5_isWithin 6 = .ok (.iload_n 2, 1) := by decide +kernel
theorem dX5_isWithin_7 : decode cX5_isWithin 7 = .ok (.if_icmp .gt 7, 3) := by decide +kernel
theorem dX5_isWithin_10 : decode cX5_isWithin 10 = .ok (.iconst 1, 1) := by decide +kernel
theorem dX5_isWithin_11 : decode cX5_isWithin 11 = .ok (.goto 4, 3) := by decide +kernel
theorem dX5_isWithin_14 : decode cX5_isWithin 14 = .ok (.iconst 0, 1) := by decide +kernel
theorem dX5_isWithin_15 : decode cX5_isWithin 15 = .ok (.ireturn, 1) := by decide +kernel
theorem dX5_at_0 : decode cX5_at 0 = .ok (.iload_n 1, 1) := by decide +kernel
theorem dX5_at_1 : decode cX5_at 1 = .ok (.ifCond .lt 15, 3) := by decide +kernel
theorem dX5_at_4 : decode cX5_at 4 = .ok (.iload_n 1, 1) := by decide +kernel
theorem dX5_at_5 : decode cX5_at 5 = .ok (.aload_n 0, 1) := by decide +kernel
theorem dX5_at_6 : decode cX5_at 6 = .ok (.arraylength, 1) := by decide +kernel
theorem dX5_at_7 : decode cX5_at 7 = .ok (.if_icmp .ge 9, 3) := by decide +kernel
theorem dX5_at_10 : decode cX5_at 10 = .ok (.aload_n 0, 1) := by decide +kernel
theorem dX5_at_11 : decode cX5_at 11 = .ok (.iload_n 1, 1) := by decide +kernel
theorem dX5_at_12 : decode cX5_at 12 = .ok (.iaload, 1) := by decide +kernel
theorem dX5_at_13 : decode cX5_at 13 = .ok (.goto 4, 3) := by decide +kernel
theorem dX5_at_16 : decode cX5_at 16 = .ok (.iconst 0, 1) := by decide +kernel
theorem dX5_at_17 : decode cX5_at 17 = .ok (.ireturn, 1) := by decide +kernel
theorem dX5_put_0 : decode cX5_put 0 = .ok (.iload_n 1, 1) := by decide +kernel
theorem dX5_put_1 : decode cX5_put 1 = .ok (.ifCond .lt 13, 3) := by decide +kernel
theorem dX5_put_4 : decode cX5_put 4 = .ok (.iload_n 1, 1) := by decide +kernel
theorem dX5_put_5 : decode cX5_put 5 = .ok (.aload_n 0, 1) := by decide +kernel
theorem dX5_put_6 : decode cX5_put 6 = .ok (.arraylength, 1) := by decide +kernel
theorem dX5_put_7 : decode cX5_put 7 = .ok (.if_icmp .ge 7, 3) := by decide +kernel
theorem dX5_put_10 : decode cX5_put 10 = .ok (.aload_n 0, 1) := by decide +kernel
theorem dX5_put_11 : decode cX5_put 11 = .ok (.iload_n 1, 1) := by decide +kernel
theorem dX5_put_12 : decode cX5_put 12 = .ok (.iload_n 2, 1) := by decide +kernel
theorem dX5_put_13 : decode cX5_put 13 = .ok (.iastore, 1) := by decide +kernel
theorem dX5_put_14 : decode cX5_put 14 = .ok (.return_, 1) := by decide +kernel
theorem dX5_hasBit_0 : decode cX5_hasBit 0 = .ok (.iload_n 0, 1) := by decide +kernel
theorem dX5_hasBit_1 : decode cX5_hasBit 1 = .ok (.iload_n 1, 1) := by decide +kernel
theorem dX5_hasBit_2 : decode cX5_hasBit 2 = .ok (.ishr, 1) := by decide +kernel
theorem dX5_hasBit_3 : decode cX5_hasBit 3 = .ok (.iconst 1, 1) := by decide +kernel
theorem dX5_hasBit_4 : decode cX5_hasBit 4 = .ok (.iand, 1) := by decide +kernel
theorem dX5_hasBit_5 : decode cX5_hasBit 5 = .ok (.ifCond .eq 7, 3) := by decide +kernel
theorem dX5_hasBit_8 : decode cX5_hasBit 8 = .ok (.iconst 1, 1) := by decide +kernel
theorem dX5_hasBit_9 : decode cX5_hasBit 9 = .ok (.goto 4, 3) := by decide +kernel
theorem dX5_hasBit_12 : decode cX5_hasBit 12 = .ok (.iconst 0, 1) := by decide +kernel
theorem dX5_hasBit_13 : decode cX5_hasBit 13 = .ok (.ireturn, 1) := by decide +kernel
theorem dX5_firstBits_0 : decode cX5_firstBits 0 = .ok (.iconst 1, 1) := by decide +kernel
theorem dX5_firstBits_1 : decode cX5_firstBits 1 = .ok (.iload_n 0, 1) := by decide +kernel
theorem dX5_firstBits_2 : decode cX5_firstBits 2 = .ok (.ishl, 1) := by decide +kernel
theorem dX5_firstBits_3 : decode cX5_firstBits 3 = .ok (.iconst 1, 1) := by decide +kernel
theorem dX5_firstBits_4 : decode cX5_firstBits 4 = .ok (.isub, 1) := by decide +kernel
theorem dX5_firstBits_5 : decode cX5_firstBits 5 = .ok (.ireturn, 1) := by decide +kernel
theorem dX5_isShelf_0 : decode cX5_isShelf 0 = .ok (.iload_n 1, 1) := by decide +kernel
theorem dX5_isShelf_1 : decode cX5_isShelf 1 = .ok (.iconst 0, 1) := by decide +kernel
theorem dX5_isShelf_2 : decode cX5_isShelf 2 = .ok (.bipush 7, 2) := by decide +kernel
theorem dX5_isShelf_4 : decode cX5_isShelf 4 = .ok (.invokestatic 61, 3) := by decide +kernel
theorem dX5_isShelf_7 : decode cX5_isShelf 7 = .ok (.ireturn, 1) := by decide +kernel
theorem dX5_isKey_0 : decode cX5_isKey 0 = .ok (.iload_n 1, 1) := by decide +kernel
theorem dX5_isKey_1 : decode cX5_isKey 1 = .ok (.iconst 0, 1) := by decide +kernel
theorem dX5_isKey_2 : decode cX5_isKey 2 = .ok (.aload_n 0, 1) := by decide +kernel
theorem dX5_isKey_3 : decode cX5_isKey 3 = .ok (.getfield 12, 3) := by decide +kernel
theorem dX5_isKey_6 : decode cX5_isKey 6 = .ok (.getfield 236, 3) := by decide +kernel
theorem dX5_isKey_9 : decode cX5_isKey 9 = .ok (.iconst 1, 1) := by decide +kernel
theorem dX5_isKey_10 : decode cX5_isKey 10 = .ok (.isub, 1) := by decide +kernel
theorem dX5_isKey_11 : decode cX5_isKey 11 = .ok (.invokestatic 61, 3) := by decide +kernel
theorem dX5_isKey_14 : decode cX5_isKey 14 = .ok (.ireturn, 1) := by decide +kernel
theorem dX5_isLock_0 : decode cX5_isLock 0 = .ok (.iload_n 1, 1) := by decide +kernel
theorem dX5_isLock_1 : decode cX5_isLock 1 = .ok (.iconst 0, 1) := by decide +kernel
theorem dX5_isLock_2 : decode cX5_isLock 2 = .ok (.aload_n 0, 1) := by decide +kernel
theorem dX5_isLock_3 : decode cX5_isLock 3 = .ok (.getfield 12, 3) := by decide +kernel
theorem dX5_isLock_6 : decode cX5_isLock 6 = .ok (.getfield 239, 3) := by decide +kernel
theorem dX5_isLock_9 : decode cX5_isLock 9 = .ok (.iconst 1, 1) := by decide +kernel
theorem dX5_isLock_10 : decode cX5_isLock 10 = .ok (.isub, 1) := by decide +kernel
theorem dX5_isLock_11 : decode cX5_isLock 11 = .ok (.invokestatic 61, 3) := by decide +kernel
theorem dX5_isLock_14 : decode cX5_isLock 14 = .ok (.ireturn, 1) := by decide +kernel
theorem dX5_isPlace_0 : decode cX5_isPlace 0 = .ok (.iload_n 1, 1) := by decide +kernel
theorem dX5_isPlace_1 : decode cX5_isPlace 1 = .ok (.iconst 0, 1) := by decide +kernel
theorem dX5_isPlace_2 : decode cX5_isPlace 2 = .ok (.aload_n 0, 1) := by decide +kernel
theorem dX5_isPlace_3 : decode cX5_isPlace 3 = .ok (.getfield 12, 3) := by decide +kernel
theorem dX5_isPlace_6 : decode cX5_isPlace 6 = .ok (.getfield 320, 3) := by decide +kernel
theorem dX5_isPlace_9 : decode cX5_isPlace 9 = .ok (.iconst 1, 1) := by decide +kernel
theorem dX5_isPlace_10 : decode cX5_isPlace 10 = .ok (.isub, 1) := by decide +kernel
theorem dX5_isPlace_11 : decode cX5_isPlace 11 = .ok (.invokestatic 61, 3) := by decide +kernel
theorem dX5_isPlace_14 : decode cX5_isPlace 14 = .ok (.ireturn, 1) := by decide +kernel
theorem dX5_isLocks_0 : decode cX5_isLocks 0 = .ok (.iload_n 1, 1) := by decide +kernel
theorem dX5_isLocks_1 : decode cX5_isLocks 1 = .ok (.iconst 0, 1) := by decide +kernel
theorem dX5_isLocks_2 : decode cX5_isLocks 2 = .ok (.aload_n 0, 1) := by decide +kernel
theorem dX5_isLocks_3 : decode cX5_isLocks 3 = .ok (.getfield 12, 3) := by decide +kernel
theorem dX5_isLocks_6 : decode cX5_isLocks 6 = .ok (.getfield 239, 3) := by decide +kernel
theorem dX5_isLocks_9 : decode cX5_isLocks 9 = .ok (.invokestatic 371, 3) := by decide +kernel
theorem dX5_isLocks_12 : decode cX5_isLocks 12 = .ok (.invokestatic 61, 3) := by decide +kernel
theorem dX5_isLocks_15 : decode cX5_isLocks 15 = .ok (.ireturn, 1) := by decide +kernel
theorem dX5_isKeys_0 : decode cX5_isKeys 0 = .ok (.iload_n 1, 1) := by decide +kernel
theorem dX5_isKeys_1 : decode cX5_isKeys 1 = .ok (.iconst 0, 1) := by decide +kernel
theorem dX5_isKeys_2 : decode cX5_isKeys 2 = .ok (.aload_n 0, 1) := by decide +kernel
theorem dX5_isKeys_3 : decode cX5_isKeys 3 = .ok (.getfield 12, 3) := by decide +kernel
theorem dX5_isKeys_6 : decode cX5_isKeys 6 = .ok (.getfield 236, 3) := by decide +kernel
theorem dX5_isKeys_9 : decode cX5_isKeys 9 = .ok (.invokestatic 371, 3) := by decide +kernel
theorem dX5_isKeys_12 : decode cX5_isKeys 12 = .ok (.invokestatic 61, 3) := by decide +kernel
theorem dX5_isKeys_15 : decode cX5_isKeys 15 = .ok (.ireturn, 1) := by decide +kernel
theorem dX5_shelfAt_0 : decode cX5_shelfAt 0 = .ok (.iload_n 1, 1) := by decide +kernel
theorem dX5_shelfAt_1 : decode cX5_shelfAt 1 = .ok (.ifCond .lt 21, 3) := by decide +kernel
theorem dX5_shelfAt_4 : decode cX5_shelfAt 4 = .ok (.iload_n 1, 1) := by decide +kernel
theorem dX5_shelfAt_5 : decode cX5_shelfAt 5 = .ok (.aload_n 0, 1) := by decide +kernel
theorem dX5_shelfAt_6 : decode cX5_shelfAt 6 = .ok (.getfield 40, 3) := by decide +kernel
theorem dX5_shelfAt_9 : decode cX5_shelfAt 9 = .ok (.arraylength, 1) := by decide +kernel
theorem dX5_shelfAt_10 : decode cX5_shelfAt 10 = .ok (.if_icmp .ge 12, 3) := by decide +kernel
theorem dX5_shelfAt_13 : decode cX5_shelfAt 13 = .ok (.aload_n 0, 1) := by decide +kernel
theorem dX5_shelfAt_14 : decode cX5_shelfAt 14 = .ok (.getfield 40, 3) := by decide +kernel
theorem dX5_shelfAt_17 : decode cX5_shelfAt 17 = .ok (.iload_n 1, 1) := by decide +kernel
theorem dX5_shelfAt_18 : decode cX5_shelfAt 18 = .ok (.aaload, 1) := by decide +kernel
theorem dX5_shelfAt_19 : decode cX5_shelfAt 19 = .ok (.goto 7, 3) := by decide +kernel
theorem dX5_shelfAt_22 : decode cX5_shelfAt 22 = .ok (.aload_n 0, 1) := by decide +kernel
theorem dX5_shelfAt_23 : decode cX5_shelfAt 23 = .ok (.getfield 45, 3) := by decide +kernel
theorem dX5_shelfAt_26 : decode cX5_shelfAt 26 = .ok (.areturn, 1) := by decide +kernel
theorem dX5_shelvesInUse_0 : decode cX5_shelvesInUse 0 = .ok (.iconst 0, 1) := by decide +kernel
theorem dX5_shelvesInUse_1 : decode cX5_shelvesInUse 1 = .ok (.istore_n 1, 1) := by decide +kernel
theorem dX5_shelvesInUse_2 : decode cX5_shelvesInUse 2 = .ok (.iconst 0, 1) := by decide +kernel
theorem dX5_shelvesInUse_3 : decode cX5_shelvesInUse 3 = .ok (.istore_n 2, 1) := by decide +kernel
theorem dX5_shelvesInUse_4 : decode cX5_shelvesInUse 4 = .ok (.iload_n 2, 1) := by decide +kernel
theorem dX5_shelvesInUse_5 : decode cX5_shelvesInUse 5 = .ok (.bipush 8, 2) := by decide +kernel
theorem dX5_shelvesInUse_7 : decode cX5_shelvesInUse 7 = .ok (.if_icmp .ge 24, 3) := by decide +kernel
theorem dX5_shelvesInUse_10 : decode cX5_shelvesInUse 10 = .ok (.aload_n 0, 1) := by decide +kernel
theorem dX5_shelvesInUse_11 : decode cX5_shelvesInUse 11 = .ok (.iload_n 2, 1) := by decide +kernel
theorem dX5_shelvesInUse_12 : decode cX5_shelvesInUse 12 = .ok (.invokevirtual 69, 3) := by decide +kernel
theorem dX5_shelvesInUse_15 : decode cX5_shelvesInUse 15 = .ok (.getfield 96, 3) := by decide +kernel
theorem dX5_shelvesInUse_18 : decode cX5_shelvesInUse 18 = .ok (.iconst (-1), 1) := by decide +kernel
theorem dX5_shelvesInUse_19 : decode cX5_shelvesInUse 19 = .ok (.if_icmp .eq 6, 3) := by decide +kernel
theorem dX5_shelvesInUse_22 : decode cX5_shelvesInUse 22 = .ok (.iinc 1 1, 3) := by decide +kernel
theorem dX5_shelvesInUse_25 : decode cX5_shelvesInUse 25 = .ok (.iinc 2 1, 3) := by decide +kernel
theorem dX5_shelvesInUse_28 : decode cX5_shelvesInUse 28 = .ok (.goto (-24), 3) := by decide +kernel
theorem dX5_shelvesInUse_31 : decode cX5_shelvesInUse 31 = .ok (.iload_n 1, 1) := by decide +kernel
theorem dX5_shelvesInUse_32 : decode cX5_shelvesInUse 32 = .ok (.ireturn, 1) := by decide +kernel
theorem dX5_saysAs_0 : decode cX5_saysAs 0 = .ok (.aload_n 0, 1) := by decide +kernel
theorem dX5_saysAs_1 : decode cX5_saysAs 1 = .ok (.getfield 12, 3) := by decide +kernel
theorem dX5_saysAs_4 : decode cX5_saysAs 4 = .ok (.iload_n 1, 1) := by decide +kernel
theorem dX5_saysAs_5 : decode cX5_saysAs 5 = .ok (.invokevirtual 119, 3) := by decide +kernel
theorem dX5_saysAs_8 : decode cX5_saysAs 8 = .ok (.astore_n 3, 1) := by decide +kernel
theorem dX5_saysAs_9 : decode cX5_saysAs 9 = .ok (.iload_n 2, 1) := by decide +kernel
theorem dX5_saysAs_10 : decode cX5_saysAs 10 = .ok (.tableswitch 88 0 5 #[38, 50, 88, 59, 88, 79], 38) := by decide +kernel
theorem dX5_saysAs_48 : decode cX5_saysAs 48 = .ok (.aload_n 0, 1) := by decide +kernel
theorem dX5_saysAs_49 : decode cX5_saysAs 49 = .ok (.getfield 12, 3) := by decide +kernel
theorem dX5_saysAs_52 : decode cX5_saysAs 52 = .ok (.aload_n 3, 1) := by decide +kernel
theorem dX5_saysAs_53 : decode cX5_saysAs 53 = .ok (.getfield 175, 3) := by decide +kernel
theorem dX5_saysAs_56 : decode cX5_saysAs 56 = .ok (.invokevirtual 206, 3) := by decide +kernel
theorem dX5_saysAs_59 : decode cX5_saysAs 59 = .ok (.ireturn, 1) := by decide +kernel
theorem dX5_saysAs_60 : decode cX5_saysAs 60 = .ok (.aload_n 0, 1) := by decide +kernel
theorem dX5_saysAs_61 : decode cX5_saysAs 61 = .ok (.getfield 12, 3) := by decide +kernel
theorem dX5_saysAs_64 : decode cX5_saysAs 64 = .ok (.aload_n 3, 1) := by decide +kernel
theorem dX5_saysAs_65 : decode cX5_saysAs 65 = .ok (.invokevirtual 374, 3) := by decide +kernel
theorem dX5_saysAs_68 : decode cX5_saysAs 68 = .ok (.ireturn, 1) := by decide +kernel
theorem dX5_saysAs_69 : decode cX5_saysAs 69 = .ok (.aload_n 0, 1) := by decide +kernel
theorem dX5_saysAs_70 : decode cX5_saysAs 70 = .ok (.getfield 12, 3) := by decide +kernel
theorem dX5_saysAs_73 : decode cX5_saysAs 73 = .ok (.iload_n 1, 1) := by decide +kernel
theorem dX5_saysAs_74 : decode cX5_saysAs 74 = .ok (.invokevirtual 227, 3) := by decide +kernel
theorem dX5_saysAs_77 : decode cX5_saysAs 77 = .ok (.aload_n 0, 1) := by decide +kernel
theorem dX5_saysAs_78 : decode cX5_saysAs 78 = .ok (.getfield 12, 3) := by decide +kernel
theorem dX5_saysAs_81 : decode cX5_saysAs 81 = .ok (.getfield 361, 3) := by decide +kernel
theorem dX5_saysAs_84 : decode cX5_saysAs 84 = .ok (.iand, 1) := by decide +kernel
theorem dX5_saysAs_85 : decode cX5_saysAs 85 = .ok (.invokestatic 242, 3) := by decide +kernel
theorem dX5_saysAs_88 : decode cX5_saysAs 88 = .ok (.ireturn, 1) := by decide +kernel
theorem dX5_saysAs_89 : decode cX5_saysAs 89 = .ok (.aload_n 0, 1) := by decide +kernel
theorem dX5_saysAs_90 : decode cX5_saysAs 90 = .ok (.getfield 27, 3) := by decide +kernel
theorem dX5_saysAs_93 : decode cX5_saysAs 93 = .ok (.iload_n 1, 1) := by decide +kernel
theorem dX5_saysAs_94 : decode cX5_saysAs 94 = .ok (.invokevirtual 377, 3) := by decide +kernel
theorem dX5_saysAs_97 : decode cX5_saysAs 97 = .ok (.ireturn, 1) := by decide +kernel
theorem dX5_saysAs_98 : decode cX5_saysAs 98 = .ok (.aload_n 0, 1) := by decide +kernel
theorem dX5_saysAs_99 : decode cX5_saysAs 99 = .ok (.getfield 12, 3) := by decide +kernel
theorem dX5_saysAs_102 : decode cX5_saysAs 102 = .ok (.aload_n 3, 1) := by decide +kernel
theorem dX5_saysAs_103 : decode cX5_saysAs 103 = .ok (.invokevirtual 283, 3) := by decide +kernel
theorem dX5_saysAs_106 : decode cX5_saysAs 106 = .ok (.ireturn, 1) := by decide +kernel
theorem dX5_askPlaces_0 : decode cX5_askPlaces 0 = .ok (.iload_n 1, 1) := by decide +kernel
theorem dX5_askPlaces_1 : decode cX5_askPlaces 1 = .ok (.iconst 1, 1) := by decide +kernel
theorem dX5_askPlaces_2 : decode cX5_askPlaces 2 = .ok (.iconst 5, 1) := by decide +kernel
theorem dX5_askPlaces_3 : decode cX5_askPlaces 3 = .ok (.invokestatic 61, 3) := by decide +kernel
theorem dX5_askPlaces_6 : decode cX5_askPlaces 6 = .ok (.ifCond .ne 10, 3) := by decide +kernel
theorem dX5_askPlaces_9 : decode cX5_askPlaces 9 = .ok (.aload_n 0, 1) := by decide +kernel
theorem dX5_askPlaces_10 : decode cX5_askPlaces 10 = .ok (.bipush (-2), 2) := by decide +kernel
theorem dX5_askPlaces_12 : decode cX5_askPlaces 12 = .ok (.invokevirtual 65, 3) := by decide +kernel
theorem dX5_askPlaces_15 : decode cX5_askPlaces 15 = .ok (.ireturn, 1) := by decide +kernel
theorem dX5_askPlaces_16 : decode cX5_askPlaces 16 = .ok (.aload_n 0, 1) := by decide +kernel
theorem dX5_askPlaces_17 : decode cX5_askPlaces 17 = .ok (.getfield 12, 3) := by decide +kernel
theorem dX5_askPlaces_20 : decode cX5_askPlaces 20 = .ok (.invokevirtual 380, 3) := by decide +kernel
theorem dX5_askPlaces_23 : decode cX5_askPlaces 23 = .ok (.ifCond .ne 10, 3) := by decide +kernel
theorem dX5_askPlaces_26 : decode cX5_askPlaces 26 = .ok (.aload_n 0, 1) := by decide +kernel
theorem dX5_askPlaces_27 : decode cX5_askPlaces 27 = .ok (.bipush (-5), 2) := by decide +kernel
theorem dX5_askPlaces_29 : decode cX5_askPlaces 29 = .ok (.invokevirtual 65, 3) := by decide +kernel
theorem dX5_askPlaces_32 : decode cX5_askPlaces 32 = .ok (.ireturn, 1) := by decide +kernel
theorem dX5_askPlaces_33 : decode cX5_askPlaces 33 = .ok (.aload_n 0, 1) := by decide +kernel
theorem dX5_askPlaces_34 : decode cX5_askPlaces 34 = .ok (.getfield 12, 3) := by decide +kernel
theorem dX5_askPlaces_37 : decode cX5_askPlaces 37 = .ok (.getfield 320, 3) := by decide +kernel
theorem dX5_askPlaces_40 : decode cX5_askPlaces 40 = .ok (.istore_n 2, 1) := by decide +kernel
theorem dX5_askPlaces_41 : decode cX5_askPlaces 41 = .ok (.aload_n 0, 1) := by decide +kernel
theorem dX5_askPlaces_42 : decode cX5_askPlaces 42 = .ok (.getfield 12, 3) := by decide +kernel
theorem dX5_askPlaces_45 : decode cX5_askPlaces 45 = .ok (.iload_n 1, 1) := by decide +kernel
theorem dX5_askPlaces_46 : decode cX5_askPlaces 46 = .ok (.putfield 320, 3) := by decide +kernel
theorem dX5_askPlaces_49 : decode cX5_askPlaces 49 = .ok (.iload_n 2, 1) := by decide +kernel
theorem dX5_askPlaces_50 : decode cX5_askPlaces 50 = .ok (.ireturn, 1) := by decide +kernel
theorem dX5_askDeep_0 : decode cX5_askDeep 0 = .ok (.iload_n 1, 1) := by decide +kernel
theorem dX5_askDeep_1 : decode cX5_askDeep 1 = .ok (.iconst 1, 1) := by decide +kernel
theorem dX5_askDeep_2 : decode cX5_askDeep 2 = .ok (.iconst 4, 1) := by decide +kernel
theorem dX5_askDeep_3 : decode cX5_askDeep 3 = .ok (.invokestatic 61, 3) := by decide +kernel
theorem dX5_askDeep_6 : decode cX5_askDeep 6 = .ok (.ifCond .ne 10, 3) := by decide +kernel
theorem dX5_askDeep_9 : decode cX5_askDeep 9 = .ok (.aload_n 0, 1) := by decide +kernel
theorem dX5_askDeep_10 : decode cX5_askDeep 10 = .ok (.bipush (-2), 2) := by decide +kernel
theorem dX5_askDeep_12 : decode cX5_askDeep 12 = .ok (.invokevirtual 65, 3) := by decide +kernel
theorem dX5_askDeep_15 : decode cX5_askDeep 15 = .ok (.ireturn, 1) := by decide +kernel
theorem dX5_askDeep_16 : decode cX5_askDeep 16 = .ok (.aload_n 0, 1) := by decide +kernel
theorem dX5_askDeep_17 : decode cX5_askDeep 17 = .ok (.getfield 12, 3) := by decide +kernel
theorem dX5_askDeep_20 : decode cX5_askDeep 20 = .ok (.invokevirtual 380, 3) := by decide +kernel
theorem dX5_askDeep_23 : decode cX5_askDeep 23 = .ok (.ifCond .ne 10, 3) := by decide +kernel
theorem dX5_askDeep_26 : decode cX5_askDeep 26 = .ok (.aload_n 0, 1) := by decide +kernel
theorem dX5_askDeep_27 : decode cX5_askDeep 27 = .ok (.bipush (-5), 2) := by decide +kernel
theorem dX5_askDeep_29 : decode cX5_askDeep 29 = .ok (.invokevirtual 65, 3) := by decide +kernel
theorem dX5_askDeep_32 : decode cX5_askDeep 32 = .ok (.ireturn, 1) := by decide +kernel
theorem dX5_askDeep_33 : decode cX5_askDeep 33 = .ok (.aload_n 0, 1) := by decide +kernel
theorem dX5_askDeep_34 : decode cX5_askDeep 34 = .ok (.getfield 12, 3) := by decide +kernel
theorem dX5_askDeep_37 : decode cX5_askDeep 37 = .ok (.getfield 154, 3) := by decide +kernel
theorem dX5_askDeep_40 : decode cX5_askDeep 40 = .ok (.istore_n 2, 1) := by decide +kernel
theorem dX5_askDeep_41 : decode cX5_askDeep 41 = .ok (.aload_n 0, 1) := by decide +kernel
theorem dX5_askDeep_42 : decode cX5_askDeep 42 = .ok (.getfield 12, 3) := by decide +kernel
theorem dX5_askDeep_45 : decode cX5_askDeep 45 = .ok (.iload_n 1, 1) := by decide +kernel
theorem dX5_askDeep_46 : decode cX5_askDeep 46 = .ok (.putfield 154, 3) := by decide +kernel
theorem dX5_askDeep_49 : decode cX5_askDeep 49 = .ok (.iload_n 2, 1) := by decide +kernel
theorem dX5_askDeep_50 : decode cX5_askDeep 50 = .ok (.ireturn, 1) := by decide +kernel
theorem dX5_askStrength_0 : decode cX5_askStrength 0 = .ok (.iload_n 1, 1) := by decide +kernel
theorem dX5_askStrength_1 : decode cX5_askStrength 1 = .ok (.iconst 1, 1) := by decide +kernel
theorem dX5_askStrength_2 : decode cX5_askStrength 2 = .ok (.bipush 20, 2) := by decide +kernel
theorem dX5_askStrength_4 : decode cX5_askStrength 4 = .ok (.invokestatic 61, 3) := by decide +kernel
theorem dX5_askStrength_7 : decode cX5_askStrength 7 = .ok (.ifCond .ne 10, 3) := by decide +kernel
theorem dX5_askStrength_10 : decode cX5_askStrength 10 = .ok (.aload_n 0, 1) := by decide +kernel
theorem dX5_askStrength_11 : decode cX5_askStrength 11 = .ok (.bipush (-2), 2) := by decide +kernel
theorem dX5_askStrength_13 : decode cX5_askStrength 13 = .ok (.invokevirtual 65, 3) := by decide +kernel
theorem dX5_askStrength_16 : decode cX5_askStrength 16 = .ok (.ireturn, 1) := by decide +kernel
theorem dX5_askStrength_17 : decode cX5_askStrength 17 = .ok (.aload_n 0, 1) := by decide +kernel
theorem dX5_askStrength_18 : decode cX5_askStrength 18 = .ok (.getfield 12, 3) := by decide +kernel
theorem dX5_askStrength_21 : decode cX5_askStrength 21 = .ok (.getfield 355, 3) := by decide +kernel
theorem dX5_askStrength_24 : decode cX5_askStrength 24 = .ok (.istore_n 2, 1) := by decide +kernel
theorem dX5_askStrength_25 : decode cX5_askStrength 25 = .ok (.aload_n 0, 1) := by decide +kernel
theorem dX5_askStrength_26 : decode cX5_askStrength 26 = .ok (.getfield 12, 3) := by decide +kernel
theorem dX5_askStrength_29 : decode cX5_askStrength 29 = .ok (.iload_n 1, 1) := by decide +kernel
theorem dX5_askStrength_30 : decode cX5_askStrength 30 = .ok (.putfield 355, 3) := by decide +kernel
theorem dX5_askStrength_33 : decode cX5_askStrength 33 = .ok (.iload_n 2, 1) := by decide +kernel
theorem dX5_askStrength_34 : decode cX5_askStrength 34 = .ok (.ireturn, 1) := by decide +kernel
theorem dX5_listTrouble_0 : decode cX5_listTrouble 0 = .ok (.aload_n 0, 1) := by decide +kernel
theorem dX5_listTrouble_1 : decode cX5_listTrouble 1 = .ok (.iload_n 1, 1) := by decide +kernel
theorem dX5_listTrouble_2 : decode cX5_listTrouble 2 = .ok (.invokevirtual 57, 3) := by decide +kernel
theorem dX5_listTrouble_5 : decode cX5_listTrouble 5 = .ok (.ifCond .ne 6, 3) := by decide +kernel
theorem dX5_listTrouble_8 : decode cX5_listTrouble 8 = .ok (.bipush (-2), 2) := by decide +kernel
theorem dX5_listTrouble_10 : decode cX5_listTrouble 10 = .ok (.ireturn, 1) := by decide +kernel
theorem dX5_listTrouble_11 : decode cX5_listTrouble 11 = .ok (.aload_n 0, 1) := by decide +kernel
theorem dX5_listTrouble_12 : decode cX5_listTrouble 12 = .ok (.iload_n 1, 1) := by decide +kernel
theorem dX5_listTrouble_13 : decode cX5_listTrouble 13 = .ok (.invokevirtual 69, 3) := by decide +kernel
theorem dX5_listTrouble_16 : decode cX5_listTrouble 16 = .ok (.astore_n 2, 1) := by decide +kernel
theorem dX5_listTrouble_17 : decode cX5_listTrouble 17 = .ok (.aload_n 2, 1) := by decide +kernel
theorem dX5_listTrouble_18 : decode cX5_listTrouble 18 = .ok (.invokevirtual 77, 3) := by decide +kernel
theorem dX5_listTrouble_21 : decode cX5_listTrouble 21 = .ok (.ifCond .ne 8, 3) := by decide +kernel
theorem dX5_listTrouble_24 : decode cX5_listTrouble 24 = .ok (.aload_n 2, 1) := by decide +kernel
theorem dX5_listTrouble_25 : decode cX5_listTrouble 25 = .ok (.invokevirtual 81, 3) := by decide +kernel
theorem dX5_listTrouble_28 : decode cX5_listTrouble 28 = .ok (.ireturn, 1) := by decide +kernel
theorem dX5_listTrouble_29 : decode cX5_listTrouble 29 = .ok (.aload_n 2, 1) := by decide +kernel
theorem dX5_listTrouble_30 : decode cX5_listTrouble 30 = .ok (.getfield 85, 3) := by decide +kernel
theorem dX5_listTrouble_33 : decode cX5_listTrouble 33 = .ok (.aload_n 0, 1) := by decide +kernel
theorem dX5_listTrouble_34 : decode cX5_listTrouble 34 = .ok (.getfield 12, 3) := by decide +kernel
theorem dX5_listTrouble_37 : decode cX5_listTrouble 37 = .ok (.getfield 236, 3) := by decide +kernel
theorem dX5_listTrouble_40 : decode cX5_listTrouble 40 = .ok (.if_icmp .ge 8, 3) := by decide +kernel
theorem dX5_listTrouble_43 : decode cX5_listTrouble 43 = .ok (.bipush (-2), 2) := by decide +kernel
theorem dX5_listTrouble_45 : decode cX5_listTrouble 45 = .ok (.goto 4, 3) := by decide +kernel
theorem dX5_listTrouble_48 : decode cX5_listTrouble 48 = .ok (.iconst 0, 1) := by decide +kernel
theorem dX5_listTrouble_49 : decode cX5_listTrouble 49 = .ok (.ireturn, 1) := by decide +kernel
theorem dX5_toldLocks_0 : decode cX5_toldLocks 0 = .ok (.aload_n 0, 1) := by decide +kernel
theorem dX5_toldLocks_1 : decode cX5_toldLocks 1 = .ok (.iload_n 1, 1) := by decide +kernel
theorem dX5_toldLocks_2 : decode cX5_toldLocks 2 = .ok (.invokevirtual 69, 3) := by decide +kernel
theorem dX5_toldLocks_5 : decode cX5_toldLocks 5 = .ok (.iload_n 2, 1) := by decide +kernel
theorem dX5_toldLocks_6 : decode cX5_toldLocks 6 = .ok (.invokevirtual 113, 3) := by decide +kernel
theorem dX5_toldLocks_9 : decode cX5_toldLocks 9 = .ok (.l2i, 1) := by decide +kernel
theorem dX5_toldLocks_10 : decode cX5_toldLocks 10 = .ok (.aload_n 0, 1) := by decide +kernel
theorem dX5_toldLocks_11 : decode cX5_toldLocks 11 = .ok (.getfield 12, 3) := by decide +kernel
theorem dX5_toldLocks_14 : decode cX5_toldLocks 14 = .ok (.getfield 239, 3) := by decide +kernel
theorem dX5_toldLocks_17 : decode cX5_toldLocks 17 = .ok (.invokestatic 371, 3) := by decide +kernel
theorem dX5_toldLocks_20 : decode cX5_toldLocks 20 = .ok (.iand, 1) := by decide +kernel
theorem dX5_toldLocks_21 : decode cX5_toldLocks 21 = .ok (.ireturn, 1) := by decide +kernel
theorem dX5_tellsCuts_0 : decode cX5_tellsCuts 0 = .ok (.aload_n 1, 1) := by decide +kernel
theorem dX5_tellsCuts_1 : decode cX5_tellsCuts 1 = .ok (.getfield 85, 3) := by decide +kernel
theorem dX5_tellsCuts_4 : decode cX5_tellsCuts 4 = .ok (.aload_n 0, 1) := by decide +kernel
theorem dX5_tellsCuts_5 : decode cX5_tellsCuts 5 = .ok (.getfield 12, 3) := by decide +kernel
theorem dX5_tellsCuts_8 : decode cX5_tellsCuts 8 = .ok (.getfield 320, 3) := by decide +kernel
theorem dX5_tellsCuts_11 : decode cX5_tellsCuts 11 = .ok (.if_icmp .ge 5, 3) := by decide +kernel
theorem dX5_tellsCuts_14 : decode cX5_tellsCuts 14 = .ok (.iconst 0, 1) := by decide +kernel
theorem dX5_tellsCuts_15 : decode cX5_tellsCuts 15 = .ok (.ireturn, 1) := by decide +kernel
theorem dX5_tellsCuts_16 : decode cX5_tellsCuts 16 = .ok (.iconst 0, 1) := by decide +kernel
theorem dX5_tellsCuts_17 : decode cX5_tellsCuts 17 = .ok (.istore_n 2, 1) := by decide +kernel
theorem dX5_tellsCuts_18 : decode cX5_tellsCuts 18 = .ok (.iload_n 2, 1) := by decide +kernel
theorem dX5_tellsCuts_19 : decode cX5_tellsCuts 19 = .ok (.aload_n 0, 1) := by decide +kernel
theorem dX5_tellsCuts_20 : decode cX5_tellsCuts 20 = .ok (.getfield 12, 3) := by decide +kernel
theorem dX5_tellsCuts_23 : decode cX5_tellsCuts 23 = .ok (.getfield 320, 3) := by decide +kernel
theorem dX5_tellsCuts_26 : decode cX5_tellsCuts 26 = .ok (.if_icmp .ge 36, 3) := by decide +kernel
theorem dX5_tellsCuts_29 : decode cX5_tellsCuts 29 = .ok (.aload_n 1, 1) := by decide +kernel
theorem dX5_tellsCuts_30 : decode cX5_tellsCuts 30 = .ok (.iload_n 2, 1) := by decide +kernel
theorem dX5_tellsCuts_31 : decode cX5_tellsCuts 31 = .ok (.invokevirtual 113, 3) := by decide +kernel
theorem dX5_tellsCuts_34 : decode cX5_tellsCuts 34 = .ok (.lstore_n 3, 1) := by decide +kernel
theorem dX5_tellsCuts_35 : decode cX5_tellsCuts 35 = .ok (.lload_n 3, 1) := by decide +kernel
theorem dX5_tellsCuts_36 : decode cX5_tellsCuts 36 = .ok (.lconst 0, 1) := by decide +kernel
theorem dX5_tellsCuts_37 : decode cX5_tellsCuts 37 = .ok (.lcmp, 1) := by decide +kernel
theorem dX5_tellsCuts_38 : decode cX5_tellsCuts 38 = .ok (.ifCond .lt 16, 3) := by decide +kernel
theorem dX5_tellsCuts_41 : decode cX5_tellsCuts 41 = .ok (.lload_n 3, 1) := by decide +kernel
theorem dX5_tellsCuts_42 : decode cX5_tellsCuts 42 = .ok (.aload_n 0, 1) := by decide +kernel
theorem dX5_tellsCuts_43 : decode cX5_tellsCuts 43 = .ok (.getfield 12, 3) := by decide +kernel
theorem dX5_tellsCuts_46 : decode cX5_tellsCuts 46 = .ok (.getfield 154, 3) := by decide +kernel
theorem dX5_tellsCuts_49 : decode cX5_tellsCuts 49 = .ok (.i2l, 1) := by decide +kernel
theorem dX5_tellsCuts_50 : decode cX5_tellsCuts 50 = .ok (.lcmp, 1) := by decide +kernel
theorem dX5_tellsCuts_51 : decode cX5_tellsCuts 51 = .ok (.ifCond .le 5, 3) := by decide +kernel
theorem dX5_tellsCuts_54 : decode cX5_tellsCuts 54 = .ok (.iconst 0, 1) := by decide +kernel
theorem dX5_tellsCuts_55 : decode cX5_tellsCuts 55 = .ok (.ireturn, 1) := by decide +kernel
theorem dX5_tellsCuts_56 : decode cX5_tellsCuts 56 = .ok (.iinc 2 1, 3) := by decide +kernel
theorem dX5_tellsCuts_59 : decode cX5_tellsCuts 59 = .ok (.goto (-41), 3) := by decide +kernel
theorem dX5_tellsCuts_62 : decode cX5_tellsCuts 62 = .ok (.iconst 1, 1) := by decide +kernel
theorem dX5_tellsCuts_63 : decode cX5_tellsCuts 63 = .ok (.ireturn, 1) := by decide +kernel
theorem dX6_init_0 : decode cX6_init 0 = .ok (.aload_n 0, 1) := by decide +kernel
theorem dX6_init_1 : decode cX6_init 1 = .ok (.invokespecial 1, 3) := by decide +kernel
theorem dX6_init_4 : decode cX6_init 4 = .ok (.aload_n 0, 1) := by decide +kernel
theorem dX6_init_5 : decode cX6_init 5 = .ok (.bipush 8, 2) := by decide +kernel
theorem dX6_init_7 : decode cX6_init 7 = .ok (.newarray .int, 2) := by decide +kernel
theorem dX6_init_9 : decode cX6_init 9 = .ok (.putfield 7, 3) := by decide +kernel
theorem dX6_init_12 : decode cX6_init 12 = .ok (.aload_n 0, 1) := by decide +kernel
theorem dX6_init_13 : decode cX6_init 13 = .ok (.bipush 8, 2) := by decide +kernel
theorem dX6_init_15 : decode cX6_init 15 = .ok (.newarray .int, 2) := by decide +kernel
theorem dX6_init_17 : decode cX6_init 17 = .ok (.putfield 13, 3) := by decide +kernel
theorem dX6_init_20 : decode cX6_init 20 = .ok (.aload_n 0, 1) := by decide +kernel
theorem dX6_init_21 : decode cX6_init 21 = .ok (.sipush 320, 3) := by decide +kernel
theorem dX6_init_24 : decode cX6_init 24 = .ok (.newarray .long, 2) := by decide +kernel
theorem dX6_init_26 : decode cX6_init 26 = .ok (.putfield 16, 3) := by decide +kernel
theorem dX6_init_29 : decode cX6_init 29 = .ok (.aload_n 0, 1) := by decide +kernel
theorem dX6_init_30 : decode cX6_init 30 = .ok (.bipush 6, 2) := by decide +kernel
theorem dX6_init_32 : decode cX6_init 32 = .ok (.newarray .int, 2) := by decide +kernel
theorem dX6_init_34 : decode cX6_init 34 = .ok (.putfield 20, 3) := by decide +kernel
theorem dX6_init_37 : decode cX6_init 37 = .ok (.aload_n 0, 1) := by decide +kernel
theorem dX6_init_38 : decode cX6_init 38 = .ok (.bipush 6, 2) := by decide +kernel
theorem dX6_init_40 : decode cX6_init 40 = .ok (.newarray .int, 2) := by decide +kernel
theorem dX6_init_42 : decode cX6_init 42 = .ok (.putfield 23, 3) := by decide +kernel
theorem dX6_init_45 : decode cX6_init 45 = .ok (.aload_n 0, 1) := by decide +kernel
theorem dX6_init_46 : decode cX6_init 46 = .ok (.bipush 6, 2) := by decide +kernel
theorem dX6_init_48 : decode cX6_init 48 = .ok (.newarray .int, 2) := by decide +kernel
theorem dX6_init_50 : decode cX6_init 50 = .ok (.putfield 26, 3) := by decide +kernel
theorem dX6_init_53 : decode cX6_init 53 = .ok (.aload_n 0, 1) := by decide +kernel
theorem dX6_init_54 : decode cX6_init 54 = .ok (.bipush 30, 2) := by decide +kernel
theorem dX6_init_56 : decode cX6_init 56 = .ok (.newarray .int, 2) := by decide +kernel
theorem dX6_init_58 : decode cX6_init 58 = .ok (.putfield 29, 3) := by decide +kernel
theorem dX6_init_61 : decode cX6_init 61 = .ok (.aload_n 0, 1) := by decide +kernel
theorem dX6_init_62 : decode cX6_init 62 = .ok (.bipush 8, 2) := by decide +kernel
theorem dX6_init_64 : decode cX6_init 64 = .ok (.newarray .int, 2) := by decide +kernel
theorem dX6_init_66 : decode cX6_init 66 = .ok (.putfield 32, 3) := by decide +kernel
theorem dX6_init_69 : decode cX6_init 69 = .ok (.aload_n 0, 1) := by decide +kernel
theorem dX6_init_70 : decode cX6_init 70 = .ok (.bipush 40, 2) := by decide +kernel
theorem dX6_init_72 : decode cX6_init 72 = .ok (.newarray .int, 2) := by decide +kernel
theorem dX6_init_74 : decode cX6_init 74 = .ok (.putfield 35, 3) := by decide +kernel
theorem dX6_init_77 : decode cX6_init 77 = .ok (.aload_n 0, 1) := by decide +kernel
theorem dX6_init_78 : decode cX6_init 78 = .ok (.sipush 250, 3) := by decide +kernel
theorem dX6_init_81 : decode cX6_init 81 = .ok (.newarray .int, 2) := by decide +kernel
theorem dX6_init_83 : decode cX6_init 83 = .ok (.putfield 38, 3) := by decide +kernel
theorem dX6_init_86 : decode cX6_init 86 = .ok (.aload_n 0, 1) := by decide +kernel
theorem dX6_init_87 : decode cX6_init 87 = .ok (.bipush 7, 2) := by decide +kernel
theorem dX6_init_89 : decode cX6_init 89 = .ok (.newarray .int, 2) := by decide +kernel
theorem dX6_init_91 : decode cX6_init 91 = .ok (.putfield 41, 3) := by decide +kernel
theorem dX6_init_94 : decode cX6_init 94 = .ok (.aload_n 0, 1) := by decide +kernel
theorem dX6_init_95 : decode cX6_init 95 = .ok (.bipush 107, 2) := by decide +kernel
theorem dX6_init_97 : decode cX6_init 97 = .ok (.newarray .int, 2) := by decide +kernel
theorem dX6_init_99 : decode cX6_init 99 = .ok (.putfield 44, 3) := by decide +kernel
theorem dX6_init_102 : decode cX6_init 102 = .ok (.aload_n 0, 1) := by decide +kernel
theorem dX6_init_103 : decode cX6_init 103 = .ok (.bipush 107, 2) := by decide +kernel
theorem dX6_init_105 : decode cX6_init 105 = .ok (.newarray .int, 2) := by decide +kernel
theorem dX6_init_107 : decode cX6_init 107 = .ok (.putfield 47, 3) := by decide +kernel
theorem dX6_init_110 : decode cX6_init 110 = .ok (.aload_n 0, 1) := by decide +kernel
theorem dX6_init_111 : decode cX6_init 111 = .ok (.iconst 5, 1) := by decide +kernel
theorem dX6_init_112 : decode cX6_init 112 = .ok (.newarray .int, 2) := by decide +kernel
theorem dX6_init_114 : decode cX6_init 114 = .ok (.putfield 50, 3) := by decide +kernel
theorem dX6_init_117 : decode cX6_init 117 = .ok (.aload_n 0, 1) := by decide +kernel
theorem dX6_init_118 : decode cX6_init 118 = .ok (.iconst 5, 1) := by decide +kernel
theorem dX6_init_119 : decode cX6_init 119 = .ok (.newarray .int, 2) := by decide +kernel
theorem dX6_init_121 : decode cX6_init 121 = .ok (.putfield 53, 3) := by decide +kernel
theorem dX6_init_124 : decode cX6_init 124 = .ok (.aload_n 0, 1) := by decide +kernel
theorem dX6_init_125 : decode cX6_init 125 = .ok (.bipush 30, 2) := by decide +kernel
theorem dX6_init_127 : decode cX6_init 127 = .ok (.newarray .int, 2) := by decide +kernel
theorem dX6_init_129 : decode cX6_init 129 = .ok (.putfield 56, 3) := by decide +kernel
theorem dX6_init_132 : decode cX6_init 132 = .ok (.iconst 0, 1) := by decide +kernel
theorem dX6_init_133 : decode cX6_init 133 = .ok (.istore_n 1, 1) := by decide +kernel
theorem dX6_init_134 : decode cX6_init 134 = .ok (.iload_n 1, 1) := by decide +kernel
theorem dX6_init_135 : decode cX6_init 135 = .ok (.bipush 8, 2) := by decide +kernel
theorem dX6_init_137 : decode cX6_init 137 = .ok (.if_icmp .ge 16, 3) := by decide +kernel
theorem dX6_init_140 : decode cX6_init 140 = .ok (.aload_n 0, 1) := by decide +kernel
theorem dX6_init_141 : decode cX6_init 141 = .ok (.getfield 7, 3) := by decide +kernel
theorem dX6_init_144 : decode cX6_init 144 = .ok (.iload_n 1, 1) := by decide +kernel
theorem dX6_init_145 : decode cX6_init 145 = .ok (.iconst (-1), 1) := by decide +kernel
theorem dX6_init_146 : decode cX6_init 146 = .ok (.iastore, 1) := by decide +kernel
theorem dX6_init_147 : decode cX6_init 147 = .ok (.iinc 1 1, 3) := by decide +kernel
theorem dX6_init_150 : decode cX6_init 150 = .ok (.goto (-16), 3) := by decide +kernel
theorem dX6_init_153 : decode cX6_init 153 = .ok (.aload_n 0, 1) := by decide +kernel
theorem dX6_init_154 : decode cX6_init 154 = .ok (.iconst 3, 1) := by decide +kernel
theorem dX6_init_155 : decode cX6_init 155 = .ok (.putfield 59, 3) := by decide +kernel
theorem dX6_init_158 : decode cX6_init 158 = .ok (.aload_n 0, 1) := by decide +kernel
theorem dX6_init_159 : decode cX6_init 159 = .ok (.iconst 3, 1) := by decide +kernel
theorem dX6_init_160 : decode cX6_init 160 = .ok (.putfield 63, 3) := by decide +kernel
theorem dX6_init_163 : decode cX6_init 163 = .ok (.aload_n 0, 1) := by decide +kernel
theorem dX6_init_164 : decode cX6_init 164 = .ok (.bipush 12, 2) := by decide +kernel
theorem dX6_init_166 : decode cX6_init 166 = .ok (.putfield 66, 3) := by decide +kernel
theorem dX6_init_169 : decode cX6_init 169 = .ok (.aload_n 0, 1) := by decide +kernel
theorem dX6_init_170 : decode cX6_init 170 = .ok (.iconst 1, 1) := by decide +kernel
theorem dX6_init_171 : decode cX6_init 171 = .ok (.putfield 69, 3) := by decide +kernel
theorem dX6_init_174 : decode cX6_init 174 = .ok (.return_, 1) := by decide +kernel
theorem dX6_no_0 : decode cX6_no 0 = .ok (.aload_n 0, 1) := by decide +kernel
theorem dX6_no_1 : decode cX6_no 1 = .ok (.getfield 41, 3) := by decide +kernel
theorem dX6_no_4 : decode cX6_no 4 = .ok (.iload_n 1, 1) := by decide +kernel
theorem dX6_no_5 : decode cX6_no 5 = .ok (.ineg, 1) := by decide +kernel
theorem dX6_no_6 : decode cX6_no 6 = .ok (.dup2, 1) := by decide +kernel
theorem dX6_no_7 : decode cX6_no 7 = .ok (.iaload, 1) := by decide +kernel
theorem dX6_no_8 : decode cX6_no 8 = .ok (.iconst 1, 1) := by decide +kernel
theorem dX6_no_9 : decode cX6_no 9 = .ok (.iadd, 1) := by decide +kernel
theorem dX6_no_10 : decode cX6_no 10 = .ok (.iastore, 1) := by decide +kernel
theorem dX6_no_11 : decode cX6_no 11 = .ok (.iload_n 1, 1) := by decide +kernel
theorem dX6_no_12 : decode cX6_no 12 = .ok (.ireturn, 1) := by decide +kernel
theorem dX6_within_0 : decode cX6_within 0 = .ok (.iload_n 0, 1) := by decide +kernel
theorem dX6_within_1 : decode cX6_within 1 = .ok (.iload_n 1, 1) := by decide +kernel
theorem dX6_within_2 : decode cX6_within 2 = .ok (.if_icmp .lt 12, 3) := by decide +kernel
theorem dX6_within_5 : decode cX6_within 5 = .ok (.iload_n 0, 1) := by decide +kernel
theorem dX6_within_6 : decode cX6_within 6 = .ok (.iload_n 2, 1) := by decide +kernel
theorem dX6_within_7 : decode cX6_within 7 = .ok (.if_icmp .gt 7, 3) := by decide +kernel
theorem dX6_within_10 : decode cX6_within 10 = .ok (.iconst 1, 1) := by decide +kernel
theorem dX6_within_11 : decode cX6_within 11 = .ok (.goto 4, 3) := by decide +kernel
theorem dX6_within_14 : decode cX6_within 14 = .ok (.iconst 0, 1) := by decide +kernel
theorem dX6_within_15 : decode cX6_within 15 = .ok (.ireturn, 1) := by decide +kernel
theorem dX6_has_0 : decode cX6_has 0 = .ok (.iload_n 0, 1) := by decide +kernel
theorem dX6_has_1 : decode cX6_has 1 = .ok (.iload_n 1, 1) := by decide +kernel
theorem dX6_has_2 : decode cX6_has 2 = .ok (.ishr, 1) := by decide +kernel
theorem dX6_has_3 : decode cX6_has 3 = .ok (.iconst 1, 1) := by decide +kernel
theorem dX6_has_4 : decode cX6_has 4 = .ok (.iand, 1) := by decide +kernel
theorem dX6_has_5 : decode cX6_has 5 = .ok (.iconst 1, 1) := by decide +kernel
theorem dX6_has_6 : decode cX6_has 6 = .ok (.if_icmp .ne 7, 3) := by decide +kernel
theorem dX6_has_9 : decode cX6_has 9 = .ok (.iconst 1, 1) := by decide +kernel
theorem dX6_has_10 : decode cX6_has 10 = .ok (.goto 4, 3) := by decide +kernel
theorem dX6_has_13 : decode cX6_has 13 = .ok (.iconst 0, 1) := by decide +kernel
theorem dX6_has_14 : decode cX6_has 14 = .ok (.ireturn, 1) := by decide +kernel
theorem dX6_isKey_0 : decode cX6_isKey 0 = .ok (.iload_n 1, 1) := by decide +kernel
theorem dX6_isKey_1 : decode cX6_isKey 1 = .ok (.iconst 0, 1) := by decide +kernel
theorem dX6_isKey_2 : decode cX6_isKey 2 = .ok (.aload_n 0, 1) := by decide +kernel
theorem dX6_isKey_3 : decode cX6_isKey 3 = .ok (.getfield 72, 3) := by decide +kernel
theorem dX6_isKey_6 : decode cX6_isKey 6 = .ok (.iconst 1, 1) := by decide +kernel
theorem dX6_isKey_7 : decode cX6_isKey 7 = .ok (.isub, 1) := by decide +kernel
theorem dX6_isKey_8 : decode cX6_isKey 8 = .ok (.invokestatic 75, 3) := by decide +kernel
theorem dX6_isKey_11 : decode cX6_isKey 11 = .ok (.ireturn, 1) := by decide +kernel
theorem dX6_isLock_0 : decode cX6_isLock 0 = .ok (.iload_n 1, 1) := by decide +kernel
theorem dX6_isLock_1 : decode cX6_isLock 1 = .ok (.iconst 0, 1) := by decide +kernel
theorem dX6_isLock_2 : decode cX6_isLock 2 = .ok (.aload_n 0, 1) := by decide +kernel
theorem dX6_isLock_3 : decode cX6_isLock 3 = .ok (.getfield 79, 3) := by decide +kernel
theorem dX6_isLock_6 : decode cX6_isLock 6 = .ok (.iconst 1, 1) := by decide +kernel
theorem dX6_isLock_7 : decode cX6_isLock 7 = .ok (.isub, 1) := by decide +kernel
theorem dX6_isLock_8 : decode cX6_isLock 8 = .ok (.invokestatic 75, 3) := by decide +kernel
theorem dX6_isLock_11 : decode cX6_isLock 11 = .ok (.ireturn, 1) := by decide +kernel
theorem dX6_isPlace_0 : decode cX6_isPlace 0 = .ok (.iload_n 1, 1) := by decide +kernel
theorem dX6_isPlace_1 : decode cX6_isPlace 1 = .ok (.iconst 0, 1) := by decide +kernel
theorem dX6_isPlace_2 : decode cX6_isPlace 2 = .ok (.aload_n 0, 1) := by decide +kernel
theorem dX6_isPlace_3 : decode cX6_isPlace 3 = .ok (.getfield 59, 3) := by decide +kernel
theorem dX6_isPlace_6 : decode cX6_isPlace 6 = .ok (.iconst 1, 1) := by decide +kernel
theorem dX6_isPlace_7 : decode cX6_isPlace 7 = .ok (.isub, 1) := by decide +kernel
theorem dX6_isPlace_8 : decode cX6_isPlace 8 = .ok (.invokestatic 75, 3) := by decide +kernel
theorem dX6_isPlace_11 : decode cX6_isPlace 11 = .ok (.ireturn, 1) := by decide +kernel
theorem dX6_isRow_0 : decode cX6_isRow 0 = .ok (.aload_n 0, 1) := by decide +kernel
theorem dX6_isRow_1 : decode cX6_isRow 1 = .ok (.getfield 7, 3) := by decide +kernel
theorem dX6_isRow_4 : decode cX6_isRow 4 = .ok (.iload_n 1, 1) := by decide +kernel
theorem dX6_isRow_5 : decode cX6_isRow 5 = .ok (.iaload, 1) := by decide +kernel
theorem dX6_isRow_6 : decode cX6_isRow 6 = .ok (.iconst 0, 1) := by decide +kernel
theorem dX6_isRow_7 : decode cX6_isRow 7 = .ok (.iconst 4, 1) := by decide +kernel
theorem dX6_isRow_8 : decode cX6_isRow 8 = .ok (.invokestatic 75, 3) := by decide +kernel
theorem dX6_isRow_11 : decode cX6_isRow 11 = .ok (.ireturn, 1) := by decide +kernel
theorem dX6_row_0 : decode cX6_row 0 = .ok (.iload_n 1, 1) := by decide +kernel
theorem dX6_row_1 : decode cX6_row 1 = .ok (.iconst 0, 1) := by decide +kernel
theorem dX6_row_2 : decode cX6_row 2 = .ok (.bipush 7, 2) := by decide +kernel
theorem dX6_row_4 : decode cX6_row 4 = .ok (.invokestatic 75, 3) := by decide +kernel
theorem dX6_row_7 : decode cX6_row 7 = .ok (.ifCond .eq 22, 3) := by decide +kernel
theorem dX6_row_10 : decode cX6_row 10 = .ok (.iload_n 2, 1) := by decide +kernel
theorem dX6_row_11 : decode cX6_row 11 = .ok (.iconst 0, 1) := by decide +kernel
theorem dX6_row_12 : decode cX6_row 12 = .ok (.iconst 4, 1) := by decide +kernel
theorem dX6_row_13 : decode cX6_row 13 = .ok (.invokestatic 75, 3) := by decide +kernel
theorem dX6_row_16 : decode cX6_row 16 = .ok (.ifCond .eq 13, 3) := by decide +kernel
theorem dX6_row_19 : decode cX6_row 19 = .ok (.iload_n 3, 1) := by decide +kernel
theorem dX6_row_20 : decode cX6_row 20 = .ok (.iconst 0, 1) := by decide +kernel
theorem dX6_row_21 : decode cX6_row 21 = .ok (.bipush 40, 2) := by decide +kernel
theorem dX6_row_23 : decode cX6_row 23 = .ok (.invokestatic 75, 3) := by decide +kernel
theorem dX6_row_26 : decode cX6_row 26 = .ok (.ifCond .ne 10, 3) := by decide +kernel
theorem dX6_row_29 : decode cX6_row 29 = .ok (.aload_n 0, 1) := by decide +kernel
theorem dX6_row_30 : decode cX6_row 30 = .ok (.bipush (-2), 2) := by decide +kernel
theorem dX6_row_32 : decode cX6_row 32 = .ok (.invokevirtual 82, 3) := by decide +kernel
theorem dX6_row_35 : decode cX6_row 35 = .ok (.ireturn, 1) := by decide +kernel
theorem dX6_row_36 : decode cX6_row 36 = .ok (.aload_n 0, 1) := by decide +kernel
theorem dX6_row_37 : decode cX6_row 37 = .ok (.getfield 7, 3) := by decide +kernel
theorem dX6_row_40 : decode cX6_row 40 = .ok (.iload_n 1, 1) := by decide +kernel
theorem dX6_row_41 : decode cX6_row 41 = .ok (.iload_n 2, 1) := by decide +kernel
theorem dX6_row_42 : decode cX6_row 42 = .ok (.iastore, 1) := by decide +kernel
theorem dX6_row_43 : decode cX6_row 43 = .ok (.aload_n 0, 1) := by decide +kernel
theorem dX6_row_44 : decode cX6_row 44 = .ok (.getfield 13, 3) := by decide +kernel
theorem dX6_row_47 : decode cX6_row 47 = .ok (.iload_n 1, 1) := by decide +kernel
theorem dX6_row_48 : decode cX6_row 48 = .ok (.iload_n 3, 1) := by decide +kernel
theorem dX6_row_49 : decode cX6_row 49 = .ok (.iastore, 1) := by decide +kernel
theorem dX6_row_50 : decode cX6_row 50 = .ok (.iconst 0, 1) := by decide +kernel
theorem dX6_row_51 : decode cX6_row 51 = .ok (.istore 4, 2) := by decide +kernel
theorem dX6_row_53 : decode cX6_row 53 = .ok (.iload 4, 2) := by decide +kernel
theorem dX6_row_55 : decode cX6_row 55 = .ok (.bipush 40, 2) := by decide +kernel
theorem dX6_row_57 : decode cX6_row 57 = .ok (.if_icmp .ge 22, 3) := by decide +kernel
theorem dX6_row_60 : decode cX6_row 60 = .ok (.aload_n 0, 1) := by decide +kernel
theorem dX6_row_61 : decode cX6_row 61 = .ok (.getfield 16, 3) := by decide +kernel
theorem dX6_row_64 : decode cX6_row 64 = .ok (.bipush 40, 2) := by decide +kernel
theorem dX6_row_66 : decode cX6_row 66 = .ok (.iload_n 1, 1) := by decide +kernel
theorem dX6_row_67 : decode cX6_row 67 = .ok (.imul, 1) := by decide +kernel
theorem dX6_row_68 : decode cX6_row 68 = .ok (.iload 4, 2) := by decide +kernel
theorem dX6_row_70 : decode cX6_row 70 = .ok (.iadd, 1) := by decide +kernel
theorem dX6_row_71 : decode cX6_row 71 = .ok (.lconst 0, 1) := by decide +kernel
theorem dX6_row_72 : decode cX6_row 72 = .ok (.lastore, 1) := by decide +kernel
theorem dX6_row_73 : decode cX6_row 73 = .ok (.iinc 4 1, 3) := by decide +kernel
theorem dX6_row_76 : decode cX6_row 76 = .ok (.goto (-23), 3) := by decide +kernel
theorem dX6_row_79 : decode cX6_row 79 = .ok (.iconst 1, 1) := by decide +kernel
theorem dX6_row_80 : decode cX6_row 80 = .ok (.ireturn, 1) := by decide +kernel
theorem dX6_noRow_0 : decode cX6_noRow 0 = .ok (.iload_n 1, 1) := by decide +kernel
theorem dX6_noRow_1 : decode cX6_noRow 1 = .ok (.iconst 0, 1) := by decide +kernel
theorem dX6_noRow_2 : decode cX6_noRow 2 = .ok (.bipush 7, 2) := by decide +kernel
theorem dX6_noRow_4 : decode cX6_noRow 4 = .ok (.invokestatic 75, 3) := by decide +kernel
theorem dX6_noRow_7 : decode cX6_noRow 7 = .ok (.ifCond .ne 6, 3) := by decide +kernel
theorem dX6_noRow_10 : decode cX6_noRow 10 = .ok (.bipush (-2), 2) := by decide +kernel
theorem dX6_noRow_12 : decode cX6_noRow 12 = .ok (.ireturn, 1) := by decide +kernel
theorem dX6_noRow_13 : decode cX6_noRow 13 = .ok (.aload_n 0, 1) := by decide +kernel
theorem dX6_noRow_14 : decode cX6_noRow 14 = .ok (.getfield 7, 3) := by decide +kernel
theorem dX6_noRow_17 : decode cX6_noRow 17 = .ok (.iload_n 1, 1) := by decide +kernel
theorem dX6_noRow_18 : decode cX6_noRow 18 = .ok (.iaload, 1) := by decide +kernel
theorem dX6_noRow_19 : decode cX6_noRow 19 = .ok (.iconst 4, 1) := by decide +kernel
theorem dX6_noRow_20 : decode cX6_noRow 20 = .ok (.if_icmp .le 6, 3) := by decide +kernel
theorem dX6_noRow_23 : decode cX6_noRow 23 = .ok (.bipush (-3), 2) := by decide +kernel
theorem dX6_noRow_25 : decode cX6_noRow 25 = .ok (.ireturn, 1) := by decide +kernel
theorem dX6_noRow_26 : decode cX6_noRow 26 = .ok (.aload_n 0, 1) := by decide +kernel
theorem dX6_noRow_27 : decode cX6_noRow 27 = .ok (.getfield 7, 3) := by decide +kernel
theorem dX6_noRow_30 : decode cX6_noRow 30 = .ok (.iload_n 1, 1) := by decide +kernel
theorem dX6_noRow_31 : decode cX6_noRow 31 = .ok (.iaload, 1) := by decide +kernel
theorem dX6_noRow_32 : decode cX6_noRow 32 = .ok (.ifCond .ge 8, 3) := by decide +kernel
theorem dX6_noRow_35 : decode cX6_noRow 35 = .ok (.bipush (-4), 2) := by decide +kernel
theorem dX6_noRow_37 : decode cX6_noRow 37 = .ok (.goto 4, 3) := by decide +kernel
theorem dX6_noRow_40 : decode cX6_noRow 40 = .ok (.iconst 0, 1) := by decide +kernel
theorem dX6_noRow_41 : decode cX6_noRow 41 = .ok (.ireturn, 1) := by decide +kernel
theorem dX6_set_0 : decode cX6_set 0 = .ok (.aload_n 0, 1) := by decide +kernel
theorem dX6_set_1 : decode cX6_set 1 = .ok (.iload_n 1, 1) := by decide +kernel
theorem dX6_set_2 : decode cX6_set 2 = .ok (.invokevirtual 86, 3) := by decide +kernel
theorem dX6_set_5 : decode cX6_set 5 = .ok (.istore 5, 2) := by decide +kernel
theorem dX6_set_7 : decode cX6_set 7 = .ok (.iload 5, 2) := by decide +kernel
theorem dX6_set_9 : decode cX6_set 9 = .ok (.ifCond .ge 10, 3) := by decide +kernel
theorem dX6_set_12 : decode cX6_set 12 = .ok (.aload_n 0, 1) := by decide +kernel
theorem dX6_set_13 : decode cX6_set 13 = .ok (.iload 5, 2) := by decide +kernel
theorem dX6_set_15 : decode cX6_set 15 = .ok (.invokevirtual 82, 3) := by decide +kernel
theorem dX6_set_18 : decode cX6_set 18 = .ok (.ireturn, 1) := by decide +kernel
theorem dX6_set_19 : decode cX6_set 19 = .ok (.iload_n 2, 1) := by decide +kernel
theorem dX6_set_20 : decode cX6_set 20 = .ok (.iconst 0, 1) := by decide +kernel
theorem dX6_set_21 : decode cX6_set 21 = .ok (.aload_n 0, 1) := by decide +kernel
theorem dX6_set_22 : decode cX6_set 22 = .ok (.getfield 13, 3) := by decide +kernel
theorem dX6_set_25 : decode cX6_set 25 = .ok (.iload_n 1, 1) := by decide +kernel
theorem dX6_set_26 : decode cX6_set 26 = .ok (.iaload, 1) := by decide +kernel
theorem dX6_set_27 : decode cX6_set 27 = .ok (.iconst 1, 1) := by decide +kernel
theorem dX6_set_28 : decode cX6_set 28 = .ok (.isub, 1) := by decide +kernel
theorem dX6_set_29 : decode cX6_set 29 = .ok (.invokestatic 75, 3) := by decide +kernel
theorem dX6_set_32 : decode cX6_set 32 = .ok (.ifCond .ne 10, 3) := by decide +kernel
theorem dX6_set_35 : decode cX6_set 35 = .ok (.aload_n 0, 1) := by decide +kernel
theorem dX6_set_36 : decode cX6_set 36 = .ok (.bipush (-2), 2) := by decide +kernel
theorem dX6_set_38 : decode cX6_set 38 = .ok (.invokevirtual 82, 3) := by decide +kernel
theorem dX6_set_41 : decode cX6_set 41 = .ok (.ireturn, 1) := by decide +kernel
theorem dX6_set_42 : decode cX6_set 42 = .ok (.lload_n 3, 1) := by decide +kernel
theorem dX6_set_43 : decode cX6_set 43 = .ok (.lstore 6, 2) := by decide +kernel
theorem dX6_set_45 : decode cX6_set 45 = .ok (.aload_n 0, 1) := by decide +kernel
theorem dX6_set_46 : decode cX6_set 46 = .ok (.getfield 7, 3) := by decide +kernel
theorem dX6_set_49 : decode cX6_set 49 = .ok (.iload_n 1, 1) := by decide +kernel
theorem dX6_set_50 : decode cX6_set 50 = .ok (.iaload, 1) := by decide +kernel
theorem dX6_set_51 : decode cX6_set 51 = .ok (.ifCond .ne 9, 3) := by decide +kernel
theorem dX6_set_54 : decode cX6_set 54 = .ok (.lload_n 3, 1) := by decide +kernel
theorem dX6_set_55 : decode cX6_set 55 = .ok (.l2i, 1) := by decide +kernel
theorem dX6_set_56 : decode cX6_set 56 = .ok (.i2b, 1) := by decide +kernel
theorem dX6_set_57 : decode cX6_set 57 = .ok (.i2l, 1) := by decide +kernel
theorem dX6_set_58 : decode cX6_set 58 = .ok (.lstore 6, 2) := by decide +kernel
theorem dX6_set_60 : decode cX6_set 60 = .ok (.aload_n 0, 1) := by decide +kernel
theorem dX6_set_61 : decode cX6_set 61 = .ok (.getfield 7, 3) := by decide +kernel
theorem dX6_set_64 : decode cX6_set 64 = .ok (.iload_n 1, 1) := by decide +kernel
theorem dX6_set_65 : decode cX6_set 65 = .ok (.iaload, 1) := by decide +kernel
theorem dX6_set_66 : decode cX6_set 66 = .ok (.iconst 1, 1) := by decide +kernel
theorem dX6_set_67 : decode cX6_set 67 = .ok (.if_icmp .ne 9, 3) := by decide +kernel
theorem dX6_set_70 : decode cX6_set 70 = .ok (.lload_n 3, 1) := by decide +kernel
theorem dX6_set_71 : decode cX6_set 71 = .ok (.l2i, 1) := by decide +kernel
theorem dX6_set_72 : decode cX6_set 72 = .ok (.i2s, 1) := by decide +kernel
theorem dX6_set_73 : decode cX6_set 73 = .ok (.i2l, 1) := by decide +kernel
theorem dX6_set_74 : decode cX6_set 74 = .ok (.lstore 6, 2) := by decide +kernel
theorem dX6_set_76 : decode cX6_set 76 = .ok (.aload_n 0, 1) := by decide +kernel
theorem dX6_set_77 : decode cX6_set 77 = .ok (.getfield 7, 3) := by decide +kernel
theorem dX6_set_80 : decode cX6_set 80 = .ok (.iload_n 1, 1) := by decide +kernel
theorem dX6_set_81 : decode cX6_set 81 = .ok (.iaload, 1) := by decide +kernel
theorem dX6_set_82 : decode cX6_set 82 = .ok (.iconst 2, 1) := by decide +kernel
theorem dX6_set_83 : decode cX6_set 83 = .ok (.if_icmp .ne 8, 3) := by decide +kernel
theorem dX6_set_86 : decode cX6_set 86 = .ok (.lload_n 3, 1) := by decide +kernel
theorem dX6_set_87 : decode cX6_set 87 = .ok (.l2i, 1) := by decide +kernel
theorem dX6_set_88 : decode cX6_set 88 = .ok (.i2l, 1) := by decide +kernel
theorem dX6_set_89 : decode cX6_set 89 = .ok (.lstore 6, 2) := by decide +kernel
theorem dX6_set_91 : decode cX6_set 91 = .ok (.aload_n 0, 1) := by decide +kernel
theorem dX6_set_92 : decode cX6_set 92 = .ok (.getfield 7, 3) := by decide +kernel
theorem dX6_set_95 : decode cX6_set 95 = .ok (.iload_n 1, 1) := by decide +kernel
theorem dX6_set_96 : decode cX6_set 96 = .ok (.iaload, 1) := by decide +kernel
theorem dX6_set_97 : decode cX6_set 97 = .ok (.iconst 4, 1) := by decide +kernel
theorem dX6_set_98 : decode cX6_set 98 = .ok (.if_icmp .ne 16, 3) := by decide +kernel
theorem dX6_set_101 : decode cX6_set 101 = .ok (.lload_n 3, 1) := by decide +kernel
theorem dX6_set_102 : decode cX6_set 102 = .ok (.lconst 0, 1) := by decide +kernel
theorem dX6_set_103 : decode cX6_set 103 = .ok (.lcmp, 1) := by decide +kernel
theorem dX6_set_104 : decode cX6_set 104 = .ok (.ifCond .eq 7, 3) := by decide +kernel
theorem dX6_set_107 : decode cX6_set 107 = .ok (.lconst 1, 1) := by decide +kernel
theorem dX6_set_108 : decode cX6_set 108 = .ok (.goto 4, 3) := by decide +kernel
theorem dX6_set_111 : decode cX6_set 111 = .ok (.lconst 0, 1) := by decide +kernel
theorem dX6_set_112 : decode cX6_set 112 = .ok (.lstore 6, 2) := by decide +kernel
theorem dX6_set_114 : decode cX6_set 114 = .ok (.aload_n 0, 1) := by decide +kernel
theorem dX6_set_115 : decode cX6_set 115 = .ok (.getfield 16, 3) := by decide +kernel
theorem dX6_set_118 : decode cX6_set 118 = .ok (.bipush 40, 2) := by decide +kernel
theorem dX6_set_120 : decode cX6_set 120 = .ok (.iload_n 1, 1) := by decide +kernel
theorem dX6_set_121 : decode cX6_set 121 = .ok (.imul, 1) := by decide +kernel
theorem dX6_set_122 : decode cX6_set 122 = .ok (.iload_n 2, 1) := by decide +kernel
theorem dX6_set_123 : decode cX6_set 123 = .ok (.iadd, 1) := by decide +kernel
theorem dX6_set_124 : decode cX6_set 124 = .ok (.lload 6, 2) := by decide +kernel
theorem dX6_set_126 : decode cX6_set 126 = .ok (.lastore, 1) := by decide +kernel
theorem dX6_set_127 : decode cX6_set 127 = .ok (.iconst 1, 1) := by decide +kernel
theorem dX6_set_128 : decode cX6_set 128 = .ok (.ireturn, 1) := by decide +kernel
theorem dX6_copy_0 : decode cX6_copy 0 = .ok (.iload_n 1, 1) := by decide +kernel
theorem dX6_copy_1 : decode cX6_copy 1 = .ok (.iconst 0, 1) := by decide +kernel
theorem dX6_copy_2 : decode cX6_copy 2 = .ok (.bipush 7, 2) := by decide +kernel
theorem dX6_copy_4 : decode cX6_copy 4 = .ok (.invokestatic 75, 3) := by decide +kernel
theorem dX6_copy_7 : decode cX6_copy 7 = .ok (.ifCond .eq 13, 3) := by decide +kernel
theorem dX6_copy_10 : decode cX6_copy 10 = .ok (.iload_n 2, 1) := by decide +kernel
theorem dX6_copy_11 : decode cX6_copy 11 = .ok (.iconst 0, 1) := by decide +kernel
theorem dX6_copy_12 : decode cX6_copy 12 = .ok (.bipush 7, 2) := by decide +kernel
theorem dX6_copy_14 : decode cX6_copy 14 = .ok (.invokestatic 75, 3) := by decide +kernel
theorem dX6_copy_17 : decode cX6_copy 17 = .ok (.ifCond .ne 10, 3) := by decide +kernel
theorem dX6_copy_20 : decode cX6_copy 20 = .ok (.aload_n 0, 1) := by decide +kernel
theorem dX6_copy_21 : decode cX6_copy 21 = .ok (.bipush (-2), 2) := by decide +kernel
theorem dX6_copy_23 : decode cX6_copy 23 = .ok (.invokevirtual 82, 3) := by decide +kernel
theorem dX6_copy_26 : decode cX6_copy 26 = .ok (.ireturn, 1) := by decide +kernel
theorem dX6_copy_27 : decode cX6_copy 27 = .ok (.aload_n 0, 1) := by decide +kernel
theorem dX6_copy_28 : decode cX6_copy 28 = .ok (.getfield 7, 3) := by decide +kernel
theorem dX6_copy_31 : decode cX6_copy 31 = .ok (.iload_n 1, 1) := by decide +kernel
theorem dX6_copy_32 : decode cX6_copy 32 = .ok (.iaload, 1) := by decide +kernel
theorem dX6_copy_33 : decode cX6_copy 33 = .ok (.iconst 4, 1) := by decide +kernel
theorem dX6_copy_34 : decode cX6_copy 34 = .ok (.if_icmp .gt 44, 3) := by decide +kernel
theorem dX6_copy_37 : decode cX6_copy 37 = .ok (.aload_n 0, 1) := by decide +kernel
theorem dX6_copy_38 : decode cX6_copy 38 = .ok (.getfield 7, 3) := by decide +kernel
theorem dX6_copy_41 : decode cX6_copy 41 = .ok (.iload_n 2, 1) := by decide +kernel
theorem dX6_copy_42 : decode cX6_copy 42 = .ok (.iaload, 1) := by decide +kernel
theorem dX6_copy_43 : decode cX6_copy 43 = .ok (.iconst 4, 1) := by decide +kernel
theorem dX6_copy_44 : decode cX6_copy 44 = .ok (.if_icmp .gt 34, 3) := by decide +kernel
theorem dX6_copy_47 : decode cX6_copy 47 = .ok (.aload_n 0, 1) := by decide +kernel
theorem dX6_copy_48 : decode cX6_copy 48 = .ok (.iload_n 1, 1) := by decide +kernel
theorem dX6_copy_49 : decode cX6_copy 49 = .ok (.invokevirtual 89, 3) := by decide +kernel
theorem dX6_copy_52 : decode cX6_copy 52 = .ok (.ifCond .eq 33, 3) := by decide +kernel
theorem dX6_copy_55 : decode cX6_copy 55 = .ok (.aload_n 0, 1) := by decide +kernel
theorem dX6_copy_56 : decode cX6_copy 56 = .ok (.iload_n 2, 1) := by decide +kernel
theorem dX6_copy_57 : decode cX6_copy 57 = .ok (.invokevirtual 89, 3) := by decide +kernel
theorem dX6_copy_60 : decode cX6_copy 60 = .ok (.ifCond .eq 25, 3) := by decide +kernel
theorem dX6_copy_63 : decode cX6_copy 63 = .ok (.aload_n 0, 1) := by decide +kernel
theorem dX6_copy_64 : decode cX6_copy 64 = .ok (.getfield 7, 3) := by decide +kernel
theorem dX6_copy_67 : decode cX6_copy 67 = .ok (.iload_n 1, 1) := by decide +kernel
theorem dX6_copy_68 : decode cX6_copy 68 = .ok (.iaload, 1) := by decide +kernel
theorem dX6_copy_69 : decode cX6_copy 69 = .ok (.aload_n 0, 1) := by decide +kernel
theorem dX6_copy_70 : decode cX6_copy 70 = .ok (.getfield 7, 3) := by decide +kernel
theorem dX6_copy_73 : decode cX6_copy 73 = .ok (.iload_n 2, 1) := by decide +kernel
theorem dX6_copy_74 : decode cX6_copy 74 = .ok (.iaload, 1) := by decide +kernel
theorem dX6_copy_75 : decode cX6_copy 75 = .ok (.if_icmp .eq 10, 3) := by decide +kernel
theorem dX6_copy_78 : decode cX6_copy 78 = .ok (.aload_n 0, 1) := by decide +kernel
theorem dX6_copy_79 : decode cX6_copy 79 = .ok (.bipush (-3), 2) := by decide +kernel
theorem dX6_copy_81 : decode cX6_copy 81 = .ok (.invokevirtual 82, 3) := by decide +kernel
theorem dX6_copy_84 : decode cX6_copy 84 = .ok (.ireturn, 1) := by decide +kernel
theorem dX6_copy_85 : decode cX6_copy 85 = .ok (.aload_n 0, 1) := by decide +kernel
theorem dX6_copy_86 : decode cX6_copy 86 = .ok (.getfield 7, 3) := by decide +kernel
theorem dX6_copy_89 : decode cX6_copy 89 = .ok (.iload_n 1, 1) := by decide +kernel
theorem dX6_copy_90 : decode cX6_copy 90 = .ok (.iaload, 1) := by decide +kernel
theorem dX6_copy_91 : decode cX6_copy 91 = .ok (.ifCond .lt 12, 3) := by decide +kernel
theorem dX6_copy_94 : decode cX6_copy 94 = .ok (.aload_n 0, 1) := by decide +kernel
theorem dX6_copy_95 : decode cX6_copy 95 = .ok (.getfield 7, 3) := by decide +kernel
theorem dX6_copy_98 : decode cX6_copy 98 = .ok (.iload_n 2, 1) := by decide +kernel
theorem dX6_copy_99 : decode cX6_copy 99 = .ok (.iaload, 1) := by decide +kernel
theorem dX6_copy_100 : decode cX6_copy 100 = .ok (.ifCond .ge 10, 3) := by decide +kernel
theorem dX6_copy_103 : decode cX6_copy 103 = .ok (.aload_n 0, 1) := by decide +kernel
theorem dX6_copy_104 : decode cX6_copy 104 = .ok (.bipush (-4), 2) := by decide +kernel
theorem dX6_copy_106 : decode cX6_copy 106 = .ok (.invokevirtual 82, 3) := by decide +kernel
theorem dX6_copy_109 : decode cX6_copy 109 = .ok (.ireturn, 1) := by decide +kernel
theorem dX6_copy_110 : decode cX6_copy 110 = .ok (.iload 5, 2) := by decide +kernel
theorem dX6_copy_112 : decode cX6_copy 112 = .ok (.ifCond .lt 47, 3) := by decide +kernel
theorem dX6_copy_115 : decode cX6_copy 115 = .ok (.iload_n 3, 1) := by decide +kernel
theorem dX6_copy_116 : decode cX6_copy 116 = .ok (.ifCond .lt 43, 3) := by decide +kernel
theorem dX6_copy_119 : decode cX6_copy 119 = .ok (.iload 4, 2) := by decide +kernel
theorem dX6_copy_121 : decode cX6_copy 121 = .ok (.ifCond .lt 38, 3) := by decide +kernel
theorem dX6_copy_124 : decode cX6_copy 124 = .ok (.iload_n 3, 1) := by decide +kernel
theorem dX6_copy_125 : decode cX6_copy 125 = .ok (.i2l, 1) := by decide +kernel
theorem dX6_copy_126 : decode cX6_copy 126 = .ok (.iload 5, 2) := by decide +kernel
theorem dX6_copy_128 : decode cX6_copy 128 = .ok (.i2l, 1) := by decide +kernel
theorem dX6_copy_129 : decode cX6_copy 129 = .ok (.ladd, 1) := by decide +kernel
theorem dX6_copy_130 : decode cX6_copy 130 = .ok (.aload_n 0, 1) := by decide +kernel
theorem dX6_copy_131 : decode cX6_copy 131 = .ok (.getfield 13, 3) := by decide +kernel
theorem dX6_copy_134 : decode cX6_copy 134 = .ok (.iload_n 1, 1) := by decide +kernel
theorem dX6_copy_135 : decode cX6_copy 135 = .ok (.iaload, 1) := by decide +kernel
theorem dX6_copy_136 : decode cX6_copy 136 = .ok (.i2l, 1) := by decide +kernel
theorem dX6_copy_137 : decode cX6_copy 137 = .ok (.lcmp, 1) := by decide +kernel
theorem dX6_copy_138 : decode cX6_copy 138 = .ok (.ifCond .gt 21, 3) := by decide +kernel
theorem dX6_copy_141 : decode cX6_copy 141 = .ok (.iload 4, 2) := by decide +kernel
theorem dX6_copy_143 : decode cX6_copy 143 = .ok (.i2l, 1) := by decide +kernel
theorem dX6_copy_144 : decode cX6_copy 144 = .ok (.iload 5, 2) := by decide +kernel
theorem dX6_copy_146 : decode cX6_copy 146 = .ok (.i2l, 1) := by decide +kernel
theorem dX6_copy_147 : decode cX6_copy 147 = .ok (.ladd, 1) := by decide +kernel
theorem dX6_copy_148 : decode cX6_copy 148 = .ok (.aload_n 0, 1) := by decide +kernel
theorem dX6_copy_149 : decode cX6_copy 149 = .ok (.getfield 13, 3) := by decide +kernel
theorem dX6_copy_152 : decode cX6_copy 152 = .ok (.iload_n 2, 1) := by decide +kernel
theorem dX6_copy_153 : decode cX6_copy 153 = .ok (.iaload, 1) := by decide +kernel
theorem dX6_copy_154 : decode cX6_copy 154 = .ok (.i2l, 1) := by decide +kernel
theorem dX6_copy_155 : decode cX6_copy 155 = .ok (.lcmp, 1) := by decide +kernel
theorem dX6_copy_156 : decode cX6_copy 156 = .ok (.ifCond .le 10, 3) := by decide +kernel
theorem dX6_copy_159 : decode cX6_copy 159 = .ok (.aload_n 0, 1) := by decide +kernel
theorem dX6_copy_160 : decode cX6_copy 160 = .ok (.bipush (-2), 2) := by decide +kernel
theorem dX6_copy_162 : decode cX6_copy 162 = .ok (.invokevirtual 82, 3) := by decide +kernel
theorem dX6_copy_165 : decode cX6_copy 165 = .ok (.ireturn, 1) := by decide +kernel
theorem dX6_copy_166 : decode cX6_copy 166 = .ok (.iload_n 1, 1) := by decide +kernel
theorem dX6_copy_167 : decode cX6_copy 167 = .ok (.iload_n 2, 1) := by decide +kernel
theorem dX6_copy_168 : decode cX6_copy 168 = .ok (.if_icmp .ne 58, 3) := by decide +kernel
theorem dX6_copy_171 : decode cX6_copy 171 = .ok (.iload_n 3, 1) := by decide +kernel
theorem dX6_copy_172 : decode cX6_copy 172 = .ok (.iload 4, 2) := by decide +kernel
theorem dX6_copy_174 : decode cX6_copy 174 = .ok (.if_icmp .ge 52, 3) := by decide +kernel
theorem dX6_copy_177 : decode cX6_copy 177 = .ok (.iload 5, 2) := by decide +kernel
theorem dX6_copy_179 : decode cX6_copy 179 = .ok (.iconst 1, 1) := by decide +kernel
theorem dX6_copy_180 : decode cX6_copy 180 = .ok (.isub, 1) := by decide +kernel
theorem dX6_copy_181 : decode cX6_copy 181 = .ok (.istore 6, 2) := by decide +kernel
theorem dX6_copy_183 : decode cX6_copy 183 = .ok (.iload 6, 2) := by decide +kernel
theorem dX6_copy_185 : decode cX6_copy 185 = .ok (.ifCond .lt 38, 3) := by decide +kernel
theorem dX6_copy_188 : decode cX6_copy 188 = .ok (.aload_n 0, 1) := by decide +kernel
theorem dX6_copy_189 : decode cX6_copy 189 = .ok (.getfield 16, 3) := by decide +kernel
theorem dX6_copy_192 : decode cX6_copy 192 = .ok (.bipush 40, 2) := by decide +kernel
theorem dX6_copy_194 : decode cX6_copy 194 = .ok (.iload_n 2, 1) := by decide +kernel
theorem dX6_copy_195 : decode cX6_copy 195 = .ok (.imul, 1) := by decide +kernel
theorem dX6_copy_196 : decode cX6_copy 196 = .ok (.iload 4, 2) := by decide +kernel
theorem dX6_copy_198 : decode cX6_copy 198 = .ok (.iadd, 1) := by decide +kernel
theorem dX6_copy_199 : decode cX6_copy 199 = .ok (.iload 6, 2) := by decide +kernel
theorem dX6_copy_201 : decode cX6_copy 201 = .ok (.iadd, 1) := by decide +kernel
theorem dX6_copy_202 : decode cX6_copy 202 = .ok (.aload_n 0, 1) := by decide +kernel
theorem dX6_copy_203 : decode cX6_copy 203 = .ok (.getfield 16, 3) := by decide +kernel
theorem dX6_copy_206 : decode cX6_copy 206 = .ok (.bipush 40, 2) := by decide +kernel
theorem dX6_copy_208 : decode cX6_copy 208 = .ok (.iload_n 1, 1) := by decide +kernel
theorem dX6_copy_209 : decode cX6_copy 209 = .ok (.imul, 1) := by decide +kernel
theorem dX6_copy_210 : decode cX6_copy 210 = .ok (.iload_n 3, 1) := by decide +kernel
theorem dX6_copy_211 : decode cX6_copy 211 = .ok (.iadd, 1) := by decide +kernel
theorem dX6_copy_212 : decode cX6_copy 212 = .ok (.iload 6, 2) := by decide +kernel
theorem dX6_copy_214 : decode cX6_copy 214 = .ok (.iadd, 1) := by decide +kernel
theorem dX6_copy_215 : decode cX6_copy 215 = .ok (.laload, 1) := by decide +kernel
theorem dX6_copy_216 : decode cX6_copy 216 = .ok (.lastore, 1) := by decide +kernel
theorem dX6_copy_217 : decode cX6_copy 217 = .ok (.iinc 6 (-1), 3) := by decide +kernel
theorem dX6_copy_220 : decode cX6_copy 220 = .ok (.goto (-37), 3) := by decide +kernel
theorem dX6_copy_223 : decode cX6_copy 223 = .ok (.goto 48, 3) := by decide +kernel
theorem dX6_copy_226 : decode cX6_copy 226 = .ok (.iconst 0, 1) := by decide +kernel
theorem dX6_copy_227 : decode cX6_copy 227 = .ok (.istore 6, 2) := by decide +kernel
theorem dX6_copy_229 : decode cX6_copy 229 = .ok (.iload 6, 2) := by decide +kernel
theorem dX6_copy_231 : decode cX6_copy 231 = .ok (.iload 5, 2) := by decide +kernel
theorem dX6_copy_233 : decode cX6_copy 233 = .ok (.if_icmp .ge 38, 3) := by decide +kernel
theorem dX6_copy_236 : decode cX6_copy 236 = .ok (.aload_n 0, 1) := by decide +kernel
theorem dX6_copy_237 : decode cX6_copy 237 = .ok (.getfield 16, 3) := by decide +kernel
theorem dX6_copy_240 : decode cX6_copy 240 = .ok (.bipush 40, 2) := by decide +kernel
theorem dX6_copy_242 : decode cX6_copy 242 = .ok (.iload_n 2, 1) := by decide +kernel
theorem dX6_copy_243 : decode cX6_copy 243 = .ok (.imul, 1) := by decide +kernel
theorem dX6_copy_244 : decode cX6_copy 244 = .ok (.iload 4, 2) := by decide +kernel
theorem dX6_copy_246 : decode cX6_copy 246 = .ok (.iadd, 1) := by decide +kernel
theorem dX6_copy_247 : decode cX6_copy 247 = .ok (.iload 6, 2) := by decide +kernel
theorem dX6_copy_249 : decode cX6_copy 249 = .ok (.iadd, 1) := by decide +kernel
theorem dX6_copy_250 : decode cX6_copy 250 = .ok (.aload_n 0, 1) := by decide +kernel
theorem dX6_copy_251 : decode cX6_copy 251 = .ok (.getfield 16, 3) := by decide +kernel
theorem dX6_copy_254 : decode cX6_copy 254 = .ok (.bipush 40, 2) := by decide +kernel
theorem dX6_copy_256 : decode cX6_copy 256 = .ok (.iload_n 1, 1) := by decide +kernel
theorem dX6_copy_257 : decode cX6_copy 257 = .ok (.imul, 1) := by decide +kernel
theorem dX6_copy_258 : decode cX6_copy 258 = .ok (.iload_n 3, 1) := by decide +kernel
theorem dX6_copy_259 : decode cX6_copy 259 = .ok (.iadd, 1) := by decide +kernel
theorem dX6_copy_260 : decode cX6_copy 260 = .ok (.iload 6, 2) := by decide +kernel
theorem dX6_copy_262 : decode cX6_copy 262 = .ok (.iadd, 1) := by decide +kernel
theorem dX6_copy_263 : decode cX6_copy 263 = .ok (.laload, 1) := by decide +kernel
theorem dX6_copy_264 : decode cX6_copy 264 = .ok (.lastore, 1) := by decide +kernel
theorem dX6_copy_265 : decode cX6_copy 265 = .ok (.iinc 6 1, 3) := by decide +kernel
theorem dX6_copy_268 : decode cX6_copy 268 = .ok (.goto (-39), 3) := by decide +kernel
theorem dX6_copy_271 : decode cX6_copy 271 = .ok (.iload 5, 2) := by decide +kernel
theorem dX6_copy_273 : decode cX6_copy 273 = .ok (.ireturn, 1) := by decide +kernel
theorem dX6_element_0 : decode cX6_element 0 = .ok (.iload_n 1, 1) := by decide +kernel
theorem dX6_element_1 : decode cX6_element 1 = .ok (.iconst 0, 1) := by decide +kernel
theorem dX6_element_2 : decode cX6_element 2 = .ok (.bipush 7, 2) := by decide +kernel
theorem dX6_element_4 : decode cX6_element 4 = .ok (.invokestatic 75, 3) := by decide +kernel
theorem dX6_element_7 : decode cX6_element 7 = .ok (.ifCond .eq 41, 3) := by decide +kernel
theorem dX6_element_10 : decode cX6_element 10 = .ok (.aload_n 0, 1) := by decide +kernel
theorem dX6_element_11 : decode cX6_element 11 = .ok (.iload_n 1, 1) := by decide +kernel
theorem dX6_element_12 : decode cX6_element 12 = .ok (.invokevirtual 89, 3) := by decide +kernel
theorem dX6_element_15 : decode cX6_element 15 = .ok (.ifCond .eq 33, 3) := by decide +kernel
theorem dX6_element_18 : decode cX6_element 18 = .ok (.iload_n 2, 1) := by decide +kernel
theorem dX6_element_19 : decode cX6_element 19 = .ok (.iconst 0, 1) := by decide +kernel
theorem dX6_element_20 : decode cX6_element 20 = .ok (.aload_n 0, 1) := by decide +kernel
theorem dX6_element_21 : decode cX6_element 21 = .ok (.getfield 13, 3) := by decide +kernel
theorem dX6_element_24 : decode cX6_element 24 = .ok (.iload_n 1, 1) := by decide +kernel
theorem dX6_element_25 : decode cX6_element 25 = .ok (.iaload, 1) := by decide +kernel
theorem dX6_element_26 : decode cX6_element 26 = .ok (.iconst 1, 1) := by decide +kernel
theorem dX6_element_27 : decode cX6_element 27 = .ok (.isub, 1) := by decide +kernel
theorem dX6_element_28 : decode cX6_element 28 = .ok (.invokestatic 75, 3) := by decide +kernel
theorem dX6_element_31 : decode cX6_element 31 = .ok (.ifCond .eq 17, 3) := by decide +kernel
theorem dX6_element_34 : decode cX6_element 34 = .ok (.aload_n 0, 1) := by decide +kernel
theorem dX6_element_35 : decode cX6_element 35 = .ok (.getfield 16, 3) := by decide +kernel
theorem dX6_element_38 : decode cX6_element 38 = .ok (.bipush 40, 2) := by decide +kernel
theorem dX6_element_40 : decode cX6_element 40 = .ok (.iload_n 1, 1) := by decide +kernel
theorem dX6_element_41 : decode cX6_element 41 = .ok (.imul, 1) := by decide +kernel
theorem dX6_element_42 : decode cX6_element 42 = .ok (.iload_n 2, 1) := by decide +kernel
theorem dX6_element_43 : decode cX6_element 43 = .ok (.iadd, 1) := by decide +kernel
theorem dX6_element_44 : decode cX6_element 44 = .ok (.laload, 1) := by decide +kernel
theorem dX6_element_45 : decode cX6_element 45 = .ok (.goto 4, 3) := by decide +kernel
theorem dX6_element_48 : decode cX6_element 48 = .ok (.lconst 0, 1) := by decide +kernel
theorem dX6_element_49 : decode cX6_element 49 = .ok (.lreturn, 1) := by decide +kernel
theorem dX6_holds_0 : decode cX6_holds 0 = .ok (.iload_n 1, 1) := by decide +kernel
theorem dX6_holds_1 : decode cX6_holds 1 = .ok (.iconst 0, 1) := by decide +kernel
theorem dX6_holds_2 : decode cX6_holds 2 = .ok (.bipush 7, 2) := by decide +kernel
theorem dX6_holds_4 : decode cX6_holds 4 = .ok (.invokestatic 75, 3) := by decide +kernel
theorem dX6_holds_7 : decode cX6_holds 7 = .ok (.ifCond .eq 12, 3) := by decide +kernel
theorem dX6_holds_10 : decode cX6_holds 10 = .ok (.aload_n 0, 1) := by decide +kernel
theorem dX6_holds_11 : decode cX6_holds 11 = .ok (.getfield 7, 3) := by decide +kernel
theorem dX6_holds_14 : decode cX6_holds 14 = .ok (.iload_n 1, 1) := by decide +kernel
theorem dX6_holds_15 : decode cX6_holds 15 = .ok (.iaload, 1) := by decide +kernel
theorem dX6_holds_16 : decode cX6_holds 16 = .ok (.goto 4, 3) := by decide +kernel
theorem dX6_holds_19 : decode cX6_holds 19 = .ok (.iconst (-1), 1) := by decide +kernel
theorem dX6_holds_20 : decode cX6_holds 20 = .ok (.ireturn, 1) := by decide +kernel
theorem dX6_show_0 : decode cX6_show 0 = .ok (.iload_n 1, 1) := by decide +kernel
theorem dX6_show_1 : decode cX6_show 1 = .ok (.iconst 0, 1) := by decide +kernel
theorem dX6_show_2 : decode cX6_show 2 = .ok (.bipush 7, 2) := by decide +kernel
theorem dX6_show_4 : decode cX6_show 4 = .ok (.invokestatic 75, 3) := by decide +kernel
theorem dX6_show_7 : decode cX6_show 7 = .ok (.ifCond .eq 16, 3) := by decide +kernel
theorem dX6_show_10 : decode cX6_show 10 = .ok (.iload_n 2, 1) := by decide +kernel
theorem dX6_show_11 : decode cX6_show 11 = .ok (.iconst (-1), 1) := by decide +kernel
theorem dX6_show_12 : decode cX6_show 12 = .ok (.if_icmp .eq 18, 3) := by decide +kernel
theorem dX6_show_15 : decode cX6_show 15 = .ok (.aload_n 0, 1) := by decide +kernel
theorem dX6_show_16 : decode cX6_show 16 = .ok (.iload_n 2, 1) := by decide +kernel
theorem dX6_show_17 : decode cX6_show 17 = .ok (.invokevirtual 93, 3) := by decide +kernel
theorem dX6_show_20 : decode cX6_show 20 = .ok (.ifCond .ne 10, 3) := by decide +kernel
theorem dX6_show_23 : decode cX6_show 23 = .ok (.aload_n 0, 1) := by decide +kernel
theorem dX6_show_24 : decode cX6_show 24 = .ok (.bipush (-2), 2) := by decide +kernel
theorem dX6_show_26 : decode cX6_show 26 = .ok (.invokevirtual 82, 3) := by decide +kernel
theorem dX6_show_29 : decode cX6_show 29 = .ok (.ireturn, 1) := by decide +kernel
theorem dX6_show_30 : decode cX6_show 30 = .ok (.aload_n 0, 1) := by decide +kernel
theorem dX6_show_31 : decode cX6_show 31 = .ok (.getfield 7, 3) := by decide +kernel
theorem dX6_show_34 : decode cX6_show 34 = .ok (.iload_n 1, 1) := by decide +kernel
theorem dX6_show_35 : decode cX6_show 35 = .ok (.iload_n 2, 1) := by decide +kernel
theorem dX6_show_36 : decode cX6_show 36 = .ok (.iconst (-1), 1) := by decide +kernel
theorem dX6_show_37 : decode cX6_show 37 = .ok (.if_icmp .ne 7, 3) := by decide +kernel
theorem dX6_show_40 : decode cX6_show 40 = .ok (.iconst (-1), 1) := by decide +kernel
theorem dX6_show_41 : decode cX6_show 41 = .ok (.goto 7, 3) := by decide +kernel
theorem dX6_show_44 : decode cX6_show 44 = .ok (.bipush 10, 2) := by decide +kernel
theorem dX6_show_46 : decode cX6_show 46 = .ok (.iload_n 2, 1) := by decide +kernel
theorem dX6_show_47 : decode cX6_show 47 = .ok (.iadd, 1) := by decide +kernel
theorem dX6_show_48 : decode cX6_show 48 = .ok (.iastore, 1) := by decide +kernel
theorem dX6_show_49 : decode cX6_show 49 = .ok (.iconst 1, 1) := by decide +kernel
theorem dX6_show_50 : decode cX6_show 50 = .ok (.ireturn, 1) := by decide +kernel
theorem dX6_isUnder_0 : decode cX6_isUnder 0 = .ok (.iload_n 1, 1) := by decide +kernel
theorem dX6_isUnder_1 : decode cX6_isUnder 1 = .ok (.ifCond .eq 28, 3) := by decide +kernel
theorem dX6_isUnder_4 : decode cX6_isUnder 4 = .ok (.iload_n 0, 1) := by decide +kernel
theorem dX6_isUnder_5 : decode cX6_isUnder 5 = .ok (.iload_n 1, 1) := by decide +kernel
theorem dX6_isUnder_6 : decode cX6_isUnder 6 = .ok (.if_icmp .eq 23, 3) := by decide +kernel
theorem dX6_isUnder_9 : decode cX6_isUnder 9 = .ok (.iload_n 0, 1) := by decide +kernel
theorem dX6_isUnder_10 : decode cX6_isUnder 10 = .ok (.iconst 4, 1) := by decide +kernel
theorem dX6_isUnder_11 : decode cX6_isUnder 11 = .ok (.if_icmp .ne 8, 3) := by decide +kernel
theorem dX6_isUnder_14 : decode cX6_isUnder 14 = .ok (.iload_n 1, 1) := by decide +kernel
theorem dX6_isUnder_15 : decode cX6_isUnder 15 = .ok (.iconst 2, 1) := by decide +kernel
theorem dX6_isUnder_16 : decode cX6_isUnder 16 = .ok (.if_icmp .eq 13, 3) := by decide +kernel
theorem dX6_isUnder_19 : decode cX6_isUnder 19 = .ok (.iload_n 0, 1) := by decide +kernel
theorem dX6_isUnder_20 : decode cX6_isUnder 20 = .ok (.iconst 5, 1) := by decide +kernel
theorem dX6_isUnder_21 : decode cX6_isUnder 21 = .ok (.if_icmp .ne 12, 3) := by decide +kernel
theorem dX6_isUnder_24 : decode cX6_isUnder 24 = .ok (.iload_n 1, 1) := by decide +kernel
theorem dX6_isUnder_25 : decode cX6_isUnder 25 = .ok (.iconst 3, 1) := by decide +kernel
theorem dX6_isUnder_26 : decode cX6_isUnder 26 = .ok (.if_icmp .ne 7, 3) := by decide +kernel
theorem dX6_isUnder_29 : decode cX6_isUnder 29 = .ok (.iconst 1, 1) := by decide +kernel
theorem dX6_isUnder_30 : decode cX6_isUnder 30 = .ok (.goto 4, 3) := by decide +kernel
theorem dX6_isUnder_33 : decode cX6_isUnder 33 = .ok (.iconst 0, 1) := by decide +kernel
theorem dX6_isUnder_34 : decode cX6_isUnder 34 = .ok (.ireturn, 1) := by decide +kernel
theorem dX6_says_0 : decode cX6_says 0 = .ok (.iload_n 1, 1) := by decide +kernel
theorem dX6_says_1 : decode cX6_says 1 = .ok (.iconst 0, 1) := by decide +kernel
theorem dX6_says_2 : decode cX6_says 2 = .ok (.bipush 7, 2) := by decide +kernel
theorem dX6_says_4 : decode cX6_says 4 = .ok (.invokestatic 75, 3) := by decide +kernel
theorem dX6_says_7 : decode cX6_says 7 = .ok (.ifCond .eq 12, 3) := by decide +kernel
theorem dX6_says_10 : decode cX6_says 10 = .ok (.iload_n 2, 1) := by decide +kernel
theorem dX6_says_11 : decode cX6_says 11 = .ok (.iconst 0, 1) := by decide +kernel
theorem dX6_says_12 : decode cX6_says 12 = .ok (.iconst 5, 1) := by decide +kernel
theorem dX6_says_13 : decode cX6_says 13 = .ok (.invokestatic 75, 3) := by decide +kernel
theorem dX6_says_16 : decode cX6_says 16 = .ok (.ifCond .ne 10, 3) := by decide +kernel
theorem dX6_says_19 : decode cX6_says 19 = .ok (.aload_n 0, 1) := by decide +kernel
theorem dX6_says_20 : decode cX6_says 20 = .ok (.bipush (-2), 2) := by decide +kernel
theorem dX6_says_22 : decode cX6_says 22 = .ok (.invokevirtual 82, 3) := by decide +kernel
theorem dX6_says_25 : decode cX6_says 25 = .ok (.ireturn, 1) := by decide +kernel
theorem dX6_says_26 : decode cX6_says 26 = .ok (.aload_n 0, 1) := by decide +kernel
theorem dX6_says_27 : decode cX6_says 27 = .ok (.getfield 7, 3) := by decide +kernel
theorem dX6_says_30 : decode cX6_says 30 = .ok (.iload_n 1, 1) := by decide +kernel
theorem dX6_says_31 : decode cX6_says 31 = .ok (.iaload, 1) := by decide +kernel
theorem dX6_says_32 : decode cX6_says 32 = .ok (.bipush 10, 2) := by decide +kernel
theorem dX6_says_34 : decode cX6_says 34 = .ok (.isub, 1) := by decide +kernel
theorem dX6_says_35 : decode cX6_says 35 = .ok (.istore_n 3, 1) := by decide +kernel
theorem dX6_says_36 : decode cX6_says 36 = .ok (.aload_n 0, 1) := by decide +kernel
theorem dX6_says_37 : decode cX6_says 37 = .ok (.iload_n 1, 1) := by decide +kernel
theorem dX6_says_38 : decode cX6_says 38 = .ok (.invokevirtual 89, 3) := by decide +kernel
theorem dX6_says_41 : decode cX6_says 41 = .ok (.ifCond .ne 20, 3) := by decide +kernel
theorem dX6_says_44 : decode cX6_says 44 = .ok (.iload_n 3, 1) := by decide +kernel
theorem dX6_says_45 : decode cX6_says 45 = .ok (.ifCond .lt 23, 3) := by decide +kernel
theorem dX6_says_48 : decode cX6_says 48 = .ok (.aload_n 0, 1) := by decide +kernel
theorem dX6_says_49 : decode cX6_says 49 = .ok (.getfield 20, 3) := by decide +kernel
theorem dX6_says_52 : decode cX6_says 52 = .ok (.iload_n 3, 1) := by decide +kernel
theorem dX6_says_53 : decode cX6_says 53 = .ok (.iaload, 1) := by decide +kernel
theorem dX6_says_54 : decode cX6_says 54 = .ok (.iload_n 2, 1) := by decide +kernel
theorem dX6_says_55 : decode cX6_says 55 = .ok (.invokestatic 96, 3) := by decide +kernel
theorem dX6_says_58 : decode cX6_says 58 = .ok (.ifCond .ne 10, 3) := by decide +kernel
theorem dX6_says_61 : decode cX6_says 61 = .ok (.aload_n 0, 1) := by decide +kernel
theorem dX6_says_62 : decode cX6_says 62 = .ok (.bipush (-3), 2) := by decide +kernel
theorem dX6_says_64 : decode cX6_says 64 = .ok (.invokevirtual 82, 3) := by decide +kernel
theorem dX6_says_67 : decode cX6_says 67 = .ok (.ireturn, 1) := by decide +kernel
theorem dX6_says_68 : decode cX6_says 68 = .ok (.iload_n 3, 1) := by decide +kernel
theorem dX6_says_69 : decode cX6_says 69 = .ok (.ifCond .ge 10, 3) := by decide +kernel
theorem dX6_says_72 : decode cX6_says 72 = .ok (.aload_n 0, 1) := by decide +kernel
theorem dX6_says_73 : decode cX6_says 73 = .ok (.bipush (-4), 2) := by decide +kernel
theorem dX6_says_75 : decode cX6_says 75 = .ok (.invokevirtual 82, 3) := by decide +kernel
theorem dX6_says_78 : decode cX6_says 78 = .ok (.ireturn, 1) := by decide +kernel
theorem dX6_says_79 : decode cX6_says 79 = .ok (.iload_n 2, 1) := by decide +kernel
theorem dX6_says_80 : decode cX6_says 80 = .ok (.tableswitch 156 0 5 #[40, 46, 156, 58, 156, 106], 40) := by decide +kernel
theorem dX6_says_120 : decode cX6_says 120 = .ok (.aload_n 0, 1) := by decide +kernel
theorem dX6_says_121 : decode cX6_says 121 = .ok (.iload_n 3, 1) := by decide +kernel
theorem dX6_says_122 : decode cX6_says 122 = .ok (.invokevirtual 100, 3) := by decide +kernel
theorem dX6_says_125 : decode cX6_says 125 = .ok (.ireturn, 1) := by decide +kernel
theorem dX6_says_126 : decode cX6_says 126 = .ok (.aload_n 0, 1) := by decide +kernel
theorem dX6_says_127 : decode cX6_says 127 = .ok (.getfield 23, 3) := by decide +kernel
theorem dX6_says_130 : decode cX6_says 130 = .ok (.iload_n 3, 1) := by decide +kernel
theorem dX6_says_131 : decode cX6_says 131 = .ok (.iaload, 1) := by decide +kernel
theorem dX6_says_132 : decode cX6_says 132 = .ok (.aload_n 0, 1) := by decide +kernel
theorem dX6_says_133 : decode cX6_says 133 = .ok (.getfield 59, 3) := by decide +kernel
theorem dX6_says_136 : decode cX6_says 136 = .ok (.irem, 1) := by decide +kernel
theorem dX6_says_137 : decode cX6_says 137 = .ok (.ireturn, 1) := by decide +kernel
theorem dX6_says_138 : decode cX6_says 138 = .ok (.iconst 0, 1) := by decide +kernel
theorem dX6_says_139 : decode cX6_says 139 = .ok (.istore 4, 2) := by decide +kernel
theorem dX6_says_141 : decode cX6_says 141 = .ok (.iconst 0, 1) := by decide +kernel
theorem dX6_says_142 : decode cX6_says 142 = .ok (.istore 5, 2) := by decide +kernel
theorem dX6_says_144 : decode cX6_says 144 = .ok (.iload 5, 2) := by decide +kernel
theorem dX6_says_146 : decode cX6_says 146 = .ok (.aload_n 0, 1) := by decide +kernel
theorem dX6_says_147 : decode cX6_says 147 = .ok (.getfield 79, 3) := by decide +kernel
theorem dX6_says_150 : decode cX6_says 150 = .ok (.if_icmp .ge 33, 3) := by decide +kernel
theorem dX6_says_153 : decode cX6_says 153 = .ok (.aload_n 0, 1) := by decide +kernel
theorem dX6_says_154 : decode cX6_says 154 = .ok (.getfield 32, 3) := by decide +kernel
theorem dX6_says_157 : decode cX6_says 157 = .ok (.iload 5, 2) := by decide +kernel
theorem dX6_says_159 : decode cX6_says 159 = .ok (.iaload, 1) := by decide +kernel
theorem dX6_says_160 : decode cX6_says 160 = .ok (.iconst 1, 1) := by decide +kernel
theorem dX6_says_161 : decode cX6_says 161 = .ok (.if_icmp .ne 16, 3) := by decide +kernel
theorem dX6_says_164 : decode cX6_says 164 = .ok (.aload_n 0, 1) := by decide +kernel
theorem dX6_says_165 : decode cX6_says 165 = .ok (.iload_n 3, 1) := by decide +kernel
theorem dX6_says_166 : decode cX6_says 166 = .ok (.iload 5, 2) := by decide +kernel
theorem dX6_says_168 : decode cX6_says 168 = .ok (.invokevirtual 103, 3) := by decide +kernel
theorem dX6_says_171 : decode cX6_says 171 = .ok (.ifCond .eq 6, 3) := by decide +kernel
theorem dX6_says_174 : decode cX6_says 174 = .ok (.iinc 4 1, 3) := by decide +kernel
theorem dX6_says_177 : decode cX6_says 177 = .ok (.iinc 5 1, 3) := by decide +kernel
theorem dX6_says_180 : decode cX6_says 180 = .ok (.goto (-36), 3) := by decide +kernel
theorem dX6_says_183 : decode cX6_says 183 = .ok (.iload 4, 2) := by decide +kernel
theorem dX6_says_185 : decode cX6_says 185 = .ok (.ireturn, 1) := by decide +kernel
theorem dX6_says_186 : decode cX6_says 186 = .ok (.iconst 0, 1) := by decide +kernel
theorem dX6_says_187 : decode cX6_says 187 = .ok (.istore 5, 2) := by decide +kernel
theorem dX6_says_189 : decode cX6_says 189 = .ok (.iconst 0, 1) := by decide +kernel
theorem dX6_says_190 : decode cX6_says 190 = .ok (.istore 6, 2) := by decide +kernel
theorem dX6_says_192 : decode cX6_says 192 = .ok (.iload 6, 2) := by decide +kernel
theorem dX6_says_194 : decode cX6_says 194 = .ok (.aload_n 0, 1) := by decide +kernel
theorem dX6_says_195 : decode cX6_says 195 = .ok (.getfield 72, 3) := by decide +kernel
theorem dX6_says_198 : decode cX6_says 198 = .ok (.if_icmp .ge 35, 3) := by decide +kernel
theorem dX6_says_201 : decode cX6_says 201 = .ok (.iload 6, 2) := by decide +kernel
theorem dX6_says_203 : decode cX6_says 203 = .ok (.iload_n 3, 1) := by decide +kernel
theorem dX6_says_204 : decode cX6_says 204 = .ok (.if_icmp .eq 23, 3) := by decide +kernel
theorem dX6_says_207 : decode cX6_says 207 = .ok (.aload_n 0, 1) := by decide +kernel
theorem dX6_says_208 : decode cX6_says 208 = .ok (.iload 6, 2) := by decide +kernel
theorem dX6_says_210 : decode cX6_says 210 = .ok (.invokevirtual 106, 3) := by decide +kernel
theorem dX6_says_213 : decode cX6_says 213 = .ok (.aload_n 0, 1) := by decide +kernel
theorem dX6_says_214 : decode cX6_says 214 = .ok (.iload_n 3, 1) := by decide +kernel
theorem dX6_says_215 : decode cX6_says 215 = .ok (.invokevirtual 106, 3) := by decide +kernel
theorem dX6_says_218 : decode cX6_says 218 = .ok (.iconst (-1), 1) := by decide +kernel
theorem dX6_says_219 : decode cX6_says 219 = .ok (.ixor, 1) := by decide +kernel
theorem dX6_says_220 : decode cX6_says 220 = .ok (.iand, 1) := by decide +kernel
theorem dX6_says_221 : decode cX6_says 221 = .ok (.ifCond .ne 6, 3) := by decide +kernel
theorem dX6_says_224 : decode cX6_says 224 = .ok (.iinc 5 1, 3) := by decide +kernel
theorem dX6_says_227 : decode cX6_says 227 = .ok (.iinc 6 1, 3) := by decide +kernel
theorem dX6_says_230 : decode cX6_says 230 = .ok (.goto (-38), 3) := by decide +kernel
theorem dX6_says_233 : decode cX6_says 233 = .ok (.iload 5, 2) := by decide +kernel
theorem dX6_says_235 : decode cX6_says 235 = .ok (.ireturn, 1) := by decide +kernel
theorem dX6_says_236 : decode cX6_says 236 = .ok (.aload_n 0, 1) := by decide +kernel
theorem dX6_says_237 : decode cX6_says 237 = .ok (.iload_n 3, 1) := by decide +kernel
theorem dX6_says_238 : decode cX6_says 238 = .ok (.invokevirtual 109, 3) := by decide +kernel
theorem dX6_says_241 : decode cX6_says 241 = .ok (.ireturn, 1) := by decide +kernel
theorem dX6_ask_0 : decode cX6_ask 0 = .ok (.iload_n 1, 1) := by decide +kernel
theorem dX6_ask_1 : decode cX6_ask 1 = .ok (.iconst 0, 1) := by decide +kernel
theorem dX6_ask_2 : decode cX6_ask 2 = .ok (.iconst 2, 1) := by decide +kernel
theorem dX6_ask_3 : decode cX6_ask 3 = .ok (.invokestatic 75, 3) := by decide +kernel
theorem dX6_ask_6 : decode cX6_ask 6 = .ok (.ifCond .eq 30, 3) := by decide +kernel
theorem dX6_ask_9 : decode cX6_ask 9 = .ok (.iload_n 2, 1) := by decide +kernel
theorem dX6_ask_10 : decode cX6_ask 10 = .ok (.iconst 1, 1) := by decide +kernel
theorem dX6_ask_11 : decode cX6_ask 11 = .ok (.iload_n 1, 1) := by decide +kernel
theorem dX6_ask_12 : decode cX6_ask 12 = .ok (.ifCond .ne 7, 3) := by decide +kernel
theorem dX6_ask_15 : decode cX6_ask 15 = .ok (.iconst 5, 1) := by decide +kernel
theorem dX6_ask_16 : decode cX6_ask 16 = .ok (.goto 14, 3) := by decide +kernel
theorem dX6_ask_19 : decode cX6_ask 19 = .ok (.iload_n 1, 1) := by decide +kernel
theorem dX6_ask_20 : decode cX6_ask 20 = .ok (.iconst 1, 1) := by decide +kernel
theorem dX6_ask_21 : decode cX6_ask 21 = .ok (.if_icmp .ne 7, 3) := by decide +kernel
theorem dX6_ask_24 : decode cX6_ask 24 = .ok (.iconst 4, 1) := by decide +kernel
theorem dX6_ask_25 : decode cX6_ask 25 = .ok (.goto 5, 3) := by decide +kernel
theorem dX6_ask_28 : decode cX6_ask 28 = .ok (.bipush 20, 2) := by decide +kernel
theorem dX6_ask_30 : decode cX6_ask 30 = .ok (.invokestatic 75, 3) := by decide +kernel
theorem dX6_ask_33 : decode cX6_ask 33 = .ok (.ifCond .ne 10, 3) := by decide +kernel
theorem dX6_ask_36 : decode cX6_ask 36 = .ok (.aload_n 0, 1) := by decide +kernel
theorem dX6_ask_37 : decode cX6_ask 37 = .ok (.bipush (-2), 2) := by decide +kernel
theorem dX6_ask_39 : decode cX6_ask 39 = .ok (.invokevirtual 82, 3) := by decide +kernel
theorem dX6_ask_42 : decode cX6_ask 42 = .ok (.ireturn, 1) := by decide +kernel
theorem dX6_ask_43 : decode cX6_ask 43 = .ok (.iload_n 1, 1) := by decide +kernel
theorem dX6_ask_44 : decode cX6_ask 44 = .ok (.iconst 2, 1) := by decide +kernel
theorem dX6_ask_45 : decode cX6_ask 45 = .ok (.if_icmp .ge 22, 3) := by decide +kernel
theorem dX6_ask_48 : decode cX6_ask 48 = .ok (.aload_n 0, 1) := by decide +kernel
theorem dX6_ask_49 : decode cX6_ask 49 = .ok (.getfield 72, 3) := by decide +kernel
theorem dX6_ask_52 : decode cX6_ask 52 = .ok (.aload_n 0, 1) := by decide +kernel
theorem dX6_ask_53 : decode cX6_ask 53 = .ok (.getfield 79, 3) := by decide +kernel
theorem dX6_ask_56 : decode cX6_ask 56 = .ok (.iadd, 1) := by decide +kernel
theorem dX6_ask_57 : decode cX6_ask 57 = .ok (.ifCond .le 10, 3) := by decide +kernel
theorem dX6_ask_60 : decode cX6_ask 60 = .ok (.aload_n 0, 1) := by decide +kernel
theorem dX6_ask_61 : decode cX6_ask 61 = .ok (.bipush (-5), 2) := by decide +kernel
theorem dX6_ask_63 : decode cX6_ask 63 = .ok (.invokevirtual 82, 3) := by decide +kernel
theorem dX6_ask_66 : decode cX6_ask 66 = .ok (.ireturn, 1) := by decide +kernel
theorem dX6_ask_67 : decode cX6_ask 67 = .ok (.iload_n 1, 1) := by decide +kernel
theorem dX6_ask_68 : decode cX6_ask 68 = .ok (.ifCond .ne 10, 3) := by decide +kernel
theorem dX6_ask_71 : decode cX6_ask 71 = .ok (.aload_n 0, 1) := by decide +kernel
theorem dX6_ask_72 : decode cX6_ask 72 = .ok (.getfield 59, 3) := by decide +kernel
theorem dX6_ask_75 : decode cX6_ask 75 = .ok (.goto 19, 3) := by decide +kernel
theorem dX6_ask_78 : decode cX6_ask 78 = .ok (.iload_n 1, 1) := by decide +kernel
theorem dX6_ask_79 : decode cX6_ask 79 = .ok (.iconst 1, 1) := by decide +kernel
theorem dX6_ask_80 : decode cX6_ask 80 = .ok (.if_icmp .ne 10, 3) := by decide +kernel
theorem dX6_ask_83 : decode cX6_ask 83 = .ok (.aload_n 0, 1) := by decide +kernel
theorem dX6_ask_84 : decode cX6_ask 84 = .ok (.getfield 63, 3) := by decide +kernel
theorem dX6_ask_87 : decode cX6_ask 87 = .ok (.goto 7, 3) := by decide +kernel
theorem dX6_ask_90 : decode cX6_ask 90 = .ok (.aload_n 0, 1) := by decide +kernel
theorem dX6_ask_91 : decode cX6_ask 91 = .ok (.getfield 66, 3) := by decide +kernel
theorem dX6_ask_94 : decode cX6_ask 94 = .ok (.istore_n 3, 1) := by decide +kernel
theorem dX6_ask_95 : decode cX6_ask 95 = .ok (.iload_n 1, 1) := by decide +kernel
theorem dX6_ask_96 : decode cX6_ask 96 = .ok (.ifCond .ne 8, 3) := by decide +kernel
theorem dX6_ask_99 : decode cX6_ask 99 = .ok (.aload_n 0, 1) := by decide +kernel
theorem dX6_ask_100 : decode cX6_ask 100 = .ok (.iload_n 2, 1) := by decide +kernel
theorem dX6_ask_101 : decode cX6_ask 101 = .ok (.putfield 59, 3) := by decide +kernel
theorem dX6_ask_104 : decode cX6_ask 104 = .ok (.iload_n 1, 1) := by decide +kernel
theorem dX6_ask_105 : decode cX6_ask 105 = .ok (.iconst 1, 1) := by decide +kernel
theorem dX6_ask_106 : decode cX6_ask 106 = .ok (.if_icmp .ne 8, 3) := by decide +kernel
theorem dX6_ask_109 : decode cX6_ask 109 = .ok (.aload_n 0, 1) := by decide +kernel
theorem dX6_ask_110 : decode cX6_ask 110 = .ok (.iload_n 2, 1) := by decide +kernel
theorem dX6_ask_111 : decode cX6_ask 111 = .ok (.putfield 63, 3) := by decide +kernel
theorem dX6_ask_114 : decode cX6_ask 114 = .ok (.iload_n 1, 1) := by decide +kernel
theorem dX6_ask_115 : decode cX6_ask 115 = .ok (.iconst 2, 1) := by decide +kernel
theorem dX6_ask_116 : decode cX6_ask 116 = .ok (.if_icmp .ne 8, 3) := by decide +kernel
theorem dX6_ask_119 : decode cX6_ask 119 = .ok (.aload_n 0, 1) := by decide +kernel
theorem dX6_ask_120 : decode cX6_ask 120 = .ok (.iload_n 2, 1) := by decide +kernel
theorem dX6_ask_121 : decode cX6_ask 121 = .ok (.putfield 66, 3) := by decide +kernel
theorem dX6_ask_124 : decode cX6_ask 124 = .ok (.iload_n 3, 1) := by decide +kernel
theorem dX6_ask_125 : decode cX6_ask 125 = .ok (.ireturn, 1) := by decide +kernel
theorem dX6_newKey_0 : decode cX6_newKey 0 = .ok (.aload_n 0, 1) := by decide +kernel
theorem dX6_newKey_1 : decode cX6_newKey 1 = .ok (.getfield 20, 3) := by decide +kernel
theorem dX6_newKey_4 : decode cX6_newKey 4 = .ok (.aload_n 0, 1) := by decide +kernel
theorem dX6_newKey_5 : decode cX6_newKey 5 = .ok (.getfield 72, 3) := by decide +kernel
theorem dX6_newKey_8 : decode cX6_newKey 8 = .ok (.iload_n 1, 1) := by decide +kernel
theorem dX6_newKey_9 : decode cX6_newKey 9 = .ok (.iastore, 1) := by decide +kernel
theorem dX6_newKey_10 : decode cX6_newKey 10 = .ok (.aload_n 0, 1) := by decide +kernel
theorem dX6_newKey_11 : decode cX6_newKey 11 = .ok (.getfield 23, 3) := by decide +kernel
theorem dX6_newKey_14 : decode cX6_newKey 14 = .ok (.aload_n 0, 1) := by decide +kernel
theorem dX6_newKey_15 : decode cX6_newKey 15 = .ok (.getfield 72, 3) := by decide +kernel
theorem dX6_newKey_18 : decode cX6_newKey 18 = .ok (.iload_n 2, 1) := by decide +kernel
theorem dX6_newKey_19 : decode cX6_newKey 19 = .ok (.iastore, 1) := by decide +kernel
theorem dX6_newKey_20 : decode cX6_newKey 20 = .ok (.aload_n 0, 1) := by decide +kernel
theorem dX6_newKey_21 : decode cX6_newKey 21 = .ok (.getfield 26, 3) := by decide +kernel
theorem dX6_newKey_24 : decode cX6_newKey 24 = .ok (.aload_n 0, 1) := by decide +kernel
theorem dX6_newKey_25 : decode cX6_newKey 25 = .ok (.getfield 72, 3) := by decide +kernel
theorem dX6_newKey_28 : decode cX6_newKey 28 = .ok (.iconst 0, 1) := by decide +kernel
theorem dX6_newKey_29 : decode cX6_newKey 29 = .ok (.iastore, 1) := by decide +kernel
theorem dX6_newKey_30 : decode cX6_newKey 30 = .ok (.iconst 0, 1) := by decide +kernel
theorem dX6_newKey_31 : decode cX6_newKey 31 = .ok (.istore_n 3, 1) := by decide +kernel
theorem dX6_newKey_32 : decode cX6_newKey 32 = .ok (.iload_n 3, 1) := by decide +kernel
theorem dX6_newKey_33 : decode cX6_newKey 33 = .ok (.iconst 5, 1) := by decide +kernel
theorem dX6_newKey_34 : decode cX6_newKey 34 = .ok (.if_icmp .ge 23, 3) := by decide +kernel
theorem dX6_newKey_37 : decode cX6_newKey 37 = .ok (.aload_n 0, 1) := by decide +kernel
theorem dX6_newKey_38 : decode cX6_newKey 38 = .ok (.getfield 29, 3) := by decide +kernel
theorem dX6_newKey_41 : decode cX6_newKey 41 = .ok (.iconst 5, 1) := by decide +kernel
theorem dX6_newKey_42 : decode cX6_newKey 42 = .ok (.aload_n 0, 1) := by decide +kernel
theorem dX6_newKey_43 : decode cX6_newKey 43 = .ok (.getfield 72, 3) := by decide +kernel
theorem dX6_newKey_46 : decode cX6_newKey 46 = .ok (.imul, 1) := by decide +kernel
theorem dX6_newKey_47 : decode cX6_newKey 47 = .ok (.iload_n 3, 1) := by decide +kernel
theorem dX6_newKey_48 : decode cX6_newKey 48 = .ok (.iadd, 1) := by decide +kernel
theorem dX6_newKey_49 : decode cX6_newKey 49 = .ok (.iconst 0, 1) := by decide +kernel
theorem dX6_newKey_50 : decode cX6_newKey 50 = .ok (.iastore, 1) := by decide +kernel
theorem dX6_newKey_51 : decode cX6_newKey 51 = .ok (.iinc 3 1, 3) := by decide +kernel
theorem dX6_newKey_54 : decode cX6_newKey 54 = .ok (.goto (-22), 3) := by decide +kernel
theorem dX6_newKey_57 : decode cX6_newKey 57 = .ok (.aload_n 0, 1) := by decide +kernel
theorem dX6_newKey_58 : decode cX6_newKey 58 = .ok (.dup, 1) := by decide +kernel
theorem dX6_newKey_59 : decode cX6_newKey 59 = .ok (.getfield 72, 3) := by decide +kernel
theorem dX6_newKey_62 : decode cX6_newKey 62 = .ok (.dup_x1, 1) := by decide +kernel
theorem dX6_newKey_63 : decode cX6_newKey 63 = .ok (.iconst 1, 1) := by decide +kernel
theorem dX6_newKey_64 : decode cX6_newKey 64 = .ok (.iadd, 1) := by decide +kernel
theorem dX6_newKey_65 : decode cX6_newKey 65 = .ok (.putfield 72, 3) := by decide +kernel
theorem dX6_newKey_68 : decode cX6_newKey 68 = .ok (.ireturn, 1) := by decide +kernel
theorem dX6_newLock_0 : decode cX6_newLock 0 = .ok (.aload_n 0, 1) := by decide +kernel
theorem dX6_newLock_1 : decode cX6_newLock 1 = .ok (.getfield 32, 3) := by decide +kernel
theorem dX6_newLock_4 : decode cX6_newLock 4 = .ok (.aload_n 0, 1) := by decide +kernel
theorem dX6_newLock_5 : decode cX6_newLock 5 = .ok (.getfield 79, 3) := by decide +kernel
theorem dX6_newLock_8 : decode cX6_newLock 8 = .ok (.iload_n 1, 1) := by decide +kernel
theorem dX6_newLock_9 : decode cX6_newLock 9 = .ok (.ifCond .eq 7, 3) := by decide +kernel
theorem dX6_newLock_12 : decode cX6_newLock 12 = .ok (.iconst 1, 1) := by decide +kernel
theorem dX6_newLock_13 : decode cX6_newLock 13 = .ok (.goto 4, 3) := by decide +kernel
theorem dX6_newLock_16 : decode cX6_newLock 16 = .ok (.iconst 0, 1) := by decide +kernel
theorem dX6_newLock_17 : decode cX6_newLock 17 = .ok (.iastore, 1) := by decide +kernel
theorem dX6_newLock_18 : decode cX6_newLock 18 = .ok (.iconst 0, 1) := by decide +kernel
theorem dX6_newLock_19 : decode cX6_newLock 19 = .ok (.istore_n 2, 1) := by decide +kernel
theorem dX6_newLock_20 : decode cX6_newLock 20 = .ok (.iload_n 2, 1) := by decide +kernel
theorem dX6_newLock_21 : decode cX6_newLock 21 = .ok (.iconst 5, 1) := by decide +kernel
theorem dX6_newLock_22 : decode cX6_newLock 22 = .ok (.if_icmp .ge 23, 3) := by decide +kernel
theorem dX6_newLock_25 : decode cX6_newLock 25 = .ok (.aload_n 0, 1) := by decide +kernel
theorem dX6_newLock_26 : decode cX6_newLock 26 = .ok (.getfield 35, 3) := by decide +kernel
theorem dX6_newLock_29 : decode cX6_newLock 29 = .ok (.iconst 5, 1) := by decide +kernel
theorem dX6_newLock_30 : decode cX6_newLock 30 = .ok (.aload_n 0, 1) := by decide +kernel
theorem dX6_newLock_31 : decode cX6_newLock 31 = .ok (.getfield 79, 3) := by decide +kernel
theorem dX6_newLock_34 : decode cX6_newLock 34 = .ok (.imul, 1) := by decide +kernel
theorem dX6_newLock_35 : decode cX6_newLock 35 = .ok (.iload_n 2, 1) := by decide +kernel
theorem dX6_newLock_36 : decode cX6_newLock 36 = .ok (.iadd, 1) := by decide +kernel
theorem dX6_newLock_37 : decode cX6_newLock 37 = .ok (.iconst 0, 1) := by decide +kernel
theorem dX6_newLock_38 : decode cX6_newLock 38 = .ok (.iastore, 1) := by decide +kernel
theorem dX6_newLock_39 : decode cX6_newLock 39 = .ok (.iinc 2 1, 3) := by decide +kernel
theorem dX6_newLock_42 : decode cX6_newLock 42 = .ok (.goto (-22), 3) := by decide +kernel
theorem dX6_newLock_45 : decode cX6_newLock 45 = .ok (.aload_n 0, 1) := by decide +kernel
theorem dX6_newLock_46 : decode cX6_newLock 46 = .ok (.dup, 1) := by decide +kernel
theorem dX6_newLock_47 : decode cX6_newLock 47 = .ok (.getfield 79, 3) := by decide +kernel
theorem dX6_newLock_50 : decode cX6_newLock 50 = .ok (.dup_x1, 1) := by decide +kernel
theorem dX6_newLock_51 : decode cX6_newLock 51 = .ok (.iconst 1, 1) := by decide +kernel
theorem dX6_newLock_52 : decode cX6_newLock 52 = .ok (.iadd, 1) := by decide +kernel
theorem dX6_newLock_53 : decode cX6_newLock 53 = .ok (.putfield 79, 3) := by decide +kernel
theorem dX6_newLock_56 : decode cX6_newLock 56 = .ok (.ireturn, 1) := by decide +kernel
theorem dX6_key_0 : decode cX6_key 0 = .ok (.iload_n 1, 1) := by decide +kernel
theorem dX6_key_1 : decode cX6_key 1 = .ok (.iconst 0, 1) := by decide +kernel
theorem dX6_key_2 : decode cX6_key 2 = .ok (.iconst 5, 1) := by decide +kernel
theorem dX6_key_3 : decode cX6_key 3 = .ok (.invokestatic 75, 3) := by decide +kernel
theorem dX6_key_6 : decode cX6_key 6 = .ok (.ifCond .eq 13, 3) := by decide +kernel
theorem dX6_key_9 : decode cX6_key 9 = .ok (.iload_n 2, 1) := by decide +kernel
theorem dX6_key_10 : decode cX6_key 10 = .ok (.iconst 0, 1) := by decide +kernel
theorem dX6_key_11 : decode cX6_key 11 = .ok (.bipush 9, 2) := by decide +kernel
theorem dX6_key_13 : decode cX6_key 13 = .ok (.invokestatic 75, 3) := by decide +kernel
theorem dX6_key_16 : decode cX6_key 16 = .ok (.ifCond .ne 10, 3) := by decide +kernel
theorem dX6_key_19 : decode cX6_key 19 = .ok (.aload_n 0, 1) := by decide +kernel
theorem dX6_key_20 : decode cX6_key 20 = .ok (.bipush (-2), 2) := by decide +kernel
theorem dX6_key_22 : decode cX6_key 22 = .ok (.invokevirtual 82, 3) := by decide +kernel
theorem dX6_key_25 : decode cX6_key 25 = .ok (.ireturn, 1) := by decide +kernel
theorem dX6_key_26 : decode cX6_key 26 = .ok (.aload_n 0, 1) := by decide +kernel
theorem dX6_key_27 : decode cX6_key 27 = .ok (.getfield 72, 3) := by decide +kernel
theorem dX6_key_30 : decode cX6_key 30 = .ok (.bipush 6, 2) := by decide +kernel
theorem dX6_key_32 : decode cX6_key 32 = .ok (.if_icmp .ne 12, 3) := by decide +kernel
theorem dX6_key_35 : decode cX6_key 35 = .ok (.aload_n 0, 1) := by decide +kernel
theorem dX6_key_36 : decode cX6_key 36 = .ok (.bipush (-6), 2) := by decide +kernel
theorem dX6_key_38 : decode cX6_key 38 = .ok (.invokevirtual 82, 3) := by decide +kernel
theorem dX6_key_41 : decode cX6_key 41 = .ok (.goto 9, 3) := by decide +kernel
theorem dX6_key_44 : decode cX6_key 44 = .ok (.aload_n 0, 1) := by decide +kernel
theorem dX6_key_45 : decode cX6_key 45 = .ok (.iload_n 1, 1) := by decide +kernel
theorem dX6_key_46 : decode cX6_key 46 = .ok (.iload_n 2, 1) := by decide +kernel
theorem dX6_key_47 : decode cX6_key 47 = .ok (.invokevirtual 112, 3) := by decide +kernel
theorem dX6_key_50 : decode cX6_key 50 = .ok (.ireturn, 1) := by decide +kernel
theorem dX6_lock_0 : decode cX6_lock 0 = .ok (.aload_n 0, 1) := by decide +kernel
theorem dX6_lock_1 : decode cX6_lock 1 = .ok (.getfield 79, 3) := by decide +kernel
theorem dX6_lock_4 : decode cX6_lock 4 = .ok (.bipush 8, 2) := by decide +kernel
theorem dX6_lock_6 : decode cX6_lock 6 = .ok (.if_icmp .ne 12, 3) := by decide +kernel
theorem dX6_lock_9 : decode cX6_lock 9 = .ok (.aload_n 0, 1) := by decide +kernel
theorem dX6_lock_10 : decode cX6_lock 10 = .ok (.bipush (-6), 2) := by decide +kernel
theorem dX6_lock_12 : decode cX6_lock 12 = .ok (.invokevirtual 82, 3) := by decide +kernel
theorem dX6_lock_15 : decode cX6_lock 15 = .ok (.goto 8, 3) := by decide +kernel
theorem dX6_lock_18 : decode cX6_lock 18 = .ok (.aload_n 0, 1) := by decide +kernel
theorem dX6_lock_19 : decode cX6_lock 19 = .ok (.iload_n 1, 1) := by decide +kernel
theorem dX6_lock_20 : decode cX6_lock 20 = .ok (.invokevirtual 116, 3) := by decide +kernel
theorem dX6_lock_23 : decode cX6_lock 23 = .ok (.ireturn, 1) := by decide +kernel
theorem dX6_asks_0 : decode cX6_asks 0 = .ok (.aload_n 0, 1) := by decide +kernel
theorem dX6_asks_1 : decode cX6_asks 1 = .ok (.iload_n 1, 1) := by decide +kernel
theorem dX6_asks_2 : decode cX6_asks 2 = .ok (.invokevirtual 120, 3) := by decide +kernel
theorem dX6_asks_5 : decode cX6_asks 5 = .ok (.ifCond .eq 23, 3) := by decide +kernel
theorem dX6_asks_8 : decode cX6_asks 8 = .ok (.aload_n 0, 1) := by decide +kernel
theorem dX6_asks_9 : decode cX6_asks 9 = .ok (.iload_n 2, 1) := by decide +kernel
theorem dX6_asks_10 : decode cX6_asks 10 = .ok (.invokevirtual 123, 3) := by decide +kernel
theorem dX6_asks_13 : decode cX6_asks 13 = .ok (.ifCond .eq 15, 3) := by decide +kernel
theorem dX6_asks_16 : decode cX6_asks 16 = .ok (.iload_n 3, 1) := by decide +kernel
theorem dX6_asks_17 : decode cX6_asks 17 = .ok (.iconst 0, 1) := by decide +kernel
theorem dX6_asks_18 : decode cX6_asks 18 = .ok (.aload_n 0, 1) := by decide +kernel
theorem dX6_asks_19 : decode cX6_asks 19 = .ok (.getfield 63, 3) := by decide +kernel
theorem dX6_asks_22 : decode cX6_asks 22 = .ok (.invokestatic 75, 3) := by decide +kernel
theorem dX6_asks_25 : decode cX6_asks 25 = .ok (.ifCond .ne 10, 3) := by decide +kernel
theorem dX6_asks_28 : decode cX6_asks 28 = .ok (.aload_n 0, 1) := by decide +kernel
theorem dX6_asks_29 : decode cX6_asks 29 = .ok (.bipush (-2), 2) := by decide +kernel
theorem dX6_asks_31 : decode cX6_asks 31 = .ok (.invokevirtual 82, 3) := by decide +kernel
theorem dX6_asks_34 : decode cX6_asks 34 = .ok (.ireturn, 1) := by decide +kernel
theorem dX6_asks_35 : decode cX6_asks 35 = .ok (.aload_n 0, 1) := by decide +kernel
theorem dX6_asks_36 : decode cX6_asks 36 = .ok (.getfield 35, 3) := by decide +kernel
theorem dX6_asks_39 : decode cX6_asks 39 = .ok (.iconst 5, 1) := by decide +kernel
theorem dX6_asks_40 : decode cX6_asks 40 = .ok (.iload_n 1, 1) := by decide +kernel
theorem dX6_asks_41 : decode cX6_asks 41 = .ok (.imul, 1) := by decide +kernel
theorem dX6_asks_42 : decode cX6_asks 42 = .ok (.iload_n 2, 1) := by decide +kernel
theorem dX6_asks_43 : decode cX6_asks 43 = .ok (.iadd, 1) := by decide +kernel
theorem dX6_asks_44 : decode cX6_asks 44 = .ok (.iaload, 1) := by decide +kernel
theorem dX6_asks_45 : decode cX6_asks 45 = .ok (.istore 4, 2) := by decide +kernel
theorem dX6_asks_47 : decode cX6_asks 47 = .ok (.aload_n 0, 1) := by decide +kernel
theorem dX6_asks_48 : decode cX6_asks 48 = .ok (.getfield 35, 3) := by decide +kernel
theorem dX6_asks_51 : decode cX6_asks 51 = .ok (.iconst 5, 1) := by decide +kernel
theorem dX6_asks_52 : decode cX6_asks 52 = .ok (.iload_n 1, 1) := by decide +kernel
theorem dX6_asks_53 : decode cX6_asks 53 = .ok (.imul, 1) := by decide +kernel
theorem dX6_asks_54 : decode cX6_asks 54 = .ok (.iload_n 2, 1) := by decide +kernel
theorem dX6_asks_55 : decode cX6_asks 55 = .ok (.iadd, 1) := by decide +kernel
theorem dX6_asks_56 : decode cX6_asks 56 = .ok (.iload_n 3, 1) := by decide +kernel
theorem dX6_asks_57 : decode cX6_asks 57 = .ok (.iastore, 1) := by decide +kernel
theorem dX6_asks_58 : decode cX6_asks 58 = .ok (.iload 4, 2) := by decide +kernel
theorem dX6_asks_60 : decode cX6_asks 60 = .ok (.ireturn, 1) := by decide +kernel
theorem dX6_may_0 : decode cX6_may 0 = .ok (.aload_n 0, 1) := by decide +kernel
theorem dX6_may_1 : decode cX6_may 1 = .ok (.iload_n 1, 1) := by decide +kernel
theorem dX6_may_2 : decode cX6_may 2 = .ok (.invokevirtual 93, 3) := by decide +kernel
theorem dX6_may_5 : decode cX6_may 5 = .ok (.ifCond .eq 11, 3) := by decide +kernel
theorem dX6_may_8 : decode cX6_may 8 = .ok (.aload_n 0, 1) := by decide +kernel
theorem dX6_may_9 : decode cX6_may 9 = .ok (.iload_n 2, 1) := by decide +kernel
theorem dX6_may_10 : decode cX6_may 10 = .ok (.invokevirtual 120, 3) := by decide +kernel
theorem dX6_may_13 : decode cX6_may 13 = .ok (.ifCond .ne 10, 3) := by decide +kernel
theorem dX6_may_16 : decode cX6_may 16 = .ok (.aload_n 0, 1) := by decide +kernel
theorem dX6_may_17 : decode cX6_may 17 = .ok (.bipush (-2), 2) := by decide +kernel
theorem dX6_may_19 : decode cX6_may 19 = .ok (.invokevirtual 82, 3) := by decide +kernel
theorem dX6_may_22 : decode cX6_may 22 = .ok (.ireturn, 1) := by decide +kernel
theorem dX6_may_23 : decode cX6_may 23 = .ok (.aload_n 0, 1) := by decide +kernel
theorem dX6_may_24 : decode cX6_may 24 = .ok (.getfield 26, 3) := by decide +kernel
theorem dX6_may_27 : decode cX6_may 27 = .ok (.iload_n 1, 1) := by decide +kernel
theorem dX6_may_28 : decode cX6_may 28 = .ok (.iaload, 1) := by decide +kernel
theorem dX6_may_29 : decode cX6_may 29 = .ok (.iload_n 2, 1) := by decide +kernel
theorem dX6_may_30 : decode cX6_may 30 = .ok (.invokestatic 126, 3) := by decide +kernel
theorem dX6_may_33 : decode cX6_may 33 = .ok (.iload_n 3, 1) := by decide +kernel
theorem dX6_may_34 : decode cX6_may 34 = .ok (.if_icmp .ne 5, 3) := by decide +kernel
theorem dX6_may_37 : decode cX6_may 37 = .ok (.iconst 0, 1) := by decide +kernel
theorem dX6_may_38 : decode cX6_may 38 = .ok (.ireturn, 1) := by decide +kernel
theorem dX6_may_39 : decode cX6_may 39 = .ok (.aload_n 0, 1) := by decide +kernel
theorem dX6_may_40 : decode cX6_may 40 = .ok (.getfield 26, 3) := by decide +kernel
theorem dX6_may_43 : decode cX6_may 43 = .ok (.iload_n 1, 1) := by decide +kernel
theorem dX6_may_44 : decode cX6_may 44 = .ok (.dup2, 1) := by decide +kernel
theorem dX6_may_45 : decode cX6_may 45 = .ok (.iaload, 1) := by decide +kernel
theorem dX6_may_46 : decode cX6_may 46 = .ok (.iconst 1, 1) := by decide +kernel
theorem dX6_may_47 : decode cX6_may 47 = .ok (.iload_n 2, 1) := by decide +kernel
theorem dX6_may_48 : decode cX6_may 48 = .ok (.ishl, 1) := by decide +kernel
theorem dX6_may_49 : decode cX6_may 49 = .ok (.ixor, 1) := by decide +kernel
theorem dX6_may_50 : decode cX6_may 50 = .ok (.iastore, 1) := by decide +kernel
theorem dX6_may_51 : decode cX6_may 51 = .ok (.iconst 1, 1) := by decide +kernel
theorem dX6_may_52 : decode cX6_may 52 = .ok (.ireturn, 1) := by decide +kernel
theorem dX6_file_0 : decode cX6_file 0 = .ok (.aload_n 0, 1) := by decide +kernel
theorem dX6_file_1 : decode cX6_file 1 = .ok (.iload_n 1, 1) := by decide +kernel
theorem dX6_file_2 : decode cX6_file 2 = .ok (.invokevirtual 93, 3) := by decide +kernel
theorem dX6_file_5 : decode cX6_file 5 = .ok (.ifCond .eq 11, 3) := by decide +kernel
theorem dX6_file_8 : decode cX6_file 8 = .ok (.aload_n 0, 1) := by decide +kernel
theorem dX6_file_9 : decode cX6_file 9 = .ok (.iload_n 2, 1) := by decide +kernel
theorem dX6_file_10 : decode cX6_file 10 = .ok (.invokevirtual 123, 3) := by decide +kernel
theorem dX6_file_13 : decode cX6_file 13 = .ok (.ifCond .ne 10, 3) := by decide +kernel
theorem dX6_file_16 : decode cX6_file 16 = .ok (.aload_n 0, 1) := by decide +kernel
theorem dX6_file_17 : decode cX6_file 17 = .ok (.bipush (-2), 2) := by decide +kernel
theorem dX6_file_19 : decode cX6_file 19 = .ok (.invokevirtual 82, 3) := by decide +kernel
theorem dX6_file_22 : decode cX6_file 22 = .ok (.ireturn, 1) := by decide +kernel
theorem dX6_file_23 : decode cX6_file 23 = .ok (.aload_n 0, 1) := by decide +kernel
theorem dX6_file_24 : decode cX6_file 24 = .ok (.getfield 20, 3) := by decide +kernel
theorem dX6_file_27 : decode cX6_file 27 = .ok (.iload_n 1, 1) := by decide +kernel
theorem dX6_file_28 : decode cX6_file 28 = .ok (.iaload, 1) := by decide +kernel
theorem dX6_file_29 : decode cX6_file 29 = .ok (.iconst 4, 1) := by decide +kernel
theorem dX6_file_30 : decode cX6_file 30 = .ok (.if_icmp .eq 20, 3) := by decide +kernel
theorem dX6_file_33 : decode cX6_file 33 = .ok (.aload_n 0, 1) := by decide +kernel
theorem dX6_file_34 : decode cX6_file 34 = .ok (.getfield 29, 3) := by decide +kernel
theorem dX6_file_37 : decode cX6_file 37 = .ok (.iconst 5, 1) := by decide +kernel
theorem dX6_file_38 : decode cX6_file 38 = .ok (.iload_n 1, 1) := by decide +kernel
theorem dX6_file_39 : decode cX6_file 39 = .ok (.imul, 1) := by decide +kernel
theorem dX6_file_40 : decode cX6_file 40 = .ok (.iload_n 2, 1) := by decide +kernel
theorem dX6_file_41 : decode cX6_file 41 = .ok (.iadd, 1) := by decide +kernel
theorem dX6_file_42 : decode cX6_file 42 = .ok (.iaload, 1) := by decide +kernel
theorem dX6_file_43 : decode cX6_file 43 = .ok (.aload_n 0, 1) := by decide +kernel
theorem dX6_file_44 : decode cX6_file 44 = .ok (.getfield 63, 3) := by decide +kernel
theorem dX6_file_47 : decode cX6_file 47 = .ok (.if_icmp .ne 10, 3) := by decide +kernel
theorem dX6_file_50 : decode cX6_file 50 = .ok (.aload_n 0, 1) := by decide +kernel
theorem dX6_file_51 : decode cX6_file 51 = .ok (.bipush (-5), 2) := by decide +kernel
theorem dX6_file_53 : decode cX6_file 53 = .ok (.invokevirtual 82, 3) := by decide +kernel
theorem dX6_file_56 : decode cX6_file 56 = .ok (.ireturn, 1) := by decide +kernel
theorem dX6_file_57 : decode cX6_file 57 = .ok (.aload_n 0, 1) := by decide +kernel
theorem dX6_file_58 : decode cX6_file 58 = .ok (.getfield 29, 3) := by decide +kernel
theorem dX6_file_61 : decode cX6_file 61 = .ok (.iconst 5, 1) := by decide +kernel
theorem dX6_file_62 : decode cX6_file 62 = .ok (.iload_n 1, 1) := by decide +kernel
theorem dX6_file_63 : decode cX6_file 63 = .ok (.imul, 1) := by decide +kernel
theorem dX6_file_64 : decode cX6_file 64 = .ok (.iload_n 2, 1) := by decide +kernel
theorem dX6_file_65 : decode cX6_file 65 = .ok (.iadd, 1) := by decide +kernel
theorem dX6_file_66 : decode cX6_file 66 = .ok (.dup2, 1) := by decide +kernel
theorem dX6_file_67 : decode cX6_file 67 = .ok (.iaload, 1) := by decide +kernel
theorem dX6_file_68 : decode cX6_file 68 = .ok (.iconst 1, 1) := by decide +kernel
theorem dX6_file_69 : decode cX6_file 69 = .ok (.iadd, 1) := by decide +kernel
theorem dX6_file_70 : decode cX6_file 70 = .ok (.dup_x2, 1) := by decide +kernel
theorem dX6_file_71 : decode cX6_file 71 = .ok (.iastore, 1) := by decide +kernel
theorem dX6_file_72 : decode cX6_file 72 = .ok (.istore_n 3, 1) := by decide +kernel
theorem dX6_file_73 : decode cX6_file 73 = .ok (.aload_n 0, 1) := by decide +kernel
theorem dX6_file_74 : decode cX6_file 74 = .ok (.dup, 1) := by decide +kernel
theorem dX6_file_75 : decode cX6_file 75 = .ok (.getfield 129, 3) := by decide +kernel
theorem dX6_file_78 : decode cX6_file 78 = .ok (.iload_n 3, 1) := by decide +kernel
theorem dX6_file_79 : decode cX6_file 79 = .ok (.iadd, 1) := by decide +kernel
theorem dX6_file_80 : decode cX6_file 80 = .ok (.putfield 129, 3) := by decide +kernel
theorem dX6_file_83 : decode cX6_file 83 = .ok (.iload_n 3, 1) := by decide +kernel
theorem dX6_file_84 : decode cX6_file 84 = .ok (.ireturn, 1) := by decide +kernel
theorem dX6_feed_0 : decode cX6_feed 0 = .ok (.iload_n 1, 1) := by decide +kernel
theorem dX6_feed_1 : decode cX6_feed 1 = .ok (.iconst 0, 1) := by decide +kernel
theorem dX6_feed_2 : decode cX6_feed 2 = .ok (.sipush 255, 3) := by decide +kernel
theorem dX6_feed_5 : decode cX6_feed 5 = .ok (.invokestatic 75, 3) := by decide +kernel
theorem dX6_feed_8 : decode cX6_feed 8 = .ok (.ifCond .ne 10, 3) := by decide +kernel
theorem dX6_feed_11 : decode cX6_feed 11 = .ok (.aload_n 0, 1) := by decide +kernel
theorem dX6_feed_12 : decode cX6_feed 12 = .ok (.bipush (-2), 2) := by decide +kernel
theorem dX6_feed_14 : decode cX6_feed 14 = .ok (.invokevirtual 82, 3) := by decide +kernel
theorem dX6_feed_17 : decode cX6_feed 17 = .ok (.ireturn, 1) := by decide +kernel
theorem dX6_feed_18 : decode cX6_feed 18 = .ok (.aload_n 0, 1) := by decide +kernel
theorem dX6_feed_19 : decode cX6_feed 19 = .ok (.getfield 132, 3) := by decide +kernel
theorem dX6_feed_22 : decode cX6_feed 22 = .ok (.sipush 250, 3) := by decide +kernel
theorem dX6_feed_25 : decode cX6_feed 25 = .ok (.if_icmp .ne 10, 3) := by decide +kernel
theorem dX6_feed_28 : decode cX6_feed 28 = .ok (.aload_n 0, 1) := by decide +kernel
theorem dX6_feed_29 : decode cX6_feed 29 = .ok (.bipush (-6), 2) := by decide +kernel
theorem dX6_feed_31 : decode cX6_feed 31 = .ok (.invokevirtual 82, 3) := by decide +kernel
theorem dX6_feed_34 : decode cX6_feed 34 = .ok (.ireturn, 1) := by decide +kernel
theorem dX6_feed_35 : decode cX6_feed 35 = .ok (.aload_n 0, 1) := by decide +kernel
theorem dX6_feed_36 : decode cX6_feed 36 = .ok (.getfield 38, 3) := by decide +kernel
theorem dX6_feed_39 : decode cX6_feed 39 = .ok (.aload_n 0, 1) := by decide +kernel
theorem dX6_feed_40 : decode cX6_feed 40 = .ok (.dup, 1) := by decide +kernel
theorem dX6_feed_41 : decode cX6_feed 41 = .ok (.getfield 132, 3) := by decide +kernel
theorem dX6_feed_44 : decode cX6_feed 44 = .ok (.dup_x1, 1) := by decide +kernel
theorem dX6_feed_45 : decode cX6_feed 45 = .ok (.iconst 1, 1) := by decide +kernel
theorem dX6_feed_46 : decode cX6_feed 46 = .ok (.iadd, 1) := by decide +kernel
theorem dX6_feed_47 : decode cX6_feed 47 = .ok (.putfield 132, 3) := by decide +kernel
theorem dX6_feed_50 : decode cX6_feed 50 = .ok (.iload_n 1, 1) := by decide +kernel
theorem dX6_feed_51 : decode cX6_feed 51 = .ok (.iastore, 1) := by decide +kernel
theorem dX6_feed_52 : decode cX6_feed 52 = .ok (.aload_n 0, 1) := by decide +kernel
theorem dX6_feed_53 : decode cX6_feed 53 = .ok (.getfield 132, 3) := by decide +kernel
theorem dX6_feed_56 : decode cX6_feed 56 = .ok (.ireturn, 1) := by decide +kernel
theorem dX6_wipe_0 : decode cX6_wipe 0 = .ok (.aload_n 0, 1) := by decide +kernel
theorem dX6_wipe_1 : decode cX6_wipe 1 = .ok (.getfield 132, 3) := by decide +kernel
theorem dX6_wipe_4 : decode cX6_wipe 4 = .ok (.istore_n 1, 1) := by decide +kernel
theorem dX6_wipe_5 : decode cX6_wipe 5 = .ok (.aload_n 0, 1) := by decide +kernel
theorem dX6_wipe_6 : decode cX6_wipe 6 = .ok (.iconst 0, 1) := by decide +kernel
theorem dX6_wipe_7 : decode cX6_wipe 7 = .ok (.putfield 132, 3) := by decide +kernel
theorem dX6_wipe_10 : decode cX6_wipe 10 = .ok (.iload_n 1, 1) := by decide +kernel
theorem dX6_wipe_11 : decode cX6_wipe 11 = .ok (.ireturn, 1) := by decide +kernel
theorem dX6_isLetter_0 : decode cX6_isLetter 0 = .ok (.iload_n 0, 1) := by decide +kernel
theorem dX6_isLetter_1 : decode cX6_isLetter 1 = .ok (.bipush 97, 2) := by decide +kernel
theorem dX6_isLetter_3 : decode cX6_isLetter 3 = .ok (.if_icmp .lt 13, 3) := by decide +kernel
theorem dX6_isLetter_6 : decode cX6_isLetter 6 = .ok (.iload_n 0, 1) := by decide +kernel
theorem dX6_isLetter_7 : decode cX6_isLetter 7 = .ok (.bipush 122, 2) := by decide +kernel
theorem dX6_isLetter_9 : decode cX6_isLetter 9 = .ok (.if_icmp .gt 7, 3) := by decide +kernel
theorem dX6_isLetter_12 : decode cX6_isLetter 12 = .ok (.iconst 1, 1) := by decide +kernel
theorem dX6_isLetter_13 : decode cX6_isLetter 13 = .ok (.goto 4, 3) := by decide +kernel
theorem dX6_isLetter_16 : decode cX6_isLetter 16 = .ok (.iconst 0, 1) := by decide +kernel
theorem dX6_isLetter_17 : decode cX6_isLetter 17 = .ok (.ireturn, 1) := by decide +kernel
theorem dX6_isDigit_0 : decode cX6_isDigit 0 = .ok (.iload_n 0, 1) := by decide +kernel
theorem dX6_isDigit_1 : decode cX6_isDigit 1 = .ok (.bipush 48, 2) := by decide +kernel
theorem dX6_isDigit_3 : decode cX6_isDigit 3 = .ok (.if_icmp .lt 13, 3) := by decide +kernel
theorem dX6_isDigit_6 : decode cX6_isDigit 6 = .ok (.iload_n 0, 1) := by decide +kernel
theorem dX6_isDigit_7 : decode cX6_isDigit 7 = .ok (.bipush 57, 2) := by decide +kernel
theorem dX6_isDigit_9 : decode cX6_isDigit 9 = .ok (.if_icmp .gt 7, 3) := by decide +kernel
theorem dX6_isDigit_12 : decode cX6_isDigit 12 = .ok (.iconst 1, 1) := by decide +kernel
theorem dX6_isDigit_13 : decode cX6_isDigit 13 = .ok (.goto 4, 3) := by decide +kernel
theorem dX6_isDigit_16 : decode cX6_isDigit 16 = .ok (.iconst 0, 1) := by decide +kernel
theorem dX6_isDigit_17 : decode cX6_isDigit 17 = .ok (.ireturn, 1) := by decide +kernel
theorem dX6_next_0 : decode cX6_next 0 = .ok (.aload_n 0, 1) := by decide +kernel
theorem dX6_next_1 : decode cX6_next 1 = .ok (.getfield 135, 3) := by decide +kernel
theorem dX6_next_4 : decode cX6_next 4 = .ok (.aload_n 0, 1) := by decide +kernel
theorem dX6_next_5 : decode cX6_next 5 = .ok (.getfield 132, 3) := by decide +kernel
theorem dX6_next_8 : decode cX6_next 8 = .ok (.if_icmp .ge 30, 3) := by decide +kernel
theorem dX6_next_11 : decode cX6_next 11 = .ok (.aload_n 0, 1) := by decide +kernel
theorem dX6_next_12 : decode cX6_next 12 = .ok (.getfield 38, 3) := by decide +kernel
theorem dX6_next_15 : decode cX6_next 15 = .ok (.aload_n 0, 1) := by decide +kernel
theorem dX6_next_16 : decode cX6_next 16 = .ok (.getfield 135, 3) := by decide +kernel
theorem dX6_next_19 : decode cX6_next 19 = .ok (.iaload, 1) := by decide +kernel
theorem dX6_next_20 : decode cX6_next 20 = .ok (.bipush 32, 2) := by decide +kernel
theorem dX6_next_22 : decode cX6_next 22 = .ok (.if_icmp .ne 16, 3) := by decide +kernel
theorem dX6_next_25 : decode cX6_next 25 = .ok (.aload_n 0, 1) := by decide +kernel
theorem dX6_next_26 : decode cX6_next 26 = .ok (.dup, 1) := by decide +kernel
theorem dX6_next_27 : decode cX6_next 27 = .ok (.getfield 135, 3) := by decide +kernel
theorem dX6_next_30 : decode cX6_next 30 = .ok (.iconst 1, 1) := by decide +kernel
theorem dX6_next_31 : decode cX6_next 31 = .ok (.iadd, 1) := by decide +kernel
theorem dX6_next_32 : decode cX6_next 32 = .ok (.putfield 135, 3) := by decide +kernel
theorem dX6_next_35 : decode cX6_next 35 = .ok (.goto (-35), 3) := by decide +kernel
theorem dX6_next_38 : decode cX6_next 38 = .ok (.aload_n 0, 1) := by decide +kernel
theorem dX6_next_39 : decode cX6_next 39 = .ok (.aload_n 0, 1) := by decide +kernel
theorem dX6_next_40 : decode cX6_next 40 = .ok (.getfield 135, 3) := by decide +kernel
theorem dX6_next_43 : decode cX6_next 43 = .ok (.putfield 138, 3) := by decide +kernel
theorem dX6_next_46 : decode cX6_next 46 = .ok (.aload_n 0, 1) := by decide +kernel
theorem dX6_next_47 : decode cX6_next 47 = .ok (.getfield 135, 3) := by decide +kernel
theorem dX6_next_50 : decode cX6_next 50 = .ok (.aload_n 0, 1) := by decide +kernel
theorem dX6_next_51 : decode cX6_next 51 = .ok (.getfield 132, 3) := by decide +kernel
theorem dX6_next_54 : decode cX6_next 54 = .ok (.if_icmp .ne 9, 3) := by decide +kernel
theorem dX6_next_57 : decode cX6_next 57 = .ok (.aload_n 0, 1) := by decide +kernel
theorem dX6_next_58 : decode cX6_next 58 = .ok (.iconst 0, 1) := by decide +kernel
theorem dX6_next_59 : decode cX6_next 59 = .ok (.putfield 141, 3) := by decide +kernel
theorem dX6_next_62 : decode cX6_next 62 = .ok (.return_, 1) := by decide +kernel
theorem dX6_next_63 : decode cX6_next 63 = .ok (.aload_n 0, 1) := by decide +kernel
theorem dX6_next_64 : decode cX6_next 64 = .ok (.getfield 38, 3) := by decide +kernel
theorem dX6_next_67 : decode cX6_next 67 = .ok (.aload_n 0, 1) := by decide +kernel
theorem dX6_next_68 : decode cX6_next 68 = .ok (.getfield 135, 3) := by decide +kernel
theorem dX6_next_71 : decode cX6_next 71 = .ok (.iaload, 1) := by decide +kernel
theorem dX6_next_72 : decode cX6_next 72 = .ok (.istore_n 1, 1) := by decide +kernel
theorem dX6_next_73 : decode cX6_next 73 = .ok (.iload_n 1, 1) := by decide +kernel
theorem dX6_next_74 : decode cX6_next 74 = .ok (.invokestatic 144, 3) := by decide +kernel
theorem dX6_next_77 : decode cX6_next 77 = .ok (.ifCond .eq 47, 3) := by decide +kernel
theorem dX6_next_80 : decode cX6_next 80 = .ok (.aload_n 0, 1) := by decide +kernel
theorem dX6_next_81 : decode cX6_next 81 = .ok (.iconst 1, 1) := by decide +kernel
theorem dX6_next_82 : decode cX6_next 82 = .ok (.putfield 141, 3) := by decide +kernel
theorem dX6_next_85 : decode cX6_next 85 = .ok (.aload_n 0, 1) := by decide +kernel
theorem dX6_next_86 : decode cX6_next 86 = .ok (.getfield 135, 3) := by decide +kernel
theorem dX6_next_89 : decode cX6_next 89 = .ok (.aload_n 0, 1) := by decide +kernel
theorem dX6_next_90 : decode cX6_next 90 = .ok (.getfield 132, 3) := by decide +kernel
theorem dX6_next_93 : decode cX6_next 93 = .ok (.if_icmp .ge 172, 3) := by decide +kernel
theorem dX6_next_96 : decode cX6_next 96 = .ok (.aload_n 0, 1) := by decide +kernel
theorem dX6_next_97 : decode cX6_next 97 = .ok (.getfield 38, 3) := by decide +kernel
theorem dX6_next_100 : decode cX6_next 100 = .ok (.aload_n 0, 1) := by decide +kernel
theorem dX6_next_101 : decode cX6_next 101 = .ok (.getfield 135, 3) := by decide +kernel
theorem dX6_next_104 : decode cX6_next 104 = .ok (.iaload, 1) := by decide +kernel
theorem dX6_next_105 : decode cX6_next 105 = .ok (.invokestatic 144, 3) := by decide +kernel
theorem dX6_next_108 : decode cX6_next 108 = .ok (.ifCond .eq 157, 3) := by decide +kernel
theorem dX6_next_111 : decode cX6_next 111 = .ok (.aload_n 0, 1) := by decide +kernel
theorem dX6_next_112 : decode cX6_next 112 = .ok (.dup, 1) := by decide +kernel
theorem dX6_next_113 : decode cX6_next 113 = .ok (.getfield 135, 3) := by decide +kernel
theorem dX6_next_116 : decode cX6_next 116 = .ok (.iconst 1, 1) := by decide +kernel
theorem dX6_next_117 : decode cX6_next 117 = .ok (.iadd, 1) := by decide +kernel
theorem dX6_next_118 : decode cX6_next 118 = .ok (.putfield 135, 3) := by decide +kernel
theorem dX6_next_121 : decode cX6_next 121 = .ok (.goto (-36), 3) := by decide +kernel
theorem dX6_next_124 : decode cX6_next 124 = .ok (.iload_n 1, 1) := by decide +kernel
theorem dX6_next_125 : decode cX6_next 125 = .ok (.invokestatic 147, 3) := by decide +kernel
theorem dX6_next_128 : decode cX6_next 128 = .ok (.ifCond .eq 112, 3) := by decide +kernel
theorem dX6_next_131 : decode cX6_next 131 = .ok (.aload_n 0, 1) := by decide +kernel
theorem dX6_next_132 : decode cX6_next 132 = .ok (.iconst 2, 1) := by decide +kernel
theorem dX6_next_133 : decode cX6_next 133 = .ok (.putfield 141, 3) := by decide +kernel
theorem dX6_next_136 : decode cX6_next 136 = .ok (.aload_n 0, 1) := by decide +kernel
theorem dX6_next_137 : decode cX6_next 137 = .ok (.iconst 0, 1) := by decide +kernel
theorem dX6_next_138 : decode cX6_next 138 = .ok (.putfield 150, 3) := by decide +kernel
theorem dX6_next_141 : decode cX6_next 141 = .ok (.aload_n 0, 1) := by decide +kernel
theorem dX6_next_142 : decode cX6_next 142 = .ok (.getfield 135, 3) := by decide +kernel
theorem dX6_next_145 : decode cX6_next 145 = .ok (.aload_n 0, 1) := by decide +kernel
theorem dX6_next_146 : decode cX6_next 146 = .ok (.getfield 132, 3) := by decide +kernel
theorem dX6_next_149 : decode cX6_next 149 = .ok (.if_icmp .ge 68, 3) := by decide +kernel
theorem dX6_next_152 : decode cX6_next 152 = .ok (.aload_n 0, 1) := by decide +kernel
theorem dX6_next_153 : decode cX6_next 153 = .ok (.getfield 38, 3) := by decide +kernel
theorem dX6_next_156 : decode cX6_next 156 = .ok (.aload_n 0, 1) := by decide +kernel
theorem dX6_next_157 : decode cX6_next 157 = .ok (.getfield 135, 3) := by decide +kernel
theorem dX6_next_160 : decode cX6_next 160 = .ok (.iaload, 1) := by decide +kernel
theorem dX6_next_161 : decode cX6_next 161 = .ok (.invokestatic 147, 3) := by decide +kernel
theorem dX6_next_164 : decode cX6_next 164 = .ok (.ifCond .eq 53, 3) := by decide +kernel
theorem dX6_next_167 : decode cX6_next 167 = .ok (.aload_n 0, 1) := by decide +kernel
theorem dX6_next_168 : decode cX6_next 168 = .ok (.getfield 135, 3) := by decide +kernel
theorem dX6_next_171 : decode cX6_next 171 = .ok (.aload_n 0, 1) := by decide +kernel
theorem dX6_next_172 : decode cX6_next 172 = .ok (.getfield 138, 3) := by decide +kernel
theorem dX6_next_175 : decode cX6_next 175 = .ok (.isub, 1) := by decide +kernel
theorem dX6_next_176 : decode cX6_next 176 = .ok (.iconst 3, 1) := by decide +kernel
theorem dX6_next_177 : decode cX6_next 177 = .ok (.if_icmp .ge 27, 3) := by decide +kernel
theorem dX6_next_180 : decode cX6_next 180 = .ok (.aload_n 0, 1) := by decide +kernel
theorem dX6_next_181 : decode cX6_next 181 = .ok (.bipush 10, 2) := by decide +kernel
theorem dX6_next_183 : decode cX6_next 183 = .ok (.aload_n 0, 1) := by decide +kernel
theorem dX6_next_184 : decode cX6_next 184 = .ok (.getfield 150, 3) := by decide +kernel
theorem dX6_next_187 : decode cX6_next 187 = .ok (.imul, 1) := by decide +kernel
theorem dX6_next_188 : decode cX6_next 188 = .ok (.aload_n 0, 1) := by decide +kernel
theorem dX6_next_189 : decode cX6_next 189 = .ok (.getfield 38, 3) := by decide +kernel
theorem dX6_next_192 : decode cX6_next 192 = .ok (.aload_n 0, 1) := by decide +kernel
theorem dX6_next_193 : decode cX6_next 193 = .ok (.getfield 135, 3) := by decide +kernel
theorem dX6_next_196 : decode cX6_next 196 = .ok (.iaload, 1) := by decide +kernel
theorem dX6_next_197 : decode cX6_next 197 = .ok (.iadd, 1) := by decide +kernel
theorem dX6_next_198 : decode cX6_next 198 = .ok (.bipush 48, 2) := by decide +kernel
theorem dX6_next_200 : decode cX6_next 200 = .ok (.isub, 1) := by decide +kernel
theorem dX6_next_201 : decode cX6_next 201 = .ok (.putfield 150, 3) := by decide +kernel
theorem dX6_next_204 : decode cX6_next 204 = .ok (.aload_n 0, 1) := by decide +kernel
theorem dX6_next_205 : decode cX6_next 205 = .ok (.dup, 1) := by decide +kernel
theorem dX6_next_206 : decode cX6_next 206 = .ok (.getfield 135, 3) := by decide +kernel
theorem dX6_next_209 : decode cX6_next 209 = .ok (.iconst 1, 1) := by decide +kernel
theorem dX6_next_210 : decode cX6_next 210 = .ok (.iadd, 1) := by decide +kernel
theorem dX6_next_211 : decode cX6_next 211 = .ok (.putfield 135, 3) := by decide +kernel
theorem dX6_next_214 : decode cX6_next 214 = .ok (.goto (-73), 3) := by decide +kernel
theorem dX6_next_217 : decode cX6_next 217 = .ok (.aload_n 0, 1) := by decide +kernel
theorem dX6_next_218 : decode cX6_next 218 = .ok (.getfield 135, 3) := by decide +kernel
theorem dX6_next_221 : decode cX6_next 221 = .ok (.aload_n 0, 1) := by decide +kernel
theorem dX6_next_222 : decode cX6_next 222 = .ok (.getfield 138, 3) := by decide +kernel
theorem dX6_next_225 : decode cX6_next 225 = .ok (.isub, 1) := by decide +kernel
theorem dX6_next_226 : decode cX6_next 226 = .ok (.iconst 2, 1) := by decide +kernel
theorem dX6_next_227 : decode cX6_next 227 = .ok (.if_icmp .le 38, 3) := by decide +kernel
theorem dX6_next_230 : decode cX6_next 230 = .ok (.aload_n 0, 1) := by decide +kernel
theorem dX6_next_231 : decode cX6_next 231 = .ok (.sipush 1000, 3) := by decide +kernel
theorem dX6_next_234 : decode cX6_next 234 = .ok (.putfield 150, 3) := by decide +kernel
theorem dX6_next_237 : decode cX6_next 237 = .ok (.goto 28, 3) := by decide +kernel
theorem dX6_next_240 : decode cX6_next 240 = .ok (.aload_n 0, 1) := by decide +kernel
theorem dX6_next_241 : decode cX6_next 241 = .ok (.iload_n 1, 1) := by decide +kernel
theorem dX6_next_242 : decode cX6_next 242 = .ok (.bipush 59, 2) := by decide +kernel
theorem dX6_next_244 : decode cX6_next 244 = .ok (.if_icmp .ne 7, 3) := by decide +kernel
theorem dX6_next_247 : decode cX6_next 247 = .ok (.iconst 3, 1) := by decide +kernel
theorem dX6_next_248 : decode cX6_next 248 = .ok (.goto 4, 3) := by decide +kernel
theorem dX6_next_251 : decode cX6_next 251 = .ok (.iconst (-1), 1) := by decide +kernel
theorem dX6_next_252 : decode cX6_next 252 = .ok (.putfield 141, 3) := by decide +kernel
theorem dX6_next_255 : decode cX6_next 255 = .ok (.aload_n 0, 1) := by decide +kernel
theorem dX6_next_256 : decode cX6_next 256 = .ok (.dup, 1) := by decide +kernel
theorem dX6_next_257 : decode cX6_next 257 = .ok (.getfield 135, 3) := by decide +kernel
theorem dX6_next_260 : decode cX6_next 260 = .ok (.iconst 1, 1) := by decide +kernel
theorem dX6_next_261 : decode cX6_next 261 = .ok (.iadd, 1) := by decide +kernel
theorem dX6_next_262 : decode cX6_next 262 = .ok (.putfield 135, 3) := by decide +kernel
theorem dX6_next_265 : decode cX6_next 265 = .ok (.return_, 1) := by decide +kernel
theorem dX6_isWord_0 : decode cX6_isWord 0 = .ok (.aload_n 0, 1) := by decide +kernel
theorem dX6_isWord_1 : decode cX6_isWord 1 = .ok (.getfield 141, 3) := by decide +kernel
theorem dX6_isWord_4 : decode cX6_isWord 4 = .ok (.iconst 1, 1) := by decide +kernel
theorem dX6_isWord_5 : decode cX6_isWord 5 = .ok (.if_icmp .ne 19, 3) := by decide +kernel
theorem dX6_isWord_8 : decode cX6_isWord 8 = .ok (.aload_n 0, 1) := by decide +kernel
theorem dX6_isWord_9 : decode cX6_isWord 9 = .ok (.getfield 135, 3) := by decide +kernel
theorem dX6_isWord_12 : decode cX6_isWord 12 = .ok (.aload_n 0, 1) := by decide +kernel
theorem dX6_isWord_13 : decode cX6_isWord 13 = .ok (.getfield 138, 3) := by decide +kernel
theorem dX6_isWord_16 : decode cX6_isWord 16 = .ok (.isub, 1) := by decide +kernel
theorem dX6_isWord_17 : decode cX6_isWord 17 = .ok (.aload_n 1, 1) := by decide +kernel
theorem dX6_isWord_18 : decode cX6_isWord 18 = .ok (.invokevirtual 153, 3) := by decide +kernel
theorem dX6_isWord_21 : decode cX6_isWord 21 = .ok (.if_icmp .eq 5, 3) := by decide +kernel
theorem dX6_isWord_24 : decode cX6_isWord 24 = .ok (.iconst 0, 1) := by decide +kernel
theorem dX6_isWord_25 : decode cX6_isWord 25 = .ok (.ireturn, 1) := by decide +kernel
theorem dX6_isWord_26 : decode cX6_isWord 26 = .ok (.iconst 0, 1) := by decide +kernel
theorem dX6_isWord_27 : decode cX6_isWord 27 = .ok (.istore_n 2, 1) := by decide +kernel
theorem dX6_isWord_28 : decode cX6_isWord 28 = .ok (.iload_n 2, 1) := by decide +kernel
theorem dX6_isWord_29 : decode cX6_isWord 29 = .ok (.aload_n 1, 1) := by decide +kernel
theorem dX6_isWord_30 : decode cX6_isWord 30 = .ok (.invokevirtual 153, 3) := by decide +kernel
theorem dX6_isWord_33 : decode cX6_isWord 33 = .ok (.if_icmp .ge 30, 3) := by decide +kernel
theorem dX6_isWord_36 : decode cX6_isWord 36 = .ok (.aload_n 0, 1) := by decide +kernel
theorem dX6_isWord_37 : decode cX6_isWord 37 = .ok (.getfield 38, 3) := by decide +kernel
theorem dX6_isWord_40 : decode cX6_isWord 40 = .ok (.aload_n 0, 1) := by decide +kernel
theorem dX6_isWord_41 : decode cX6_isWord 41 = .ok (.getfield 138, 3) := by decide +kernel
theorem dX6_isWord_44 : decode cX6_isWord 44 = .ok (.iload_n 2, 1) := by decide +kernel
theorem dX6_isWord_45 : decode cX6_isWord 45 = .ok (.iadd, 1) := by decide +kernel
theorem dX6_isWord_46 : decode cX6_isWord 46 = .ok (.iaload, 1) := by decide +kernel
theorem dX6_isWord_47 : decode cX6_isWord 47 = .ok (.aload_n 1, 1) := by decide +kernel
theorem dX6_isWord_48 : decode cX6_isWord 48 = .ok (.iload_n 2, 1) := by decide +kernel
theorem dX6_isWord_49 : decode cX6_isWord 49 = .ok (.invokevirtual 159, 3) := by decide +kernel
theorem dX6_isWord_52 : decode cX6_isWord 52 = .ok (.if_icmp .eq 5, 3) := by decide +kernel
theorem dX6_isWord_55 : decode cX6_isWord 55 = .ok (.iconst 0, 1) := by decide +kernel
theorem dX6_isWord_56 : decode cX6_isWord 56 = .ok (.ireturn, 1) := by decide +kernel
theorem dX6_isWord_57 : decode cX6_isWord 57 = .ok (.iinc 2 1, 3) := by decide +kernel
theorem dX6_isWord_60 : decode cX6_isWord 60 = .ok (.goto (-32), 3) := by decide +kernel
theorem dX6_isWord_63 : decode cX6_isWord 63 = .ok (.iconst 1, 1) := by decide +kernel
theorem dX6_isWord_64 : decode cX6_isWord 64 = .ok (.ireturn, 1) := by decide +kernel
theorem dX6_number_0 : decode cX6_number 0 = .ok (.aload_n 0, 1) := by decide +kernel
theorem dX6_number_1 : decode cX6_number 1 = .ok (.invokevirtual 163, 3) := by decide +kernel
theorem dX6_number_4 : decode cX6_number 4 = .ok (.aload_n 0, 1) := by decide +kernel
theorem dX6_number_5 : decode cX6_number 5 = .ok (.getfield 141, 3) := by decide +kernel
theorem dX6_number_8 : decode cX6_number 8 = .ok (.iconst 2, 1) := by decide +kernel
theorem dX6_number_9 : decode cX6_number 9 = .ok (.if_icmp .ne 19, 3) := by decide +kernel
theorem dX6_number_12 : decode cX6_number 12 = .ok (.aload_n 0, 1) := by decide +kernel
theorem dX6_number_13 : decode cX6_number 13 = .ok (.getfield 150, 3) := by decide +kernel
theorem dX6_number_16 : decode cX6_number 16 = .ok (.iload_n 1, 1) := by decide +kernel
theorem dX6_number_17 : decode cX6_number 17 = .ok (.iload_n 2, 1) := by decide +kernel
theorem dX6_number_18 : decode cX6_number 18 = .ok (.invokestatic 75, 3) := by decide +kernel
theorem dX6_number_21 : decode cX6_number 21 = .ok (.ifCond .eq 7, 3) := by decide +kernel
theorem dX6_number_24 : decode cX6_number 24 = .ok (.iconst 1, 1) := by decide +kernel
theorem dX6_number_25 : decode cX6_number 25 = .ok (.goto 4, 3) := by decide +kernel
theorem dX6_number_28 : decode cX6_number 28 = .ok (.iconst 0, 1) := by decide +kernel
theorem dX6_number_29 : decode cX6_number 29 = .ok (.ireturn, 1) := by decide +kernel
theorem dX6_statement_0 : decode cX6_statement 0 = .ok (.aload_n 0, 1) := by decide +kernel
theorem dX6_statement_1 : decode cX6_statement 1 = .ok (.getfield 72, 3) := by decide +kernel
theorem dX6_statement_4 : decode cX6_statement 4 = .ok (.aload_n 0, 1) := by decide +kernel
theorem dX6_statement_5 : decode cX6_statement 5 = .ok (.getfield 79, 3) := by decide +kernel
theorem dX6_statement_8 : decode cX6_statement 8 = .ok (.iadd, 1) := by decide +kernel
theorem dX6_statement_9 : decode cX6_statement 9 = .ok (.ifCond .ne 7, 3) := by decide +kernel
theorem dX6_statement_12 : decode cX6_statement 12 = .ok (.iconst 1, 1) := by decide +kernel
theorem dX6_statement_13 : decode cX6_statement 13 = .ok (.goto 4, 3) := by decide +kernel
theorem dX6_statement_16 : decode cX6_statement 16 = .ok (.iconst 0, 1) := by decide +kernel
theorem dX6_statement_17 : decode cX6_statement 17 = .ok (.istore_n 1, 1) := by decide +kernel
theorem dX6_statement_18 : decode cX6_statement 18 = .ok (.iload_n 1, 1) := by decide +kernel
theorem dX6_statement_19 : decode cX6_statement 19 = .ok (.ifCond .eq 37, 3) := by decide +kernel
theorem dX6_statement_22 : decode cX6_statement 22 = .ok (.aload_n 0, 1) := by decide +kernel
theorem dX6_statement_23 : decode cX6_statement 23 = .ok (.ldc 166, 2) := by decide +kernel
theorem dX6_statement_25 : decode cX6_statement 25 = .ok (.invokevirtual 167, 3) := by decide +kernel
theorem dX6_statement_28 : decode cX6_statement 28 = .ok (.ifCond .eq 28, 3) := by decide +kernel
theorem dX6_statement_31 : decode cX6_statement 31 = .ok (.aload_n 0, 1) := by decide +kernel
theorem dX6_statement_32 : decode cX6_statement 32 = .ok (.iconst 1, 1) := by decide +kernel
theorem dX6_statement_33 : decode cX6_statement 33 = .ok (.iconst 5, 1) := by decide +kernel
theorem dX6_statement_34 : decode cX6_statement 34 = .ok (.invokevirtual 171, 3) := by decide +kernel
theorem dX6_statement_37 : decode cX6_statement 37 = .ok (.ifCond .ne 5, 3) := by decide +kernel
theorem dX6_statement_40 : decode cX6_statement 40 = .ok (.iconst 0, 1) := by decide +kernel
theorem dX6_statement_41 : decode cX6_statement 41 = .ok (.ireturn, 1) := by decide +kernel
theorem dX6_statement_42 : decode cX6_statement 42 = .ok (.aload_n 0, 1) := by decide +kernel
theorem dX6_statement_43 : decode cX6_statement 43 = .ok (.aload_n 0, 1) := by decide +kernel
theorem dX6_statement_44 : decode cX6_statement 44 = .ok (.getfield 150, 3) := by decide +kernel
theorem dX6_statement_47 : decode cX6_statement 47 = .ok (.putfield 59, 3) := by decide +kernel
theorem dX6_statement_50 : decode cX6_statement 50 = .ok (.aload_n 0, 1) := by decide +kernel
theorem dX6_statement_51 : decode cX6_statement 51 = .ok (.invokevirtual 163, 3) := by decide +kernel
theorem dX6_statement_54 : decode cX6_statement 54 = .ok (.iconst 1, 1) := by decide +kernel
theorem dX6_statement_55 : decode cX6_statement 55 = .ok (.ireturn, 1) := by decide +kernel
theorem dX6_statement_56 : decode cX6_statement 56 = .ok (.iload_n 1, 1) := by decide +kernel
theorem dX6_statement_57 : decode cX6_statement 57 = .ok (.ifCond .eq 37, 3) := by decide +kernel
theorem dX6_statement_60 : decode cX6_statement 60 = .ok (.aload_n 0, 1) := by decide +kernel
theorem dX6_statement_61 : decode cX6_statement 61 = .ok (.ldc 174, 2) := by decide +kernel
theorem dX6_statement_63 : decode cX6_statement 63 = .ok (.invokevirtual 167, 3) := by decide +kernel
theorem dX6_statement_66 : decode cX6_statement 66 = .ok (.ifCond .eq 28, 3) := by decide +kernel
theorem dX6_statement_69 : decode cX6_statement 69 = .ok (.aload_n 0, 1) := by decide +kernel
theorem dX6_statement_70 : decode cX6_statement 70 = .ok (.iconst 1, 1) := by decide +kernel
theorem dX6_statement_71 : decode cX6_statement 71 = .ok (.iconst 4, 1) := by decide +kernel
theorem dX6_statement_72 : decode cX6_statement 72 = .ok (.invokevirtual 171, 3) := by decide +kernel
theorem dX6_statement_75 : decode cX6_statement 75 = .ok (.ifCond .ne 5, 3) := by decide +kernel
theorem dX6_statement_78 : decode cX6_statement 78 = .ok (.iconst 0, 1) := by decide +kernel
theorem dX6_statement_79 : decode cX6_statement 79 = .ok (.ireturn, 1) := by decide +kernel
theorem dX6_statement_80 : decode cX6_statement 80 = .ok (.aload_n 0, 1) := by decide +kernel
theorem dX6_statement_81 : decode cX6_statement 81 = .ok (.aload_n 0, 1) := by decide +kernel
theorem dX6_statement_82 : decode cX6_statement 82 = .ok (.getfield 150, 3) := by decide +kernel
theorem dX6_statement_85 : decode cX6_statement 85 = .ok (.putfield 63, 3) := by decide +kernel
theorem dX6_statement_88 : decode cX6_statement 88 = .ok (.aload_n 0, 1) := by decide +kernel
theorem dX6_statement_89 : decode cX6_statement 89 = .ok (.invokevirtual 163, 3) := by decide +kernel
theorem dX6_statement_92 : decode cX6_statement 92 = .ok (.iconst 1, 1) := by decide +kernel
theorem dX6_statement_93 : decode cX6_statement 93 = .ok (.ireturn, 1) := by decide +kernel
theorem dX6_statement_94 : decode cX6_statement 94 = .ok (.aload_n 0, 1) := by decide +kernel
theorem dX6_statement_95 : decode cX6_statement 95 = .ok (.ldc 175, 2) := by decide +kernel
theorem dX6_statement_97 : decode cX6_statement 97 = .ok (.invokevirtual 167, 3) := by decide +kernel
theorem dX6_statement_100 : decode cX6_statement 100 = .ok (.ifCond .eq 29, 3) := by decide +kernel
theorem dX6_statement_103 : decode cX6_statement 103 = .ok (.aload_n 0, 1) := by decide +kernel
theorem dX6_statement_104 : decode cX6_statement 104 = .ok (.iconst 1, 1) := by decide +kernel
theorem dX6_statement_105 : decode cX6_statement 105 = .ok (.bipush 20, 2) := by decide +kernel
theorem dX6_statement_107 : decode cX6_statement 107 = .ok (.invokevirtual 171, 3) := by decide +kernel
theorem dX6_statement_110 : decode cX6_statement 110 = .ok (.ifCond .ne 5, 3) := by decide +kernel
theorem dX6_statement_113 : decode cX6_statement 113 = .ok (.iconst 0, 1) := by decide +kernel
theorem dX6_statement_114 : decode cX6_statement 114 = .ok (.ireturn, 1) := by decide +kernel
theorem dX6_statement_115 : decode cX6_statement 115 = .ok (.aload_n 0, 1) := by decide +kernel
theorem dX6_statement_116 : decode cX6_statement 116 = .ok (.aload_n 0, 1) := by decide +kernel
theorem dX6_statement_117 : decode cX6_statement 117 = .ok (.getfield 150, 3) := by decide +kernel
theorem dX6_statement_120 : decode cX6_statement 120 = .ok (.putfield 66, 3) := by decide +kernel
theorem dX6_statement_123 : decode cX6_statement 123 = .ok (.aload_n 0, 1) := by decide +kernel
theorem dX6_statement_124 : decode cX6_statement 124 = .ok (.invokevirtual 163, 3) := by decide +kernel
theorem dX6_statement_127 : decode cX6_statement 127 = .ok (.iconst 1, 1) := by decide +kernel
theorem dX6_statement_128 : decode cX6_statement 128 = .ok (.ireturn, 1) := by decide +kernel
theorem dX6_statement_129 : decode cX6_statement 129 = .ok (.aload_n 0, 1) := by decide +kernel
theorem dX6_statement_130 : decode cX6_statement 130 = .ok (.getfield 72, 3) := by decide +kernel
theorem dX6_statement_133 : decode cX6_statement 133 = .ok (.bipush 6, 2) := by decide +kernel
theorem dX6_statement_135 : decode cX6_statement 135 = .ok (.if_icmp .ge 118, 3) := by decide +kernel
theorem dX6_statement_138 : decode cX6_statement 138 = .ok (.aload_n 0, 1) := by decide +kernel
theorem dX6_statement_139 : decode cX6_statement 139 = .ok (.ldc 176, 2) := by decide +kernel
theorem dX6_statement_141 : decode cX6_statement 141 = .ok (.invokevirtual 167, 3) := by decide +kernel
theorem dX6_statement_144 : decode cX6_statement 144 = .ok (.ifCond .eq 109, 3) := by decide +kernel
theorem dX6_statement_147 : decode cX6_statement 147 = .ok (.aload_n 0, 1) := by decide +kernel
theorem dX6_statement_148 : decode cX6_statement 148 = .ok (.iconst 0, 1) := by decide +kernel
theorem dX6_statement_149 : decode cX6_statement 149 = .ok (.iconst 5, 1) := by decide +kernel
theorem dX6_statement_150 : decode cX6_statement 150 = .ok (.invokevirtual 171, 3) := by decide +kernel
theorem dX6_statement_153 : decode cX6_statement 153 = .ok (.ifCond .ne 5, 3) := by decide +kernel
theorem dX6_statement_156 : decode cX6_statement 156 = .ok (.iconst 0, 1) := by decide +kernel
theorem dX6_statement_157 : decode cX6_statement 157 = .ok (.ireturn, 1) := by decide +kernel
theorem dX6_statement_158 : decode cX6_statement 158 = .ok (.aload_n 0, 1) := by decide +kernel
theorem dX6_statement_159 : decode cX6_statement 159 = .ok (.getfield 150, 3) := by decide +kernel
theorem dX6_statement_162 : decode cX6_statement 162 = .ok (.istore_n 2, 1) := by decide +kernel
theorem dX6_statement_163 : decode cX6_statement 163 = .ok (.aload_n 0, 1) := by decide +kernel
theorem dX6_statement_164 : decode cX6_statement 164 = .ok (.iconst 0, 1) := by decide +kernel
theorem dX6_statement_165 : decode cX6_statement 165 = .ok (.bipush 9, 2) := by decide +kernel
theorem dX6_statement_167 : decode cX6_statement 167 = .ok (.invokevirtual 171, 3) := by decide +kernel
theorem dX6_statement_170 : decode cX6_statement 170 = .ok (.ifCond .ne 5, 3) := by decide +kernel
theorem dX6_statement_173 : decode cX6_statement 173 = .ok (.iconst 0, 1) := by decide +kernel
theorem dX6_statement_174 : decode cX6_statement 174 = .ok (.ireturn, 1) := by decide +kernel
theorem dX6_statement_175 : decode cX6_statement 175 = .ok (.aload_n 0, 1) := by decide +kernel
theorem dX6_statement_176 : decode cX6_statement 176 = .ok (.iload_n 2, 1) := by decide +kernel
theorem dX6_statement_177 : decode cX6_statement 177 = .ok (.aload_n 0, 1) := by decide +kernel
theorem dX6_statement_178 : decode cX6_statement 178 = .ok (.getfield 150, 3) := by decide +kernel
theorem dX6_statement_181 : decode cX6_statement 181 = .ok (.invokevirtual 112, 3) := by decide +kernel
theorem dX6_statement_184 : decode cX6_statement 184 = .ok (.istore_n 3, 1) := by decide +kernel
theorem dX6_statement_185 : decode cX6_statement 185 = .ok (.aload_n 0, 1) := by decide +kernel
theorem dX6_statement_186 : decode cX6_statement 186 = .ok (.invokevirtual 163, 3) := by decide +kernel
theorem dX6_statement_189 : decode cX6_statement 189 = .ok (.aload_n 0, 1) := by decide +kernel
theorem dX6_statement_190 : decode cX6_statement 190 = .ok (.ldc 178, 2) := by decide +kernel
theorem dX6_statement_192 : decode cX6_statement 192 = .ok (.invokevirtual 167, 3) := by decide +kernel
theorem dX6_statement_195 : decode cX6_statement 195 = .ok (.ifCond .ne 5, 3) := by decide +kernel
theorem dX6_statement_198 : decode cX6_statement 198 = .ok (.iconst 1, 1) := by decide +kernel
theorem dX6_statement_199 : decode cX6_statement 199 = .ok (.ireturn, 1) := by decide +kernel
theorem dX6_statement_200 : decode cX6_statement 200 = .ok (.iconst 0, 1) := by decide +kernel
theorem dX6_statement_201 : decode cX6_statement 201 = .ok (.istore 4, 2) := by decide +kernel
theorem dX6_statement_203 : decode cX6_statement 203 = .ok (.iload 4, 2) := by decide +kernel
theorem dX6_statement_205 : decode cX6_statement 205 = .ok (.aload_n 0, 1) := by decide +kernel
theorem dX6_statement_206 : decode cX6_statement 206 = .ok (.getfield 59, 3) := by decide +kernel
theorem dX6_statement_209 : decode cX6_statement 209 = .ok (.if_icmp .ge 38, 3) := by decide +kernel
theorem dX6_statement_212 : decode cX6_statement 212 = .ok (.aload_n 0, 1) := by decide +kernel
theorem dX6_statement_213 : decode cX6_statement 213 = .ok (.iconst 0, 1) := by decide +kernel
theorem dX6_statement_214 : decode cX6_statement 214 = .ok (.aload_n 0, 1) := by decide +kernel
theorem dX6_statement_215 : decode cX6_statement 215 = .ok (.getfield 63, 3) := by decide +kernel
theorem dX6_statement_218 : decode cX6_statement 218 = .ok (.invokevirtual 171, 3) := by decide +kernel
theorem dX6_statement_221 : decode cX6_statement 221 = .ok (.ifCond .ne 5, 3) := by decide +kernel
theorem dX6_statement_224 : decode cX6_statement 224 = .ok (.iconst 0, 1) := by decide +kernel
theorem dX6_statement_225 : decode cX6_statement 225 = .ok (.ireturn, 1) := by decide +kernel
theorem dX6_statement_226 : decode cX6_statement 226 = .ok (.aload_n 0, 1) := by decide +kernel
theorem dX6_statement_227 : decode cX6_statement 227 = .ok (.getfield 29, 3) := by decide +kernel
theorem dX6_statement_230 : decode cX6_statement 230 = .ok (.iconst 5, 1) := by decide +kernel
theorem dX6_statement_231 : decode cX6_statement 231 = .ok (.iload_n 3, 1) := by decide +kernel
theorem dX6_statement_232 : decode cX6_statement 232 = .ok (.imul, 1) := by decide +kernel
theorem dX6_statement_233 : decode cX6_statement 233 = .ok (.iload 4, 2) := by decide +kernel
theorem dX6_statement_235 : decode cX6_statement 235 = .ok (.iadd, 1) := by decide +kernel
theorem dX6_statement_236 : decode cX6_statement 236 = .ok (.aload_n 0, 1) := by decide +kernel
theorem dX6_statement_237 : decode cX6_statement 237 = .ok (.getfield 150, 3) := by decide +kernel
theorem dX6_statement_240 : decode cX6_statement 240 = .ok (.iastore, 1) := by decide +kernel
theorem dX6_statement_241 : decode cX6_statement 241 = .ok (.iinc 4 1, 3) := by decide +kernel
theorem dX6_statement_244 : decode cX6_statement 244 = .ok (.goto (-41), 3) := by decide +kernel
theorem dX6_statement_247 : decode cX6_statement 247 = .ok (.aload_n 0, 1) := by decide +kernel
theorem dX6_statement_248 : decode cX6_statement 248 = .ok (.invokevirtual 163, 3) := by decide +kernel
theorem dX6_statement_251 : decode cX6_statement 251 = .ok (.iconst 1, 1) := by decide +kernel
theorem dX6_statement_252 : decode cX6_statement 252 = .ok (.ireturn, 1) := by decide +kernel
theorem dX6_statement_253 : decode cX6_statement 253 = .ok (.aload_n 0, 1) := by decide +kernel
theorem dX6_statement_254 : decode cX6_statement 254 = .ok (.getfield 79, 3) := by decide +kernel
theorem dX6_statement_257 : decode cX6_statement 257 = .ok (.bipush 8, 2) := by decide +kernel
theorem dX6_statement_259 : decode cX6_statement 259 = .ok (.if_icmp .ge 103, 3) := by decide +kernel
theorem dX6_statement_262 : decode cX6_statement 262 = .ok (.aload_n 0, 1) := by decide +kernel
theorem dX6_statement_263 : decode cX6_statement 263 = .ok (.ldc 179, 2) := by decide +kernel
theorem dX6_statement_265 : decode cX6_statement 265 = .ok (.invokevirtual 167, 3) := by decide +kernel
theorem dX6_statement_268 : decode cX6_statement 268 = .ok (.ifCond .eq 94, 3) := by decide +kernel
theorem dX6_statement_271 : decode cX6_statement 271 = .ok (.aload_n 0, 1) := by decide +kernel
theorem dX6_statement_272 : decode cX6_statement 272 = .ok (.iconst 0, 1) := by decide +kernel
theorem dX6_statement_273 : decode cX6_statement 273 = .ok (.invokevirtual 116, 3) := by decide +kernel
theorem dX6_statement_276 : decode cX6_statement 276 = .ok (.istore_n 2, 1) := by decide +kernel
theorem dX6_statement_277 : decode cX6_statement 277 = .ok (.aload_n 0, 1) := by decide +kernel
theorem dX6_statement_278 : decode cX6_statement 278 = .ok (.invokevirtual 163, 3) := by decide +kernel
theorem dX6_statement_281 : decode cX6_statement 281 = .ok (.aload_n 0, 1) := by decide +kernel
theorem dX6_statement_282 : decode cX6_statement 282 = .ok (.ldc 181, 2) := by decide +kernel
theorem dX6_statement_284 : decode cX6_statement 284 = .ok (.invokevirtual 167, 3) := by decide +kernel
theorem dX6_statement_287 : decode cX6_statement 287 = .ok (.ifCond .eq 51, 3) := by decide +kernel
theorem dX6_statement_290 : decode cX6_statement 290 = .ok (.iconst 0, 1) := by decide +kernel
theorem dX6_statement_291 : decode cX6_statement 291 = .ok (.istore_n 3, 1) := by decide +kernel
theorem dX6_statement_292 : decode cX6_statement 292 = .ok (.iload_n 3, 1) := by decide +kernel
theorem dX6_statement_293 : decode cX6_statement 293 = .ok (.aload_n 0, 1) := by decide +kernel
theorem dX6_statement_294 : decode cX6_statement 294 = .ok (.getfield 59, 3) := by decide +kernel
theorem dX6_statement_297 : decode cX6_statement 297 = .ok (.if_icmp .ge 37, 3) := by decide +kernel
theorem dX6_statement_300 : decode cX6_statement 300 = .ok (.aload_n 0, 1) := by decide +kernel
theorem dX6_statement_301 : decode cX6_statement 301 = .ok (.iconst 0, 1) := by decide +kernel
theorem dX6_statement_302 : decode cX6_statement 302 = .ok (.aload_n 0, 1) := by decide +kernel
theorem dX6_statement_303 : decode cX6_statement 303 = .ok (.getfield 63, 3) := by decide +kernel
theorem dX6_statement_306 : decode cX6_statement 306 = .ok (.invokevirtual 171, 3) := by decide +kernel
theorem dX6_statement_309 : decode cX6_statement 309 = .ok (.ifCond .ne 5, 3) := by decide +kernel
theorem dX6_statement_312 : decode cX6_statement 312 = .ok (.iconst 0, 1) := by decide +kernel
theorem dX6_statement_313 : decode cX6_statement 313 = .ok (.ireturn, 1) := by decide +kernel
theorem dX6_statement_314 : decode cX6_statement 314 = .ok (.aload_n 0, 1) := by decide +kernel
theorem dX6_statement_315 : decode cX6_statement 315 = .ok (.getfield 35, 3) := by decide +kernel
theorem dX6_statement_318 : decode cX6_statement 318 = .ok (.iconst 5, 1) := by decide +kernel
theorem dX6_statement_319 : decode cX6_statement 319 = .ok (.iload_n 2, 1) := by decide +kernel
theorem dX6_statement_320 : decode cX6_statement 320 = .ok (.imul, 1) := by decide +kernel
theorem dX6_statement_321 : decode cX6_statement 321 = .ok (.iload_n 3, 1) := by decide +kernel
theorem dX6_statement_322 : decode cX6_statement 322 = .ok (.iadd, 1) := by decide +kernel
theorem dX6_statement_323 : decode cX6_statement 323 = .ok (.aload_n 0, 1) := by decide +kernel
theorem dX6_statement_324 : decode cX6_statement 324 = .ok (.getfield 150, 3) := by decide +kernel
theorem dX6_statement_327 : decode cX6_statement 327 = .ok (.iastore, 1) := by decide +kernel
theorem dX6_statement_328 : decode cX6_statement 328 = .ok (.iinc 3 1, 3) := by decide +kernel
theorem dX6_statement_331 : decode cX6_statement 331 = .ok (.goto (-39), 3) := by decide +kernel
theorem dX6_statement_334 : decode cX6_statement 334 = .ok (.aload_n 0, 1) := by decide +kernel
theorem dX6_statement_335 : decode cX6_statement 335 = .ok (.invokevirtual 163, 3) := by decide +kernel
theorem dX6_statement_338 : decode cX6_statement 338 = .ok (.aload_n 0, 1) := by decide +kernel
theorem dX6_statement_339 : decode cX6_statement 339 = .ok (.ldc 183, 2) := by decide +kernel
theorem dX6_statement_341 : decode cX6_statement 341 = .ok (.invokevirtual 167, 3) := by decide +kernel
theorem dX6_statement_344 : decode cX6_statement 344 = .ok (.ifCond .ne 5, 3) := by decide +kernel
theorem dX6_statement_347 : decode cX6_statement 347 = .ok (.iconst 1, 1) := by decide +kernel
theorem dX6_statement_348 : decode cX6_statement 348 = .ok (.ireturn, 1) := by decide +kernel
theorem dX6_statement_349 : decode cX6_statement 349 = .ok (.aload_n 0, 1) := by decide +kernel
theorem dX6_statement_350 : decode cX6_statement 350 = .ok (.getfield 32, 3) := by decide +kernel
theorem dX6_statement_353 : decode cX6_statement 353 = .ok (.iload_n 2, 1) := by decide +kernel
theorem dX6_statement_354 : decode cX6_statement 354 = .ok (.iconst 1, 1) := by decide +kernel
theorem dX6_statement_355 : decode cX6_statement 355 = .ok (.iastore, 1) := by decide +kernel
theorem dX6_statement_356 : decode cX6_statement 356 = .ok (.aload_n 0, 1) := by decide +kernel
theorem dX6_statement_357 : decode cX6_statement 357 = .ok (.invokevirtual 163, 3) := by decide +kernel
theorem dX6_statement_360 : decode cX6_statement 360 = .ok (.iconst 1, 1) := by decide +kernel
theorem dX6_statement_361 : decode cX6_statement 361 = .ok (.ireturn, 1) := by decide +kernel
theorem dX6_statement_362 : decode cX6_statement 362 = .ok (.aload_n 0, 1) := by decide +kernel
theorem dX6_statement_363 : decode cX6_statement 363 = .ok (.ldc 184, 2) := by decide +kernel
theorem dX6_statement_365 : decode cX6_statement 365 = .ok (.invokevirtual 167, 3) := by decide +kernel
theorem dX6_statement_368 : decode cX6_statement 368 = .ok (.ifCond .eq 17, 3) := by decide +kernel
theorem dX6_statement_371 : decode cX6_statement 371 = .ok (.aload_n 0, 1) := by decide +kernel
theorem dX6_statement_372 : decode cX6_statement 372 = .ok (.iconst 0, 1) := by decide +kernel
theorem dX6_statement_373 : decode cX6_statement 373 = .ok (.aload_n 0, 1) := by decide +kernel
theorem dX6_statement_374 : decode cX6_statement 374 = .ok (.getfield 72, 3) := by decide +kernel
theorem dX6_statement_377 : decode cX6_statement 377 = .ok (.iconst 1, 1) := by decide +kernel
theorem dX6_statement_378 : decode cX6_statement 378 = .ok (.isub, 1) := by decide +kernel
theorem dX6_statement_379 : decode cX6_statement 379 = .ok (.invokevirtual 171, 3) := by decide +kernel
theorem dX6_statement_382 : decode cX6_statement 382 = .ok (.ifCond .ne 5, 3) := by decide +kernel
theorem dX6_statement_385 : decode cX6_statement 385 = .ok (.iconst 0, 1) := by decide +kernel
theorem dX6_statement_386 : decode cX6_statement 386 = .ok (.ireturn, 1) := by decide +kernel
theorem dX6_statement_387 : decode cX6_statement 387 = .ok (.aload_n 0, 1) := by decide +kernel
theorem dX6_statement_388 : decode cX6_statement 388 = .ok (.getfield 150, 3) := by decide +kernel
theorem dX6_statement_391 : decode cX6_statement 391 = .ok (.istore_n 2, 1) := by decide +kernel
theorem dX6_statement_392 : decode cX6_statement 392 = .ok (.aload_n 0, 1) := by decide +kernel
theorem dX6_statement_393 : decode cX6_statement 393 = .ok (.iconst 0, 1) := by decide +kernel
theorem dX6_statement_394 : decode cX6_statement 394 = .ok (.aload_n 0, 1) := by decide +kernel
theorem dX6_statement_395 : decode cX6_statement 395 = .ok (.getfield 79, 3) := by decide +kernel
theorem dX6_statement_398 : decode cX6_statement 398 = .ok (.iconst 1, 1) := by decide +kernel
theorem dX6_statement_399 : decode cX6_statement 399 = .ok (.isub, 1) := by decide +kernel
theorem dX6_statement_400 : decode cX6_statement 400 = .ok (.invokevirtual 171, 3) := by decide +kernel
theorem dX6_statement_403 : decode cX6_statement 403 = .ok (.ifCond .ne 5, 3) := by decide +kernel
theorem dX6_statement_406 : decode cX6_statement 406 = .ok (.iconst 0, 1) := by decide +kernel
theorem dX6_statement_407 : decode cX6_statement 407 = .ok (.ireturn, 1) := by decide +kernel
theorem dX6_statement_408 : decode cX6_statement 408 = .ok (.aload_n 0, 1) := by decide +kernel
theorem dX6_statement_409 : decode cX6_statement 409 = .ok (.getfield 26, 3) := by decide +kernel
theorem dX6_statement_412 : decode cX6_statement 412 = .ok (.iload_n 2, 1) := by decide +kernel
theorem dX6_statement_413 : decode cX6_statement 413 = .ok (.dup2, 1) := by decide +kernel
theorem dX6_statement_414 : decode cX6_statement 414 = .ok (.iaload, 1) := by decide +kernel
theorem dX6_statement_415 : decode cX6_statement 415 = .ok (.iconst 1, 1) := by decide +kernel
theorem dX6_statement_416 : decode cX6_statement 416 = .ok (.aload_n 0, 1) := by decide +kernel
theorem dX6_statement_417 : decode cX6_statement 417 = .ok (.getfield 150, 3) := by decide +kernel
theorem dX6_statement_420 : decode cX6_statement 420 = .ok (.ishl, 1) := by decide +kernel
theorem dX6_statement_421 : decode cX6_statement 421 = .ok (.ior, 1) := by decide +kernel
theorem dX6_statement_422 : decode cX6_statement 422 = .ok (.iastore, 1) := by decide +kernel
theorem dX6_statement_423 : decode cX6_statement 423 = .ok (.aload_n 0, 1) := by decide +kernel
theorem dX6_statement_424 : decode cX6_statement 424 = .ok (.invokevirtual 163, 3) := by decide +kernel
theorem dX6_statement_427 : decode cX6_statement 427 = .ok (.iconst 1, 1) := by decide +kernel
theorem dX6_statement_428 : decode cX6_statement 428 = .ok (.ireturn, 1) := by decide +kernel
theorem dX6_house_0 : decode cX6_house 0 = .ok (.aload_n 0, 1) := by decide +kernel
theorem dX6_house_1 : decode cX6_house 1 = .ok (.aload_n 0, 1) := by decide +kernel
theorem dX6_house_2 : decode cX6_house 2 = .ok (.getfield 47, 3) := by decide +kernel
theorem dX6_house_5 : decode cX6_house 5 = .ok (.invokevirtual 185, 3) := by decide +kernel
theorem dX6_house_8 : decode cX6_house 8 = .ok (.aload_n 0, 1) := by decide +kernel
theorem dX6_house_9 : decode cX6_house 9 = .ok (.iconst 0, 1) := by decide +kernel
theorem dX6_house_10 : decode cX6_house 10 = .ok (.putfield 135, 3) := by decide +kernel
theorem dX6_house_13 : decode cX6_house 13 = .ok (.iconst 0, 1) := by decide +kernel
theorem dX6_house_14 : decode cX6_house 14 = .ok (.istore_n 1, 1) := by decide +kernel
theorem dX6_house_15 : decode cX6_house 15 = .ok (.iconst 1, 1) := by decide +kernel
theorem dX6_house_16 : decode cX6_house 16 = .ok (.istore_n 2, 1) := by decide +kernel
theorem dX6_house_17 : decode cX6_house 17 = .ok (.iload_n 2, 1) := by decide +kernel
theorem dX6_house_18 : decode cX6_house 18 = .ok (.ifCond .eq 58, 3) := by decide +kernel
theorem dX6_house_21 : decode cX6_house 21 = .ok (.aload_n 0, 1) := by decide +kernel
theorem dX6_house_22 : decode cX6_house 22 = .ok (.invokevirtual 163, 3) := by decide +kernel
theorem dX6_house_25 : decode cX6_house 25 = .ok (.aload_n 0, 1) := by decide +kernel
theorem dX6_house_26 : decode cX6_house 26 = .ok (.invokevirtual 189, 3) := by decide +kernel
theorem dX6_house_29 : decode cX6_house 29 = .ok (.istore_n 2, 1) := by decide +kernel
theorem dX6_house_30 : decode cX6_house 30 = .ok (.iload_n 2, 1) := by decide +kernel
theorem dX6_house_31 : decode cX6_house 31 = .ok (.ifCond .eq 6, 3) := by decide +kernel
theorem dX6_house_34 : decode cX6_house 34 = .ok (.iinc 1 1, 3) := by decide +kernel
theorem dX6_house_37 : decode cX6_house 37 = .ok (.iload_n 2, 1) := by decide +kernel
theorem dX6_house_38 : decode cX6_house 38 = .ok (.ifCond .eq 17, 3) := by decide +kernel
theorem dX6_house_41 : decode cX6_house 41 = .ok (.aload_n 0, 1) := by decide +kernel
theorem dX6_house_42 : decode cX6_house 42 = .ok (.getfield 141, 3) := by decide +kernel
theorem dX6_house_45 : decode cX6_house 45 = .ok (.ifCond .ne 10, 3) := by decide +kernel
theorem dX6_house_48 : decode cX6_house 48 = .ok (.aload_n 0, 1) := by decide +kernel
theorem dX6_house_49 : decode cX6_house 49 = .ok (.iconst 0, 1) := by decide +kernel
theorem dX6_house_50 : decode cX6_house 50 = .ok (.putfield 132, 3) := by decide +kernel
theorem dX6_house_53 : decode cX6_house 53 = .ok (.iload_n 1, 1) := by decide +kernel
theorem dX6_house_54 : decode cX6_house 54 = .ok (.ireturn, 1) := by decide +kernel
theorem dX6_house_55 : decode cX6_house 55 = .ok (.iload_n 2, 1) := by decide +kernel
theorem dX6_house_56 : decode cX6_house 56 = .ok (.ifCond .eq 15, 3) := by decide +kernel
theorem dX6_house_59 : decode cX6_house 59 = .ok (.aload_n 0, 1) := by decide +kernel
theorem dX6_house_60 : decode cX6_house 60 = .ok (.getfield 141, 3) := by decide +kernel
theorem dX6_house_63 : decode cX6_house 63 = .ok (.iconst 3, 1) := by decide +kernel
theorem dX6_house_64 : decode cX6_house 64 = .ok (.if_icmp .ne 7, 3) := by decide +kernel
theorem dX6_house_67 : decode cX6_house 67 = .ok (.iconst 1, 1) := by decide +kernel
theorem dX6_house_68 : decode cX6_house 68 = .ok (.goto 4, 3) := by decide +kernel
theorem dX6_house_71 : decode cX6_house 71 = .ok (.iconst 0, 1) := by decide +kernel
theorem dX6_house_72 : decode cX6_house 72 = .ok (.istore_n 2, 1) := by decide +kernel
theorem dX6_house_73 : decode cX6_house 73 = .ok (.goto (-56), 3) := by decide +kernel
theorem dX6_house_76 : decode cX6_house 76 = .ok (.aload_n 0, 1) := by decide +kernel
theorem dX6_house_77 : decode cX6_house 77 = .ok (.aload_n 0, 1) := by decide +kernel
theorem dX6_house_78 : decode cX6_house 78 = .ok (.getfield 47, 3) := by decide +kernel
theorem dX6_house_81 : decode cX6_house 81 = .ok (.invokevirtual 193, 3) := by decide +kernel
theorem dX6_house_84 : decode cX6_house 84 = .ok (.aload_n 0, 1) := by decide +kernel
theorem dX6_house_85 : decode cX6_house 85 = .ok (.iconst 0, 1) := by decide +kernel
theorem dX6_house_86 : decode cX6_house 86 = .ok (.putfield 132, 3) := by decide +kernel
theorem dX6_house_89 : decode cX6_house 89 = .ok (.aload_n 0, 1) := by decide +kernel
theorem dX6_house_90 : decode cX6_house 90 = .ok (.bipush (-2), 2) := by decide +kernel
theorem dX6_house_92 : decode cX6_house 92 = .ok (.invokevirtual 82, 3) := by decide +kernel
theorem dX6_house_95 : decode cX6_house 95 = .ok (.pop, 1) := by decide +kernel
theorem dX6_house_96 : decode cX6_house 96 = .ok (.bipush (-20), 2) := by decide +kernel
theorem dX6_house_98 : decode cX6_house 98 = .ok (.aload_n 0, 1) := by decide +kernel
theorem dX6_house_99 : decode cX6_house 99 = .ok (.getfield 138, 3) := by decide +kernel
theorem dX6_house_102 : decode cX6_house 102 = .ok (.isub, 1) := by decide +kernel
theorem dX6_house_103 : decode cX6_house 103 = .ok (.ireturn, 1) := by decide +kernel
theorem dX6_depth_0 : decode cX6_depth 0 = .ok (.aload_n 0, 1) := by decide +kernel
theorem dX6_depth_1 : decode cX6_depth 1 = .ok (.getfield 29, 3) := by decide +kernel
theorem dX6_depth_4 : decode cX6_depth 4 = .ok (.iconst 5, 1) := by decide +kernel
theorem dX6_depth_5 : decode cX6_depth 5 = .ok (.iload_n 1, 1) := by decide +kernel
theorem dX6_depth_6 : decode cX6_depth 6 = .ok (.imul, 1) := by decide +kernel
theorem dX6_depth_7 : decode cX6_depth 7 = .ok (.iload_n 2, 1) := by decide +kernel
theorem dX6_depth_8 : decode cX6_depth 8 = .ok (.iadd, 1) := by decide +kernel
theorem dX6_depth_9 : decode cX6_depth 9 = .ok (.iaload, 1) := by decide +kernel
theorem dX6_depth_10 : decode cX6_depth 10 = .ok (.istore_n 3, 1) := by decide +kernel
theorem dX6_depth_11 : decode cX6_depth 11 = .ok (.aload_n 0, 1) := by decide +kernel
theorem dX6_depth_12 : decode cX6_depth 12 = .ok (.getfield 20, 3) := by decide +kernel
theorem dX6_depth_15 : decode cX6_depth 15 = .ok (.iload_n 1, 1) := by decide +kernel
theorem dX6_depth_16 : decode cX6_depth 16 = .ok (.iaload, 1) := by decide +kernel
theorem dX6_depth_17 : decode cX6_depth 17 = .ok (.iconst 1, 1) := by decide +kernel
theorem dX6_depth_18 : decode cX6_depth 18 = .ok (.if_icmp .ne 31, 3) := by decide +kernel
theorem dX6_depth_21 : decode cX6_depth 21 = .ok (.aload_n 0, 1) := by decide +kernel
theorem dX6_depth_22 : decode cX6_depth 22 = .ok (.getfield 23, 3) := by decide +kernel
theorem dX6_depth_25 : decode cX6_depth 25 = .ok (.iload_n 1, 1) := by decide +kernel
theorem dX6_depth_26 : decode cX6_depth 26 = .ok (.iaload, 1) := by decide +kernel
theorem dX6_depth_27 : decode cX6_depth 27 = .ok (.aload_n 0, 1) := by decide +kernel
theorem dX6_depth_28 : decode cX6_depth 28 = .ok (.getfield 59, 3) := by decide +kernel
theorem dX6_depth_31 : decode cX6_depth 31 = .ok (.irem, 1) := by decide +kernel
theorem dX6_depth_32 : decode cX6_depth 32 = .ok (.iload_n 2, 1) := by decide +kernel
theorem dX6_depth_33 : decode cX6_depth 33 = .ok (.if_icmp .ne 16, 3) := by decide +kernel
theorem dX6_depth_36 : decode cX6_depth 36 = .ok (.aload_n 0, 1) := by decide +kernel
theorem dX6_depth_37 : decode cX6_depth 37 = .ok (.getfield 63, 3) := by decide +kernel
theorem dX6_depth_40 : decode cX6_depth 40 = .ok (.iload_n 3, 1) := by decide +kernel
theorem dX6_depth_41 : decode cX6_depth 41 = .ok (.iconst 1, 1) := by decide +kernel
theorem dX6_depth_42 : decode cX6_depth 42 = .ok (.iadd, 1) := by decide +kernel
theorem dX6_depth_43 : decode cX6_depth 43 = .ok (.invokestatic 196, 3) := by decide +kernel
theorem dX6_depth_46 : decode cX6_depth 46 = .ok (.goto 4, 3) := by decide +kernel
theorem dX6_depth_49 : decode cX6_depth 49 = .ok (.iload_n 3, 1) := by decide +kernel
theorem dX6_depth_50 : decode cX6_depth 50 = .ok (.ireturn, 1) := by decide +kernel
theorem dX6_gone_0 : decode cX6_gone 0 = .ok (.iconst 0, 1) := by decide +kernel
theorem dX6_gone_1 : decode cX6_gone 1 = .ok (.istore_n 2, 1) := by decide +kernel
theorem dX6_gone_2 : decode cX6_gone 2 = .ok (.iconst 0, 1) := by decide +kernel
theorem dX6_gone_3 : decode cX6_gone 3 = .ok (.istore_n 3, 1) := by decide +kernel
theorem dX6_gone_4 : decode cX6_gone 4 = .ok (.iload_n 3, 1) := by decide +kernel
theorem dX6_gone_5 : decode cX6_gone 5 = .ok (.aload_n 0, 1) := by decide +kernel
theorem dX6_gone_6 : decode cX6_gone 6 = .ok (.getfield 59, 3) := by decide +kernel
theorem dX6_gone_9 : decode cX6_gone 9 = .ok (.if_icmp .ge 22, 3) := by decide +kernel
theorem dX6_gone_12 : decode cX6_gone 12 = .ok (.iload_n 2, 1) := by decide +kernel
theorem dX6_gone_13 : decode cX6_gone 13 = .ok (.aload_n 0, 1) := by decide +kernel
theorem dX6_gone_14 : decode cX6_gone 14 = .ok (.getfield 29, 3) := by decide +kernel
theorem dX6_gone_17 : decode cX6_gone 17 = .ok (.iconst 5, 1) := by decide +kernel
theorem dX6_gone_18 : decode cX6_gone 18 = .ok (.iload_n 1, 1) := by decide +kernel
theorem dX6_gone_19 : decode cX6_gone 19 = .ok (.imul, 1) := by decide +kernel
theorem dX6_gone_20 : decode cX6_gone 20 = .ok (.iload_n 3, 1) := by decide +kernel
theorem dX6_gone_21 : decode cX6_gone 21 = .ok (.iadd, 1) := by decide +kernel
theorem dX6_gone_22 : decode cX6_gone 22 = .ok (.iaload, 1) := by decide +kernel
theorem dX6_gone_23 : decode cX6_gone 23 = .ok (.iadd, 1) := by decide +kernel
theorem dX6_gone_24 : decode cX6_gone 24 = .ok (.istore_n 2, 1) := by decide +kernel
theorem dX6_gone_25 : decode cX6_gone 25 = .ok (.iinc 3 1, 3) := by decide +kernel
theorem dX6_gone_28 : decode cX6_gone 28 = .ok (.goto (-24), 3) := by decide +kernel
theorem dX6_gone_31 : decode cX6_gone 31 = .ok (.iload_n 2, 1) := by decide +kernel
theorem dX6_gone_32 : decode cX6_gone 32 = .ok (.ireturn, 1) := by decide +kernel
theorem dX6_bears_0 : decode cX6_bears 0 = .ok (.aload_n 0, 1) := by decide +kernel
theorem dX6_bears_1 : decode cX6_bears 1 = .ok (.getfield 20, 3) := by decide +kernel
theorem dX6_bears_4 : decode cX6_bears 4 = .ok (.iload_n 1, 1) := by decide +kernel
theorem dX6_bears_5 : decode cX6_bears 5 = .ok (.iaload, 1) := by decide +kernel
theorem dX6_bears_6 : decode cX6_bears 6 = .ok (.iconst 2, 1) := by decide +kernel
theorem dX6_bears_7 : decode cX6_bears 7 = .ok (.if_icmp .eq 13, 3) := by decide +kernel
theorem dX6_bears_10 : decode cX6_bears 10 = .ok (.aload_n 0, 1) := by decide +kernel
theorem dX6_bears_11 : decode cX6_bears 11 = .ok (.getfield 20, 3) := by decide +kernel
theorem dX6_bears_14 : decode cX6_bears 14 = .ok (.iload_n 1, 1) := by decide +kernel
theorem dX6_bears_15 : decode cX6_bears 15 = .ok (.iaload, 1) := by decide +kernel
theorem dX6_bears_16 : decode cX6_bears 16 = .ok (.iconst 4, 1) := by decide +kernel
theorem dX6_bears_17 : decode cX6_bears 17 = .ok (.if_icmp .ne 21, 3) := by decide +kernel
theorem dX6_bears_20 : decode cX6_bears 20 = .ok (.iconst 0, 1) := by decide +kernel
theorem dX6_bears_21 : decode cX6_bears 21 = .ok (.aload_n 0, 1) := by decide +kernel
theorem dX6_bears_22 : decode cX6_bears 22 = .ok (.getfield 66, 3) := by decide +kernel
theorem dX6_bears_25 : decode cX6_bears 25 = .ok (.aload_n 0, 1) := by decide +kernel
theorem dX6_bears_26 : decode cX6_bears 26 = .ok (.getfield 23, 3) := by decide +kernel
theorem dX6_bears_29 : decode cX6_bears 29 = .ok (.iload_n 1, 1) := by decide +kernel
theorem dX6_bears_30 : decode cX6_bears 30 = .ok (.iaload, 1) := by decide +kernel
theorem dX6_bears_31 : decode cX6_bears 31 = .ok (.isub, 1) := by decide +kernel
theorem dX6_bears_32 : decode cX6_bears 32 = .ok (.invokestatic 201, 3) := by decide +kernel
theorem dX6_bears_35 : decode cX6_bears 35 = .ok (.goto 7, 3) := by decide +kernel
theorem dX6_bears_38 : decode cX6_bears 38 = .ok (.aload_n 0, 1) := by decide +kernel
theorem dX6_bears_39 : decode cX6_bears 39 = .ok (.getfield 66, 3) := by decide +kernel
theorem dX6_bears_42 : decode cX6_bears 42 = .ok (.ireturn, 1) := by decide +kernel
theorem dX6_broken_0 : decode cX6_broken 0 = .ok (.aload_n 0, 1) := by decide +kernel
theorem dX6_broken_1 : decode cX6_broken 1 = .ok (.iload_n 1, 1) := by decide +kernel
theorem dX6_broken_2 : decode cX6_broken 2 = .ok (.invokevirtual 100, 3) := by decide +kernel
theorem dX6_broken_5 : decode cX6_broken 5 = .ok (.aload_n 0, 1) := by decide +kernel
theorem dX6_broken_6 : decode cX6_broken 6 = .ok (.iload_n 1, 1) := by decide +kernel
theorem dX6_broken_7 : decode cX6_broken 7 = .ok (.invokevirtual 109, 3) := by decide +kernel
theorem dX6_broken_10 : decode cX6_broken 10 = .ok (.if_icmp .le 7, 3) := by decide +kernel
theorem dX6_broken_13 : decode cX6_broken 13 = .ok (.iconst 1, 1) := by decide +kernel
theorem dX6_broken_14 : decode cX6_broken 14 = .ok (.goto 4, 3) := by decide +kernel
theorem dX6_broken_17 : decode cX6_broken 17 = .ok (.iconst 0, 1) := by decide +kernel
theorem dX6_broken_18 : decode cX6_broken 18 = .ok (.ireturn, 1) := by decide +kernel
theorem dX6_fits_0 : decode cX6_fits 0 = .ok (.iconst 0, 1) := by decide +kernel
theorem dX6_fits_1 : decode cX6_fits 1 = .ok (.istore_n 3, 1) := by decide +kernel
theorem dX6_fits_2 : decode cX6_fits 2 = .ok (.iload_n 3, 1) := by decide +kernel
theorem dX6_fits_3 : decode cX6_fits 3 = .ok (.aload_n 0, 1) := by decide +kernel
theorem dX6_fits_4 : decode cX6_fits 4 = .ok (.getfield 59, 3) := by decide +kernel
theorem dX6_fits_7 : decode cX6_fits 7 = .ok (.if_icmp .ge 30, 3) := by decide +kernel
theorem dX6_fits_10 : decode cX6_fits 10 = .ok (.aload_n 0, 1) := by decide +kernel
theorem dX6_fits_11 : decode cX6_fits 11 = .ok (.iload_n 1, 1) := by decide +kernel
theorem dX6_fits_12 : decode cX6_fits 12 = .ok (.iload_n 3, 1) := by decide +kernel
theorem dX6_fits_13 : decode cX6_fits 13 = .ok (.invokevirtual 204, 3) := by decide +kernel
theorem dX6_fits_16 : decode cX6_fits 16 = .ok (.aload_n 0, 1) := by decide +kernel
theorem dX6_fits_17 : decode cX6_fits 17 = .ok (.getfield 35, 3) := by decide +kernel
theorem dX6_fits_20 : decode cX6_fits 20 = .ok (.iconst 5, 1) := by decide +kernel
theorem dX6_fits_21 : decode cX6_fits 21 = .ok (.iload_n 2, 1) := by decide +kernel
theorem dX6_fits_22 : decode cX6_fits 22 = .ok (.imul, 1) := by decide +kernel
theorem dX6_fits_23 : decode cX6_fits 23 = .ok (.iload_n 3, 1) := by decide +kernel
theorem dX6_fits_24 : decode cX6_fits 24 = .ok (.iadd, 1) := by decide +kernel
theorem dX6_fits_25 : decode cX6_fits 25 = .ok (.iaload, 1) := by decide +kernel
theorem dX6_fits_26 : decode cX6_fits 26 = .ok (.if_icmp .ge 5, 3) := by decide +kernel
theorem dX6_fits_29 : decode cX6_fits 29 = .ok (.iconst 0, 1) := by decide +kernel
theorem dX6_fits_30 : decode cX6_fits 30 = .ok (.ireturn, 1) := by decide +kernel
theorem dX6_fits_31 : decode cX6_fits 31 = .ok (.iinc 3 1, 3) := by decide +kernel
theorem dX6_fits_34 : decode cX6_fits 34 = .ok (.goto (-32), 3) := by decide +kernel
theorem dX6_fits_37 : decode cX6_fits 37 = .ok (.iconst 1, 1) := by decide +kernel
theorem dX6_fits_38 : decode cX6_fits 38 = .ok (.ireturn, 1) := by decide +kernel
theorem dX6_opensSo_0 : decode cX6_opensSo 0 = .ok (.aload_n 0, 1) := by decide +kernel
theorem dX6_opensSo_1 : decode cX6_opensSo 1 = .ok (.iload_n 1, 1) := by decide +kernel
theorem dX6_opensSo_2 : decode cX6_opensSo 2 = .ok (.iload_n 2, 1) := by decide +kernel
theorem dX6_opensSo_3 : decode cX6_opensSo 3 = .ok (.invokevirtual 207, 3) := by decide +kernel
theorem dX6_opensSo_6 : decode cX6_opensSo 6 = .ok (.ifCond .eq 44, 3) := by decide +kernel
theorem dX6_opensSo_9 : decode cX6_opensSo 9 = .ok (.aload_n 0, 1) := by decide +kernel
theorem dX6_opensSo_10 : decode cX6_opensSo 10 = .ok (.iload_n 1, 1) := by decide +kernel
theorem dX6_opensSo_11 : decode cX6_opensSo 11 = .ok (.invokevirtual 210, 3) := by decide +kernel
theorem dX6_opensSo_14 : decode cX6_opensSo 14 = .ok (.ifCond .ne 36, 3) := by decide +kernel
theorem dX6_opensSo_17 : decode cX6_opensSo 17 = .ok (.aload_n 0, 1) := by decide +kernel
theorem dX6_opensSo_18 : decode cX6_opensSo 18 = .ok (.getfield 32, 3) := by decide +kernel
theorem dX6_opensSo_21 : decode cX6_opensSo 21 = .ok (.iload_n 2, 1) := by decide +kernel
theorem dX6_opensSo_22 : decode cX6_opensSo 22 = .ok (.iaload, 1) := by decide +kernel
theorem dX6_opensSo_23 : decode cX6_opensSo 23 = .ok (.ifCond .eq 23, 3) := by decide +kernel
theorem dX6_opensSo_26 : decode cX6_opensSo 26 = .ok (.aload_n 0, 1) := by decide +kernel
theorem dX6_opensSo_27 : decode cX6_opensSo 27 = .ok (.getfield 20, 3) := by decide +kernel
theorem dX6_opensSo_30 : decode cX6_opensSo 30 = .ok (.iload_n 1, 1) := by decide +kernel
theorem dX6_opensSo_31 : decode cX6_opensSo 31 = .ok (.iaload, 1) := by decide +kernel
theorem dX6_opensSo_32 : decode cX6_opensSo 32 = .ok (.iconst 3, 1) := by decide +kernel
theorem dX6_opensSo_33 : decode cX6_opensSo 33 = .ok (.if_icmp .eq 13, 3) := by decide +kernel
theorem dX6_opensSo_36 : decode cX6_opensSo 36 = .ok (.aload_n 0, 1) := by decide +kernel
theorem dX6_opensSo_37 : decode cX6_opensSo 37 = .ok (.getfield 20, 3) := by decide +kernel
theorem dX6_opensSo_40 : decode cX6_opensSo 40 = .ok (.iload_n 1, 1) := by decide +kernel
theorem dX6_opensSo_41 : decode cX6_opensSo 41 = .ok (.iaload, 1) := by decide +kernel
theorem dX6_opensSo_42 : decode cX6_opensSo 42 = .ok (.iconst 5, 1) := by decide +kernel
theorem dX6_opensSo_43 : decode cX6_opensSo 43 = .ok (.if_icmp .ne 7, 3) := by decide +kernel
theorem dX6_opensSo_46 : decode cX6_opensSo 46 = .ok (.iconst 1, 1) := by decide +kernel
theorem dX6_opensSo_47 : decode cX6_opensSo 47 = .ok (.goto 4, 3) := by decide +kernel
theorem dX6_opensSo_50 : decode cX6_opensSo 50 = .ok (.iconst 0, 1) := by decide +kernel
theorem dX6_opensSo_51 : decode cX6_opensSo 51 = .ok (.ireturn, 1) := by decide +kernel
theorem dX6_opensIt_0 : decode cX6_opensIt 0 = .ok (.aload_n 0, 1) := by decide +kernel
theorem dX6_opensIt_1 : decode cX6_opensIt 1 = .ok (.iload_n 1, 1) := by decide +kernel
theorem dX6_opensIt_2 : decode cX6_opensIt 2 = .ok (.iload_n 2, 1) := by decide +kernel
theorem dX6_opensIt_3 : decode cX6_opensIt 3 = .ok (.invokevirtual 213, 3) := by decide +kernel
theorem dX6_opensIt_6 : decode cX6_opensIt 6 = .ok (.ifCond .eq 5, 3) := by decide +kernel
theorem dX6_opensIt_9 : decode cX6_opensIt 9 = .ok (.iconst 1, 1) := by decide +kernel
theorem dX6_opensIt_10 : decode cX6_opensIt 10 = .ok (.ireturn, 1) := by decide +kernel
theorem dX6_opensIt_11 : decode cX6_opensIt 11 = .ok (.aload_n 0, 1) := by decide +kernel
theorem dX6_opensIt_12 : decode cX6_opensIt 12 = .ok (.getfield 20, 3) := by decide +kernel
theorem dX6_opensIt_15 : decode cX6_opensIt 15 = .ok (.iload_n 1, 1) := by decide +kernel
theorem dX6_opensIt_16 : decode cX6_opensIt 16 = .ok (.iaload, 1) := by decide +kernel
theorem dX6_opensIt_17 : decode cX6_opensIt 17 = .ok (.iconst 5, 1) := by decide +kernel
theorem dX6_opensIt_18 : decode cX6_opensIt 18 = .ok (.if_icmp .ne 11, 3) := by decide +kernel
theorem dX6_opensIt_21 : decode cX6_opensIt 21 = .ok (.aload_n 0, 1) := by decide +kernel
theorem dX6_opensIt_22 : decode cX6_opensIt 22 = .ok (.iload_n 1, 1) := by decide +kernel
theorem dX6_opensIt_23 : decode cX6_opensIt 23 = .ok (.invokevirtual 210, 3) := by decide +kernel
theorem dX6_opensIt_26 : decode cX6_opensIt 26 = .ok (.ifCond .eq 5, 3) := by decide +kernel
theorem dX6_opensIt_29 : decode cX6_opensIt 29 = .ok (.iconst 0, 1) := by decide +kernel
theorem dX6_opensIt_30 : decode cX6_opensIt 30 = .ok (.ireturn, 1) := by decide +kernel
theorem dX6_opensIt_31 : decode cX6_opensIt 31 = .ok (.iconst 0, 1) := by decide +kernel
theorem dX6_opensIt_32 : decode cX6_opensIt 32 = .ok (.istore_n 3, 1) := by decide +kernel
theorem dX6_opensIt_33 : decode cX6_opensIt 33 = .ok (.iload_n 3, 1) := by decide +kernel
theorem dX6_opensIt_34 : decode cX6_opensIt 34 = .ok (.aload_n 0, 1) := by decide +kernel
theorem dX6_opensIt_35 : decode cX6_opensIt 35 = .ok (.getfield 72, 3) := by decide +kernel
theorem dX6_opensIt_38 : decode cX6_opensIt 38 = .ok (.if_icmp .ge 29, 3) := by decide +kernel
theorem dX6_opensIt_41 : decode cX6_opensIt 41 = .ok (.aload_n 0, 1) := by decide +kernel
theorem dX6_opensIt_42 : decode cX6_opensIt 42 = .ok (.getfield 20, 3) := by decide +kernel
theorem dX6_opensIt_45 : decode cX6_opensIt 45 = .ok (.iload_n 3, 1) := by decide +kernel
theorem dX6_opensIt_46 : decode cX6_opensIt 46 = .ok (.iaload, 1) := by decide +kernel
theorem dX6_opensIt_47 : decode cX6_opensIt 47 = .ok (.ifCond .ne 14, 3) := by decide +kernel
theorem dX6_opensIt_50 : decode cX6_opensIt 50 = .ok (.aload_n 0, 1) := by decide +kernel
theorem dX6_opensIt_51 : decode cX6_opensIt 51 = .ok (.iload_n 3, 1) := by decide +kernel
theorem dX6_opensIt_52 : decode cX6_opensIt 52 = .ok (.iload_n 2, 1) := by decide +kernel
theorem dX6_opensIt_53 : decode cX6_opensIt 53 = .ok (.invokevirtual 213, 3) := by decide +kernel
theorem dX6_opensIt_56 : decode cX6_opensIt 56 = .ok (.ifCond .eq 5, 3) := by decide +kernel
theorem dX6_opensIt_59 : decode cX6_opensIt 59 = .ok (.iconst 1, 1) := by decide +kernel
theorem dX6_opensIt_60 : decode cX6_opensIt 60 = .ok (.ireturn, 1) := by decide +kernel
theorem dX6_opensIt_61 : decode cX6_opensIt 61 = .ok (.iinc 3 1, 3) := by decide +kernel
theorem dX6_opensIt_64 : decode cX6_opensIt 64 = .ok (.goto (-31), 3) := by decide +kernel
theorem dX6_opensIt_67 : decode cX6_opensIt 67 = .ok (.iconst 0, 1) := by decide +kernel
theorem dX6_opensIt_68 : decode cX6_opensIt 68 = .ok (.ireturn, 1) := by decide +kernel
theorem dX6_openedBy_0 : decode cX6_openedBy 0 = .ok (.iconst 0, 1) := by decide +kernel
theorem dX6_openedBy_1 : decode cX6_openedBy 1 = .ok (.istore_n 2, 1) := by decide +kernel
theorem dX6_openedBy_2 : decode cX6_openedBy 2 = .ok (.iconst 0, 1) := by decide +kernel
theorem dX6_openedBy_3 : decode cX6_openedBy 3 = .ok (.istore_n 3, 1) := by decide +kernel
theorem dX6_openedBy_4 : decode cX6_openedBy 4 = .ok (.iload_n 3, 1) := by decide +kernel
theorem dX6_openedBy_5 : decode cX6_openedBy 5 = .ok (.aload_n 0, 1) := by decide +kernel
theorem dX6_openedBy_6 : decode cX6_openedBy 6 = .ok (.getfield 79, 3) := by decide +kernel
theorem dX6_openedBy_9 : decode cX6_openedBy 9 = .ok (.if_icmp .ge 24, 3) := by decide +kernel
theorem dX6_openedBy_12 : decode cX6_openedBy 12 = .ok (.aload_n 0, 1) := by decide +kernel
theorem dX6_openedBy_13 : decode cX6_openedBy 13 = .ok (.iload_n 1, 1) := by decide +kernel
theorem dX6_openedBy_14 : decode cX6_openedBy 14 = .ok (.iload_n 3, 1) := by decide +kernel
theorem dX6_openedBy_15 : decode cX6_openedBy 15 = .ok (.invokevirtual 103, 3) := by decide +kernel
theorem dX6_openedBy_18 : decode cX6_openedBy 18 = .ok (.ifCond .eq 9, 3) := by decide +kernel
theorem dX6_openedBy_21 : decode cX6_openedBy 21 = .ok (.iload_n 2, 1) := by decide +kernel
theorem dX6_openedBy_22 : decode cX6_openedBy 22 = .ok (.iconst 1, 1) := by decide +kernel
theorem dX6_openedBy_23 : decode cX6_openedBy 23 = .ok (.iload_n 3, 1) := by decide +kernel
theorem dX6_openedBy_24 : decode cX6_openedBy 24 = .ok (.ishl, 1) := by decide +kernel
theorem dX6_openedBy_25 : decode cX6_openedBy 25 = .ok (.ior, 1) := by decide +kernel
theorem dX6_openedBy_26 : decode cX6_openedBy 26 = .ok (.istore_n 2, 1) := by decide +kernel
theorem dX6_openedBy_27 : decode cX6_openedBy 27 = .ok (.iinc 3 1, 3) := by decide +kernel
theorem dX6_openedBy_30 : decode cX6_openedBy 30 = .ok (.goto (-26), 3) := by decide +kernel
theorem dX6_openedBy_33 : decode cX6_openedBy 33 = .ok (.iload_n 2, 1) := by decide +kernel
theorem dX6_openedBy_34 : decode cX6_openedBy 34 = .ok (.ireturn, 1) := by decide +kernel
theorem dX6_keyOf_0 : decode cX6_keyOf 0 = .ok (.aload_n 0, 1) := by decide +kernel
theorem dX6_keyOf_1 : decode cX6_keyOf 1 = .ok (.iload_n 1, 1) := by decide +kernel
theorem dX6_keyOf_2 : decode cX6_keyOf 2 = .ok (.invokevirtual 93, 3) := by decide +kernel
theorem dX6_keyOf_5 : decode cX6_keyOf 5 = .ok (.ifCond .ne 10, 3) := by decide +kernel
theorem dX6_keyOf_8 : decode cX6_keyOf 8 = .ok (.aload_n 0, 1) := by decide +kernel
theorem dX6_keyOf_9 : decode cX6_keyOf 9 = .ok (.bipush (-2), 2) := by decide +kernel
theorem dX6_keyOf_11 : decode cX6_keyOf 11 = .ok (.invokevirtual 82, 3) := by decide +kernel
theorem dX6_keyOf_14 : decode cX6_keyOf 14 = .ok (.ireturn, 1) := by decide +kernel
theorem dX6_keyOf_15 : decode cX6_keyOf 15 = .ok (.iload_n 2, 1) := by decide +kernel
theorem dX6_keyOf_16 : decode cX6_keyOf 16 = .ok (.bipush 20, 2) := by decide +kernel
theorem dX6_keyOf_18 : decode cX6_keyOf 18 = .ok (.if_icmp .lt 24, 3) := by decide +kernel
theorem dX6_keyOf_21 : decode cX6_keyOf 21 = .ok (.aload_n 0, 1) := by decide +kernel
theorem dX6_keyOf_22 : decode cX6_keyOf 22 = .ok (.iload_n 2, 1) := by decide +kernel
theorem dX6_keyOf_23 : decode cX6_keyOf 23 = .ok (.bipush 20, 2) := by decide +kernel
theorem dX6_keyOf_25 : decode cX6_keyOf 25 = .ok (.isub, 1) := by decide +kernel
theorem dX6_keyOf_26 : decode cX6_keyOf 26 = .ok (.invokevirtual 123, 3) := by decide +kernel
theorem dX6_keyOf_29 : decode cX6_keyOf 29 = .ok (.ifCond .eq 13, 3) := by decide +kernel
theorem dX6_keyOf_32 : decode cX6_keyOf 32 = .ok (.aload_n 0, 1) := by decide +kernel
theorem dX6_keyOf_33 : decode cX6_keyOf 33 = .ok (.iload_n 1, 1) := by decide +kernel
theorem dX6_keyOf_34 : decode cX6_keyOf 34 = .ok (.iload_n 2, 1) := by decide +kernel
theorem dX6_keyOf_35 : decode cX6_keyOf 35 = .ok (.bipush 20, 2) := by decide +kernel
theorem dX6_keyOf_37 : decode cX6_keyOf 37 = .ok (.isub, 1) := by decide +kernel
theorem dX6_keyOf_38 : decode cX6_keyOf 38 = .ok (.invokevirtual 204, 3) := by decide +kernel
theorem dX6_keyOf_41 : decode cX6_keyOf 41 = .ok (.ireturn, 1) := by decide +kernel
theorem dX6_keyOf_42 : decode cX6_keyOf 42 = .ok (.iload_n 2, 1) := by decide +kernel
theorem dX6_keyOf_43 : decode cX6_keyOf 43 = .ok (.bipush 10, 2) := by decide +kernel
theorem dX6_keyOf_45 : decode cX6_keyOf 45 = .ok (.if_icmp .lt 28, 3) := by decide +kernel
theorem dX6_keyOf_48 : decode cX6_keyOf 48 = .ok (.aload_n 0, 1) := by decide +kernel
theorem dX6_keyOf_49 : decode cX6_keyOf 49 = .ok (.iload_n 2, 1) := by decide +kernel
theorem dX6_keyOf_50 : decode cX6_keyOf 50 = .ok (.bipush 10, 2) := by decide +kernel
theorem dX6_keyOf_52 : decode cX6_keyOf 52 = .ok (.isub, 1) := by decide +kernel
theorem dX6_keyOf_53 : decode cX6_keyOf 53 = .ok (.invokevirtual 123, 3) := by decide +kernel
theorem dX6_keyOf_56 : decode cX6_keyOf 56 = .ok (.ifCond .eq 17, 3) := by decide +kernel
theorem dX6_keyOf_59 : decode cX6_keyOf 59 = .ok (.aload_n 0, 1) := by decide +kernel
theorem dX6_keyOf_60 : decode cX6_keyOf 60 = .ok (.getfield 29, 3) := by decide +kernel
theorem dX6_keyOf_63 : decode cX6_keyOf 63 = .ok (.iconst 5, 1) := by decide +kernel
theorem dX6_keyOf_64 : decode cX6_keyOf 64 = .ok (.iload_n 1, 1) := by decide +kernel
theorem dX6_keyOf_65 : decode cX6_keyOf 65 = .ok (.imul, 1) := by decide +kernel
theorem dX6_keyOf_66 : decode cX6_keyOf 66 = .ok (.iload_n 2, 1) := by decide +kernel
theorem dX6_keyOf_67 : decode cX6_keyOf 67 = .ok (.iadd, 1) := by decide +kernel
theorem dX6_keyOf_68 : decode cX6_keyOf 68 = .ok (.bipush 10, 2) := by decide +kernel
theorem dX6_keyOf_70 : decode cX6_keyOf 70 = .ok (.isub, 1) := by decide +kernel
theorem dX6_keyOf_71 : decode cX6_keyOf 71 = .ok (.iaload, 1) := by decide +kernel
theorem dX6_keyOf_72 : decode cX6_keyOf 72 = .ok (.ireturn, 1) := by decide +kernel
theorem dX6_keyOf_73 : decode cX6_keyOf 73 = .ok (.iload_n 2, 1) := by decide +kernel
theorem dX6_keyOf_74 : decode cX6_keyOf 74 = .ok (.tableswitch 75 0 4 #[34, 41, 48, 54, 68], 34) := by decide +kernel
theorem dX6_keyOf_108 : decode cX6_keyOf 108 = .ok (.aload_n 0, 1) := by decide +kernel
theorem dX6_keyOf_109 : decode cX6_keyOf 109 = .ok (.getfield 20, 3) := by decide +kernel
theorem dX6_keyOf_112 : decode cX6_keyOf 112 = .ok (.iload_n 1, 1) := by decide +kernel
theorem dX6_keyOf_113 : decode cX6_keyOf 113 = .ok (.iaload, 1) := by decide +kernel
theorem dX6_keyOf_114 : decode cX6_keyOf 114 = .ok (.ireturn, 1) := by decide +kernel
theorem dX6_keyOf_115 : decode cX6_keyOf 115 = .ok (.aload_n 0, 1) := by decide +kernel
theorem dX6_keyOf_116 : decode cX6_keyOf 116 = .ok (.getfield 23, 3) := by decide +kernel
theorem dX6_keyOf_119 : decode cX6_keyOf 119 = .ok (.iload_n 1, 1) := by decide +kernel
theorem dX6_keyOf_120 : decode cX6_keyOf 120 = .ok (.iaload, 1) := by decide +kernel
theorem dX6_keyOf_121 : decode cX6_keyOf 121 = .ok (.ireturn, 1) := by decide +kernel
theorem dX6_keyOf_122 : decode cX6_keyOf 122 = .ok (.aload_n 0, 1) := by decide +kernel
theorem dX6_keyOf_123 : decode cX6_keyOf 123 = .ok (.iload_n 1, 1) := by decide +kernel
theorem dX6_keyOf_124 : decode cX6_keyOf 124 = .ok (.invokevirtual 100, 3) := by decide +kernel
theorem dX6_keyOf_127 : decode cX6_keyOf 127 = .ok (.ireturn, 1) := by decide +kernel
theorem dX6_keyOf_128 : decode cX6_keyOf 128 = .ok (.aload_n 0, 1) := by decide +kernel
theorem dX6_keyOf_129 : decode cX6_keyOf 129 = .ok (.iload_n 1, 1) := by decide +kernel
theorem dX6_keyOf_130 : decode cX6_keyOf 130 = .ok (.invokevirtual 210, 3) := by decide +kernel
theorem dX6_keyOf_133 : decode cX6_keyOf 133 = .ok (.ifCond .eq 7, 3) := by decide +kernel
theorem dX6_keyOf_136 : decode cX6_keyOf 136 = .ok (.iconst 1, 1) := by decide +kernel
theorem dX6_keyOf_137 : decode cX6_keyOf 137 = .ok (.goto 4, 3) := by decide +kernel
theorem dX6_keyOf_140 : decode cX6_keyOf 140 = .ok (.iconst 0, 1) := by decide +kernel
theorem dX6_keyOf_141 : decode cX6_keyOf 141 = .ok (.ireturn, 1) := by decide +kernel
theorem dX6_keyOf_142 : decode cX6_keyOf 142 = .ok (.aload_n 0, 1) := by decide +kernel
theorem dX6_keyOf_143 : decode cX6_keyOf 143 = .ok (.getfield 26, 3) := by decide +kernel
theorem dX6_keyOf_146 : decode cX6_keyOf 146 = .ok (.iload_n 1, 1) := by decide +kernel
theorem dX6_keyOf_147 : decode cX6_keyOf 147 = .ok (.iaload, 1) := by decide +kernel
theorem dX6_keyOf_148 : decode cX6_keyOf 148 = .ok (.ireturn, 1) := by decide +kernel
theorem dX6_keyOf_149 : decode cX6_keyOf 149 = .ok (.aload_n 0, 1) := by decide +kernel
theorem dX6_keyOf_150 : decode cX6_keyOf 150 = .ok (.bipush (-2), 2) := by decide +kernel
theorem dX6_keyOf_152 : decode cX6_keyOf 152 = .ok (.invokevirtual 82, 3) := by decide +kernel
theorem dX6_keyOf_155 : decode cX6_keyOf 155 = .ok (.ireturn, 1) := by decide +kernel
theorem dX6_lockOf_0 : decode cX6_lockOf 0 = .ok (.aload_n 0, 1) := by decide +kernel
theorem dX6_lockOf_1 : decode cX6_lockOf 1 = .ok (.iload_n 1, 1) := by decide +kernel
theorem dX6_lockOf_2 : decode cX6_lockOf 2 = .ok (.invokevirtual 120, 3) := by decide +kernel
theorem dX6_lockOf_5 : decode cX6_lockOf 5 = .ok (.ifCond .ne 10, 3) := by decide +kernel
theorem dX6_lockOf_8 : decode cX6_lockOf 8 = .ok (.aload_n 0, 1) := by decide +kernel
theorem dX6_lockOf_9 : decode cX6_lockOf 9 = .ok (.bipush (-2), 2) := by decide +kernel
theorem dX6_lockOf_11 : decode cX6_lockOf 11 = .ok (.invokevirtual 82, 3) := by decide +kernel
theorem dX6_lockOf_14 : decode cX6_lockOf 14 = .ok (.ireturn, 1) := by decide +kernel
theorem dX6_lockOf_15 : decode cX6_lockOf 15 = .ok (.iload_n 2, 1) := by decide +kernel
theorem dX6_lockOf_16 : decode cX6_lockOf 16 = .ok (.bipush 10, 2) := by decide +kernel
theorem dX6_lockOf_18 : decode cX6_lockOf 18 = .ok (.if_icmp .lt 28, 3) := by decide +kernel
theorem dX6_lockOf_21 : decode cX6_lockOf 21 = .ok (.aload_n 0, 1) := by decide +kernel
theorem dX6_lockOf_22 : decode cX6_lockOf 22 = .ok (.iload_n 2, 1) := by decide +kernel
theorem dX6_lockOf_23 : decode cX6_lockOf 23 = .ok (.bipush 10, 2) := by decide +kernel
theorem dX6_lockOf_25 : decode cX6_lockOf 25 = .ok (.isub, 1) := by decide +kernel
theorem dX6_lockOf_26 : decode cX6_lockOf 26 = .ok (.invokevirtual 123, 3) := by decide +kernel
theorem dX6_lockOf_29 : decode cX6_lockOf 29 = .ok (.ifCond .eq 17, 3) := by decide +kernel
theorem dX6_lockOf_32 : decode cX6_lockOf 32 = .ok (.aload_n 0, 1) := by decide +kernel
theorem dX6_lockOf_33 : decode cX6_lockOf 33 = .ok (.getfield 35, 3) := by decide +kernel
theorem dX6_lockOf_36 : decode cX6_lockOf 36 = .ok (.iconst 5, 1) := by decide +kernel
theorem dX6_lockOf_37 : decode cX6_lockOf 37 = .ok (.iload_n 1, 1) := by decide +kernel
theorem dX6_lockOf_38 : decode cX6_lockOf 38 = .ok (.imul, 1) := by decide +kernel
theorem dX6_lockOf_39 : decode cX6_lockOf 39 = .ok (.iload_n 2, 1) := by decide +kernel
theorem dX6_lockOf_40 : decode cX6_lockOf 40 = .ok (.iadd, 1) := by decide +kernel
theorem dX6_lockOf_41 : decode cX6_lockOf 41 = .ok (.bipush 10, 2) := by decide +kernel
theorem dX6_lockOf_43 : decode cX6_lockOf 43 = .ok (.isub, 1) := by decide +kernel
theorem dX6_lockOf_44 : decode cX6_lockOf 44 = .ok (.iaload, 1) := by decide +kernel
theorem dX6_lockOf_45 : decode cX6_lockOf 45 = .ok (.ireturn, 1) := by decide +kernel
theorem dX6_lockOf_46 : decode cX6_lockOf 46 = .ok (.iload_n 2, 1) := by decide +kernel
theorem dX6_lockOf_47 : decode cX6_lockOf 47 = .ok (.ifCond .ne 10, 3) := by decide +kernel
theorem dX6_lockOf_50 : decode cX6_lockOf 50 = .ok (.aload_n 0, 1) := by decide +kernel
theorem dX6_lockOf_51 : decode cX6_lockOf 51 = .ok (.getfield 32, 3) := by decide +kernel
theorem dX6_lockOf_54 : decode cX6_lockOf 54 = .ok (.iload_n 1, 1) := by decide +kernel
theorem dX6_lockOf_55 : decode cX6_lockOf 55 = .ok (.iaload, 1) := by decide +kernel
theorem dX6_lockOf_56 : decode cX6_lockOf 56 = .ok (.ireturn, 1) := by decide +kernel
theorem dX6_lockOf_57 : decode cX6_lockOf 57 = .ok (.iload_n 2, 1) := by decide +kernel
theorem dX6_lockOf_58 : decode cX6_lockOf 58 = .ok (.iconst 1, 1) := by decide +kernel
theorem dX6_lockOf_59 : decode cX6_lockOf 59 = .ok (.if_icmp .eq 10, 3) := by decide +kernel
theorem dX6_lockOf_62 : decode cX6_lockOf 62 = .ok (.aload_n 0, 1) := by decide +kernel
theorem dX6_lockOf_63 : decode cX6_lockOf 63 = .ok (.bipush (-2), 2) := by decide +kernel
theorem dX6_lockOf_65 : decode cX6_lockOf 65 = .ok (.invokevirtual 82, 3) := by decide +kernel
theorem dX6_lockOf_68 : decode cX6_lockOf 68 = .ok (.ireturn, 1) := by decide +kernel
theorem dX6_lockOf_69 : decode cX6_lockOf 69 = .ok (.iconst 0, 1) := by decide +kernel
theorem dX6_lockOf_70 : decode cX6_lockOf 70 = .ok (.istore_n 3, 1) := by decide +kernel
theorem dX6_lockOf_71 : decode cX6_lockOf 71 = .ok (.iconst 0, 1) := by decide +kernel
theorem dX6_lockOf_72 : decode cX6_lockOf 72 = .ok (.istore 4, 2) := by decide +kernel
theorem dX6_lockOf_74 : decode cX6_lockOf 74 = .ok (.iload 4, 2) := by decide +kernel
theorem dX6_lockOf_76 : decode cX6_lockOf 76 = .ok (.aload_n 0, 1) := by decide +kernel
theorem dX6_lockOf_77 : decode cX6_lockOf 77 = .ok (.getfield 59, 3) := by decide +kernel
theorem dX6_lockOf_80 : decode cX6_lockOf 80 = .ok (.if_icmp .ge 23, 3) := by decide +kernel
theorem dX6_lockOf_83 : decode cX6_lockOf 83 = .ok (.iload_n 3, 1) := by decide +kernel
theorem dX6_lockOf_84 : decode cX6_lockOf 84 = .ok (.aload_n 0, 1) := by decide +kernel
theorem dX6_lockOf_85 : decode cX6_lockOf 85 = .ok (.getfield 35, 3) := by decide +kernel
theorem dX6_lockOf_88 : decode cX6_lockOf 88 = .ok (.iconst 5, 1) := by decide +kernel
theorem dX6_lockOf_89 : decode cX6_lockOf 89 = .ok (.iload_n 1, 1) := by decide +kernel
theorem dX6_lockOf_90 : decode cX6_lockOf 90 = .ok (.imul, 1) := by decide +kernel
theorem dX6_lockOf_91 : decode cX6_lockOf 91 = .ok (.iload 4, 2) := by decide +kernel
theorem dX6_lockOf_93 : decode cX6_lockOf 93 = .ok (.iadd, 1) := by decide +kernel
theorem dX6_lockOf_94 : decode cX6_lockOf 94 = .ok (.iaload, 1) := by decide +kernel
theorem dX6_lockOf_95 : decode cX6_lockOf 95 = .ok (.iadd, 1) := by decide +kernel
theorem dX6_lockOf_96 : decode cX6_lockOf 96 = .ok (.istore_n 3, 1) := by decide +kernel
theorem dX6_lockOf_97 : decode cX6_lockOf 97 = .ok (.iinc 4 1, 3) := by decide +kernel
theorem dX6_lockOf_100 : decode cX6_lockOf 100 = .ok (.goto (-26), 3) := by decide +kernel
theorem dX6_lockOf_103 : decode cX6_lockOf 103 = .ok (.iload_n 3, 1) := by decide +kernel
theorem dX6_lockOf_104 : decode cX6_lockOf 104 = .ok (.ireturn, 1) := by decide +kernel
theorem dX6_opens_0 : decode cX6_opens 0 = .ok (.aload_n 0, 1) := by decide +kernel
theorem dX6_opens_1 : decode cX6_opens 1 = .ok (.iload_n 1, 1) := by decide +kernel
theorem dX6_opens_2 : decode cX6_opens 2 = .ok (.invokevirtual 93, 3) := by decide +kernel
theorem dX6_opens_5 : decode cX6_opens 5 = .ok (.ifCond .eq 20, 3) := by decide +kernel
theorem dX6_opens_8 : decode cX6_opens 8 = .ok (.aload_n 0, 1) := by decide +kernel
theorem dX6_opens_9 : decode cX6_opens 9 = .ok (.iload_n 2, 1) := by decide +kernel
theorem dX6_opens_10 : decode cX6_opens 10 = .ok (.invokevirtual 120, 3) := by decide +kernel
theorem dX6_opens_13 : decode cX6_opens 13 = .ok (.ifCond .eq 12, 3) := by decide +kernel
theorem dX6_opens_16 : decode cX6_opens 16 = .ok (.iload_n 3, 1) := by decide +kernel
theorem dX6_opens_17 : decode cX6_opens 17 = .ok (.iconst 0, 1) := by decide +kernel
theorem dX6_opens_18 : decode cX6_opens 18 = .ok (.iconst 1, 1) := by decide +kernel
theorem dX6_opens_19 : decode cX6_opens 19 = .ok (.invokestatic 75, 3) := by decide +kernel
theorem dX6_opens_22 : decode cX6_opens 22 = .ok (.ifCond .ne 10, 3) := by decide +kernel
theorem dX6_opens_25 : decode cX6_opens 25 = .ok (.aload_n 0, 1) := by decide +kernel
theorem dX6_opens_26 : decode cX6_opens 26 = .ok (.bipush (-2), 2) := by decide +kernel
theorem dX6_opens_28 : decode cX6_opens 28 = .ok (.invokevirtual 82, 3) := by decide +kernel
theorem dX6_opens_31 : decode cX6_opens 31 = .ok (.ireturn, 1) := by decide +kernel
theorem dX6_opens_32 : decode cX6_opens 32 = .ok (.iload_n 3, 1) := by decide +kernel
theorem dX6_opens_33 : decode cX6_opens 33 = .ok (.ifCond .ne 15, 3) := by decide +kernel
theorem dX6_opens_36 : decode cX6_opens 36 = .ok (.aload_n 0, 1) := by decide +kernel
theorem dX6_opens_37 : decode cX6_opens 37 = .ok (.iload_n 1, 1) := by decide +kernel
theorem dX6_opens_38 : decode cX6_opens 38 = .ok (.iload_n 2, 1) := by decide +kernel
theorem dX6_opens_39 : decode cX6_opens 39 = .ok (.invokevirtual 207, 3) := by decide +kernel
theorem dX6_opens_42 : decode cX6_opens 42 = .ok (.ifCond .eq 19, 3) := by decide +kernel
theorem dX6_opens_45 : decode cX6_opens 45 = .ok (.goto 12, 3) := by decide +kernel
theorem dX6_opens_48 : decode cX6_opens 48 = .ok (.aload_n 0, 1) := by decide +kernel
theorem dX6_opens_49 : decode cX6_opens 49 = .ok (.iload_n 1, 1) := by decide +kernel
theorem dX6_opens_50 : decode cX6_opens 50 = .ok (.iload_n 2, 1) := by decide +kernel
theorem dX6_opens_51 : decode cX6_opens 51 = .ok (.invokevirtual 103, 3) := by decide +kernel
theorem dX6_opens_54 : decode cX6_opens 54 = .ok (.ifCond .eq 7, 3) := by decide +kernel
theorem dX6_opens_57 : decode cX6_opens 57 = .ok (.iconst 1, 1) := by decide +kernel
theorem dX6_opens_58 : decode cX6_opens 58 = .ok (.goto 4, 3) := by decide +kernel
theorem dX6_opens_61 : decode cX6_opens 61 = .ok (.iconst 0, 1) := by decide +kernel
theorem dX6_opens_62 : decode cX6_opens 62 = .ok (.ireturn, 1) := by decide +kernel
theorem dX6_opened_0 : decode cX6_opened 0 = .ok (.aload_n 0, 1) := by decide +kernel
theorem dX6_opened_1 : decode cX6_opened 1 = .ok (.iload_n 1, 1) := by decide +kernel
theorem dX6_opened_2 : decode cX6_opened 2 = .ok (.invokevirtual 93, 3) := by decide +kernel
theorem dX6_opened_5 : decode cX6_opened 5 = .ok (.ifCond .eq 11, 3) := by decide +kernel
theorem dX6_opened_8 : decode cX6_opened 8 = .ok (.aload_n 0, 1) := by decide +kernel
theorem dX6_opened_9 : decode cX6_opened 9 = .ok (.iload_n 1, 1) := by decide +kernel
theorem dX6_opened_10 : decode cX6_opened 10 = .ok (.invokevirtual 106, 3) := by decide +kernel
theorem dX6_opened_13 : decode cX6_opened 13 = .ok (.goto 9, 3) := by decide +kernel
theorem dX6_opened_16 : decode cX6_opened 16 = .ok (.aload_n 0, 1) := by decide +kernel
theorem dX6_opened_17 : decode cX6_opened 17 = .ok (.bipush (-2), 2) := by decide +kernel
theorem dX6_opened_19 : decode cX6_opened 19 = .ok (.invokevirtual 82, 3) := by decide +kernel
theorem dX6_opened_22 : decode cX6_opened 22 = .ok (.ireturn, 1) := by decide +kernel
theorem dX6_whoOpens_0 : decode cX6_whoOpens 0 = .ok (.iconst 0, 1) := by decide +kernel
theorem dX6_whoOpens_1 : decode cX6_whoOpens 1 = .ok (.istore_n 2, 1) := by decide +kernel
theorem dX6_whoOpens_2 : decode cX6_whoOpens 2 = .ok (.iconst 0, 1) := by decide +kernel
theorem dX6_whoOpens_3 : decode cX6_whoOpens 3 = .ok (.istore_n 3, 1) := by decide +kernel
theorem dX6_whoOpens_4 : decode cX6_whoOpens 4 = .ok (.iload_n 3, 1) := by decide +kernel
theorem dX6_whoOpens_5 : decode cX6_whoOpens 5 = .ok (.aload_n 0, 1) := by decide +kernel
theorem dX6_whoOpens_6 : decode cX6_whoOpens 6 = .ok (.getfield 72, 3) := by decide +kernel
theorem dX6_whoOpens_9 : decode cX6_whoOpens 9 = .ok (.if_icmp .ge 24, 3) := by decide +kernel
theorem dX6_whoOpens_12 : decode cX6_whoOpens 12 = .ok (.aload_n 0, 1) := by decide +kernel
theorem dX6_whoOpens_13 : decode cX6_whoOpens 13 = .ok (.iload_n 3, 1) := by decide +kernel
theorem dX6_whoOpens_14 : decode cX6_whoOpens 14 = .ok (.iload_n 1, 1) := by decide +kernel
theorem dX6_whoOpens_15 : decode cX6_whoOpens 15 = .ok (.invokevirtual 103, 3) := by decide +kernel
theorem dX6_whoOpens_18 : decode cX6_whoOpens 18 = .ok (.ifCond .eq 9, 3) := by decide +kernel
theorem dX6_whoOpens_21 : decode cX6_whoOpens 21 = .ok (.iload_n 2, 1) := by decide +kernel
theorem dX6_whoOpens_22 : decode cX6_whoOpens 22 = .ok (.iconst 1, 1) := by decide +kernel
theorem dX6_whoOpens_23 : decode cX6_whoOpens 23 = .ok (.iload_n 3, 1) := by decide +kernel
theorem dX6_whoOpens_24 : decode cX6_whoOpens 24 = .ok (.ishl, 1) := by decide +kernel
theorem dX6_whoOpens_25 : decode cX6_whoOpens 25 = .ok (.ior, 1) := by decide +kernel
theorem dX6_whoOpens_26 : decode cX6_whoOpens 26 = .ok (.istore_n 2, 1) := by decide +kernel
theorem dX6_whoOpens_27 : decode cX6_whoOpens 27 = .ok (.iinc 3 1, 3) := by decide +kernel
theorem dX6_whoOpens_30 : decode cX6_whoOpens 30 = .ok (.goto (-26), 3) := by decide +kernel
theorem dX6_whoOpens_33 : decode cX6_whoOpens 33 = .ok (.iload_n 2, 1) := by decide +kernel
theorem dX6_whoOpens_34 : decode cX6_whoOpens 34 = .ok (.ireturn, 1) := by decide +kernel
theorem dX6_who_0 : decode cX6_who 0 = .ok (.aload_n 0, 1) := by decide +kernel
theorem dX6_who_1 : decode cX6_who 1 = .ok (.iload_n 1, 1) := by decide +kernel
theorem dX6_who_2 : decode cX6_who 2 = .ok (.invokevirtual 120, 3) := by decide +kernel
theorem dX6_who_5 : decode cX6_who 5 = .ok (.ifCond .eq 11, 3) := by decide +kernel
theorem dX6_who_8 : decode cX6_who 8 = .ok (.aload_n 0, 1) := by decide +kernel
theorem dX6_who_9 : decode cX6_who 9 = .ok (.iload_n 1, 1) := by decide +kernel
theorem dX6_who_10 : decode cX6_who 10 = .ok (.invokevirtual 216, 3) := by decide +kernel
theorem dX6_who_13 : decode cX6_who 13 = .ok (.goto 9, 3) := by decide +kernel
theorem dX6_who_16 : decode cX6_who 16 = .ok (.aload_n 0, 1) := by decide +kernel
theorem dX6_who_17 : decode cX6_who 17 = .ok (.bipush (-2), 2) := by decide +kernel
theorem dX6_who_19 : decode cX6_who 19 = .ok (.invokevirtual 82, 3) := by decide +kernel
theorem dX6_who_22 : decode cX6_who 22 = .ok (.ireturn, 1) := by decide +kernel
theorem dX6_wrong_0 : decode cX6_wrong 0 = .ok (.iconst 0, 1) := by decide +kernel
theorem dX6_wrong_1 : decode cX6_wrong 1 = .ok (.istore_n 1, 1) := by decide +kernel
theorem dX6_wrong_2 : decode cX6_wrong 2 = .ok (.iload_n 1, 1) := by decide +kernel
theorem dX6_wrong_3 : decode cX6_wrong 3 = .ok (.aload_n 0, 1) := by decide +kernel
theorem dX6_wrong_4 : decode cX6_wrong 4 = .ok (.getfield 72, 3) := by decide +kernel
theorem dX6_wrong_7 : decode cX6_wrong 7 = .ok (.if_icmp .ge 51, 3) := by decide +kernel
theorem dX6_wrong_10 : decode cX6_wrong 10 = .ok (.iconst 0, 1) := by decide +kernel
theorem dX6_wrong_11 : decode cX6_wrong 11 = .ok (.istore_n 2, 1) := by decide +kernel
theorem dX6_wrong_12 : decode cX6_wrong 12 = .ok (.iload_n 2, 1) := by decide +kernel
theorem dX6_wrong_13 : decode cX6_wrong 13 = .ok (.aload_n 0, 1) := by decide +kernel
theorem dX6_wrong_14 : decode cX6_wrong 14 = .ok (.getfield 79, 3) := by decide +kernel
theorem dX6_wrong_17 : decode cX6_wrong 17 = .ok (.if_icmp .ge 35, 3) := by decide +kernel
theorem dX6_wrong_20 : decode cX6_wrong 20 = .ok (.aload_n 0, 1) := by decide +kernel
theorem dX6_wrong_21 : decode cX6_wrong 21 = .ok (.getfield 26, 3) := by decide +kernel
theorem dX6_wrong_24 : decode cX6_wrong 24 = .ok (.iload_n 1, 1) := by decide +kernel
theorem dX6_wrong_25 : decode cX6_wrong 25 = .ok (.iaload, 1) := by decide +kernel
theorem dX6_wrong_26 : decode cX6_wrong 26 = .ok (.iload_n 2, 1) := by decide +kernel
theorem dX6_wrong_27 : decode cX6_wrong 27 = .ok (.invokestatic 126, 3) := by decide +kernel
theorem dX6_wrong_30 : decode cX6_wrong 30 = .ok (.aload_n 0, 1) := by decide +kernel
theorem dX6_wrong_31 : decode cX6_wrong 31 = .ok (.iload_n 1, 1) := by decide +kernel
theorem dX6_wrong_32 : decode cX6_wrong 32 = .ok (.iload_n 2, 1) := by decide +kernel
theorem dX6_wrong_33 : decode cX6_wrong 33 = .ok (.invokevirtual 103, 3) := by decide +kernel
theorem dX6_wrong_36 : decode cX6_wrong 36 = .ok (.if_icmp .eq 10, 3) := by decide +kernel
theorem dX6_wrong_39 : decode cX6_wrong 39 = .ok (.bipush 10, 2) := by decide +kernel
theorem dX6_wrong_41 : decode cX6_wrong 41 = .ok (.iload_n 1, 1) := by decide +kernel
theorem dX6_wrong_42 : decode cX6_wrong 42 = .ok (.imul, 1) := by decide +kernel
theorem dX6_wrong_43 : decode cX6_wrong 43 = .ok (.iload_n 2, 1) := by decide +kernel
theorem dX6_wrong_44 : decode cX6_wrong 44 = .ok (.iadd, 1) := by decide +kernel
theorem dX6_wrong_45 : decode cX6_wrong 45 = .ok (.ireturn, 1) := by decide +kernel
theorem dX6_wrong_46 : decode cX6_wrong 46 = .ok (.iinc 2 1, 3) := by decide +kernel
theorem dX6_wrong_49 : decode cX6_wrong 49 = .ok (.goto (-37), 3) := by decide +kernel
theorem dX6_wrong_52 : decode cX6_wrong 52 = .ok (.iinc 1 1, 3) := by decide +kernel
theorem dX6_wrong_55 : decode cX6_wrong 55 = .ok (.goto (-53), 3) := by decide +kernel
theorem dX6_wrong_58 : decode cX6_wrong 58 = .ok (.iconst (-1), 1) := by decide +kernel
theorem dX6_wrong_59 : decode cX6_wrong 59 = .ok (.ireturn, 1) := by decide +kernel
theorem dX6_wrongs_0 : decode cX6_wrongs 0 = .ok (.iconst 0, 1) := by decide +kernel
theorem dX6_wrongs_1 : decode cX6_wrongs 1 = .ok (.istore_n 1, 1) := by decide +kernel
theorem dX6_wrongs_2 : decode cX6_wrongs 2 = .ok (.iconst 0, 1) := by decide +kernel
theorem dX6_wrongs_3 : decode cX6_wrongs 3 = .ok (.istore_n 2, 1) := by decide +kernel
theorem dX6_wrongs_4 : decode cX6_wrongs 4 = .ok (.iload_n 2, 1) := by decide +kernel
theorem dX6_wrongs_5 : decode cX6_wrongs 5 = .ok (.aload_n 0, 1) := by decide +kernel
theorem dX6_wrongs_6 : decode cX6_wrongs 6 = .ok (.getfield 72, 3) := by decide +kernel
theorem dX6_wrongs_9 : decode cX6_wrongs 9 = .ok (.if_icmp .ge 27, 3) := by decide +kernel
theorem dX6_wrongs_12 : decode cX6_wrongs 12 = .ok (.iload_n 1, 1) := by decide +kernel
theorem dX6_wrongs_13 : decode cX6_wrongs 13 = .ok (.aload_n 0, 1) := by decide +kernel
theorem dX6_wrongs_14 : decode cX6_wrongs 14 = .ok (.getfield 26, 3) := by decide +kernel
theorem dX6_wrongs_17 : decode cX6_wrongs 17 = .ok (.iload_n 2, 1) := by decide +kernel
theorem dX6_wrongs_18 : decode cX6_wrongs 18 = .ok (.iaload, 1) := by decide +kernel
theorem dX6_wrongs_19 : decode cX6_wrongs 19 = .ok (.aload_n 0, 1) := by decide +kernel
theorem dX6_wrongs_20 : decode cX6_wrongs 20 = .ok (.iload_n 2, 1) := by decide +kernel
theorem dX6_wrongs_21 : decode cX6_wrongs 21 = .ok (.invokevirtual 106, 3) := by decide +kernel
theorem dX6_wrongs_24 : decode cX6_wrongs 24 = .ok (.ixor, 1) := by decide +kernel
theorem dX6_wrongs_25 : decode cX6_wrongs 25 = .ok (.invokestatic 219, 3) := by decide +kernel
theorem dX6_wrongs_28 : decode cX6_wrongs 28 = .ok (.iadd, 1) := by decide +kernel
theorem dX6_wrongs_29 : decode cX6_wrongs 29 = .ok (.istore_n 1, 1) := by decide +kernel
theorem dX6_wrongs_30 : decode cX6_wrongs 30 = .ok (.iinc 2 1, 3) := by decide +kernel
theorem dX6_wrongs_33 : decode cX6_wrongs 33 = .ok (.goto (-29), 3) := by decide +kernel
theorem dX6_wrongs_36 : decode cX6_wrongs 36 = .ok (.iload_n 1, 1) := by decide +kernel
theorem dX6_wrongs_37 : decode cX6_wrongs 37 = .ok (.ireturn, 1) := by decide +kernel
theorem dX6_noList_0 : decode cX6_noList 0 = .ok (.aload_n 0, 1) := by decide +kernel
theorem dX6_noList_1 : decode cX6_noList 1 = .ok (.iload_n 1, 1) := by decide +kernel
theorem dX6_noList_2 : decode cX6_noList 2 = .ok (.invokevirtual 86, 3) := by decide +kernel
theorem dX6_noList_5 : decode cX6_noList 5 = .ok (.istore_n 2, 1) := by decide +kernel
theorem dX6_noList_6 : decode cX6_noList 6 = .ok (.iload_n 2, 1) := by decide +kernel
theorem dX6_noList_7 : decode cX6_noList 7 = .ok (.ifCond .ge 5, 3) := by decide +kernel
theorem dX6_noList_10 : decode cX6_noList 10 = .ok (.iload_n 2, 1) := by decide +kernel
theorem dX6_noList_11 : decode cX6_noList 11 = .ok (.ireturn, 1) := by decide +kernel
theorem dX6_noList_12 : decode cX6_noList 12 = .ok (.aload_n 0, 1) := by decide +kernel
theorem dX6_noList_13 : decode cX6_noList 13 = .ok (.getfield 13, 3) := by decide +kernel
theorem dX6_noList_16 : decode cX6_noList 16 = .ok (.iload_n 1, 1) := by decide +kernel
theorem dX6_noList_17 : decode cX6_noList 17 = .ok (.iaload, 1) := by decide +kernel
theorem dX6_noList_18 : decode cX6_noList 18 = .ok (.aload_n 0, 1) := by decide +kernel
theorem dX6_noList_19 : decode cX6_noList 19 = .ok (.getfield 72, 3) := by decide +kernel
theorem dX6_noList_22 : decode cX6_noList 22 = .ok (.if_icmp .ge 8, 3) := by decide +kernel
theorem dX6_noList_25 : decode cX6_noList 25 = .ok (.bipush (-2), 2) := by decide +kernel
theorem dX6_noList_27 : decode cX6_noList 27 = .ok (.goto 4, 3) := by decide +kernel
theorem dX6_noList_30 : decode cX6_noList 30 = .ok (.iconst 0, 1) := by decide +kernel
theorem dX6_noList_31 : decode cX6_noList 31 = .ok (.ireturn, 1) := by decide +kernel
theorem dX6_listed_0 : decode cX6_listed 0 = .ok (.aload_n 0, 1) := by decide +kernel
theorem dX6_listed_1 : decode cX6_listed 1 = .ok (.getfield 16, 3) := by decide +kernel
theorem dX6_listed_4 : decode cX6_listed 4 = .ok (.bipush 40, 2) := by decide +kernel
theorem dX6_listed_6 : decode cX6_listed 6 = .ok (.iload_n 1, 1) := by decide +kernel
theorem dX6_listed_7 : decode cX6_listed 7 = .ok (.imul, 1) := by decide +kernel
theorem dX6_listed_8 : decode cX6_listed 8 = .ok (.iload_n 2, 1) := by decide +kernel
theorem dX6_listed_9 : decode cX6_listed 9 = .ok (.iadd, 1) := by decide +kernel
theorem dX6_listed_10 : decode cX6_listed 10 = .ok (.laload, 1) := by decide +kernel
theorem dX6_listed_11 : decode cX6_listed 11 = .ok (.l2i, 1) := by decide +kernel
theorem dX6_listed_12 : decode cX6_listed 12 = .ok (.iconst 1, 1) := by decide +kernel
theorem dX6_listed_13 : decode cX6_listed 13 = .ok (.aload_n 0, 1) := by decide +kernel
theorem dX6_listed_14 : decode cX6_listed 14 = .ok (.getfield 79, 3) := by decide +kernel
theorem dX6_listed_17 : decode cX6_listed 17 = .ok (.ishl, 1) := by decide +kernel
theorem dX6_listed_18 : decode cX6_listed 18 = .ok (.iconst 1, 1) := by decide +kernel
theorem dX6_listed_19 : decode cX6_listed 19 = .ok (.isub, 1) := by decide +kernel
theorem dX6_listed_20 : decode cX6_listed 20 = .ok (.iand, 1) := by decide +kernel
theorem dX6_listed_21 : decode cX6_listed 21 = .ok (.ireturn, 1) := by decide +kernel
theorem dX6_judge_0 : decode cX6_judge 0 = .ok (.aload_n 0, 1) := by decide +kernel
theorem dX6_judge_1 : decode cX6_judge 1 = .ok (.iload_n 1, 1) := by decide +kernel
theorem dX6_judge_2 : decode cX6_judge 2 = .ok (.invokevirtual 224, 3) := by decide +kernel
theorem dX6_judge_5 : decode cX6_judge 5 = .ok (.istore_n 2, 1) := by decide +kernel
theorem dX6_judge_6 : decode cX6_judge 6 = .ok (.iload_n 2, 1) := by decide +kernel
theorem dX6_judge_7 : decode cX6_judge 7 = .ok (.ifCond .ge 9, 3) := by decide +kernel
theorem dX6_judge_10 : decode cX6_judge 10 = .ok (.aload_n 0, 1) := by decide +kernel
theorem dX6_judge_11 : decode cX6_judge 11 = .ok (.iload_n 2, 1) := by decide +kernel
theorem dX6_judge_12 : decode cX6_judge 12 = .ok (.invokevirtual 82, 3) := by decide +kernel
theorem dX6_judge_15 : decode cX6_judge 15 = .ok (.ireturn, 1) := by decide +kernel
theorem dX6_judge_16 : decode cX6_judge 16 = .ok (.iconst 0, 1) := by decide +kernel
theorem dX6_judge_17 : decode cX6_judge 17 = .ok (.istore_n 3, 1) := by decide +kernel
theorem dX6_judge_18 : decode cX6_judge 18 = .ok (.iload_n 3, 1) := by decide +kernel
theorem dX6_judge_19 : decode cX6_judge 19 = .ok (.aload_n 0, 1) := by decide +kernel
theorem dX6_judge_20 : decode cX6_judge 20 = .ok (.getfield 72, 3) := by decide +kernel
theorem dX6_judge_23 : decode cX6_judge 23 = .ok (.if_icmp .ge 25, 3) := by decide +kernel
theorem dX6_judge_26 : decode cX6_judge 26 = .ok (.aload_n 0, 1) := by decide +kernel
theorem dX6_judge_27 : decode cX6_judge 27 = .ok (.iload_n 3, 1) := by decide +kernel
theorem dX6_judge_28 : decode cX6_judge 28 = .ok (.invokevirtual 106, 3) := by decide +kernel
theorem dX6_judge_31 : decode cX6_judge 31 = .ok (.aload_n 0, 1) := by decide +kernel
theorem dX6_judge_32 : decode cX6_judge 32 = .ok (.iload_n 1, 1) := by decide +kernel
theorem dX6_judge_33 : decode cX6_judge 33 = .ok (.iload_n 3, 1) := by decide +kernel
theorem dX6_judge_34 : decode cX6_judge 34 = .ok (.invokevirtual 227, 3) := by decide +kernel
theorem dX6_judge_37 : decode cX6_judge 37 = .ok (.if_icmp .eq 5, 3) := by decide +kernel
theorem dX6_judge_40 : decode cX6_judge 40 = .ok (.iload_n 3, 1) := by decide +kernel
theorem dX6_judge_41 : decode cX6_judge 41 = .ok (.ireturn, 1) := by decide +kernel
theorem dX6_judge_42 : decode cX6_judge 42 = .ok (.iinc 3 1, 3) := by decide +kernel
theorem dX6_judge_45 : decode cX6_judge 45 = .ok (.goto (-27), 3) := by decide +kernel
theorem dX6_judge_48 : decode cX6_judge 48 = .ok (.iconst (-1), 1) := by decide +kernel
theorem dX6_judge_49 : decode cX6_judge 49 = .ok (.ireturn, 1) := by decide +kernel
theorem dX6_list_0 : decode cX6_list 0 = .ok (.aload_n 0, 1) := by decide +kernel
theorem dX6_list_1 : decode cX6_list 1 = .ok (.iload_n 1, 1) := by decide +kernel
theorem dX6_list_2 : decode cX6_list 2 = .ok (.invokevirtual 224, 3) := by decide +kernel
theorem dX6_list_5 : decode cX6_list 5 = .ok (.istore_n 2, 1) := by decide +kernel
theorem dX6_list_6 : decode cX6_list 6 = .ok (.iload_n 2, 1) := by decide +kernel
theorem dX6_list_7 : decode cX6_list 7 = .ok (.ifCond .ge 9, 3) := by decide +kernel
theorem dX6_list_10 : decode cX6_list 10 = .ok (.aload_n 0, 1) := by decide +kernel
theorem dX6_list_11 : decode cX6_list 11 = .ok (.iload_n 2, 1) := by decide +kernel
theorem dX6_list_12 : decode cX6_list 12 = .ok (.invokevirtual 82, 3) := by decide +kernel
theorem dX6_list_15 : decode cX6_list 15 = .ok (.ireturn, 1) := by decide +kernel
theorem dX6_list_16 : decode cX6_list 16 = .ok (.iconst 0, 1) := by decide +kernel
theorem dX6_list_17 : decode cX6_list 17 = .ok (.istore_n 3, 1) := by decide +kernel
theorem dX6_list_18 : decode cX6_list 18 = .ok (.iload_n 3, 1) := by decide +kernel
theorem dX6_list_19 : decode cX6_list 19 = .ok (.aload_n 0, 1) := by decide +kernel
theorem dX6_list_20 : decode cX6_list 20 = .ok (.getfield 72, 3) := by decide +kernel
theorem dX6_list_23 : decode cX6_list 23 = .ok (.if_icmp .ge 21, 3) := by decide +kernel
theorem dX6_list_26 : decode cX6_list 26 = .ok (.aload_n 0, 1) := by decide +kernel
theorem dX6_list_27 : decode cX6_list 27 = .ok (.getfield 26, 3) := by decide +kernel
theorem dX6_list_30 : decode cX6_list 30 = .ok (.iload_n 3, 1) := by decide +kernel
theorem dX6_list_31 : decode cX6_list 31 = .ok (.aload_n 0, 1) := by decide +kernel
theorem dX6_list_32 : decode cX6_list 32 = .ok (.iload_n 1, 1) := by decide +kernel
theorem dX6_list_33 : decode cX6_list 33 = .ok (.iload_n 3, 1) := by decide +kernel
theorem dX6_list_34 : decode cX6_list 34 = .ok (.invokevirtual 227, 3) := by decide +kernel
theorem dX6_list_37 : decode cX6_list 37 = .ok (.iastore, 1) := by decide +kernel
theorem dX6_list_38 : decode cX6_list 38 = .ok (.iinc 3 1, 3) := by decide +kernel
theorem dX6_list_41 : decode cX6_list 41 = .ok (.goto (-23), 3) := by decide +kernel
theorem dX6_list_44 : decode cX6_list 44 = .ok (.aload_n 0, 1) := by decide +kernel
theorem dX6_list_45 : decode cX6_list 45 = .ok (.getfield 72, 3) := by decide +kernel
theorem dX6_list_48 : decode cX6_list 48 = .ok (.ireturn, 1) := by decide +kernel
theorem dX6_rows_0 : decode cX6_rows 0 = .ok (.iconst 1, 1) := by decide +kernel
theorem dX6_rows_1 : decode cX6_rows 1 = .ok (.istore_n 1, 1) := by decide +kernel
theorem dX6_rows_2 : decode cX6_rows 2 = .ok (.iconst 0, 1) := by decide +kernel
theorem dX6_rows_3 : decode cX6_rows 3 = .ok (.istore_n 2, 1) := by decide +kernel
theorem dX6_rows_4 : decode cX6_rows 4 = .ok (.iload_n 2, 1) := by decide +kernel
theorem dX6_rows_5 : decode cX6_rows 5 = .ok (.aload_n 0, 1) := by decide +kernel
theorem dX6_rows_6 : decode cX6_rows 6 = .ok (.getfield 59, 3) := by decide +kernel
theorem dX6_rows_9 : decode cX6_rows 9 = .ok (.if_icmp .ge 18, 3) := by decide +kernel
theorem dX6_rows_12 : decode cX6_rows 12 = .ok (.iload_n 1, 1) := by decide +kernel
theorem dX6_rows_13 : decode cX6_rows 13 = .ok (.aload_n 0, 1) := by decide +kernel
theorem dX6_rows_14 : decode cX6_rows 14 = .ok (.getfield 63, 3) := by decide +kernel
theorem dX6_rows_17 : decode cX6_rows 17 = .ok (.iconst 1, 1) := by decide +kernel
theorem dX6_rows_18 : decode cX6_rows 18 = .ok (.iadd, 1) := by decide +kernel
theorem dX6_rows_19 : decode cX6_rows 19 = .ok (.imul, 1) := by decide +kernel
theorem dX6_rows_20 : decode cX6_rows 20 = .ok (.istore_n 1, 1) := by decide +kernel
theorem dX6_rows_21 : decode cX6_rows 21 = .ok (.iinc 2 1, 3) := by decide +kernel
theorem dX6_rows_24 : decode cX6_rows 24 = .ok (.goto (-20), 3) := by decide +kernel
theorem dX6_rows_27 : decode cX6_rows 27 = .ok (.iload_n 1, 1) := by decide +kernel
theorem dX6_rows_28 : decode cX6_rows 28 = .ok (.ireturn, 1) := by decide +kernel
theorem dX6_of_0 : decode cX6_of 0 = .ok (.aload_n 0, 1) := by decide +kernel
theorem dX6_of_1 : decode cX6_of 1 = .ok (.getfield 59, 3) := by decide +kernel
theorem dX6_of_4 : decode cX6_of 4 = .ok (.iconst 1, 1) := by decide +kernel
theorem dX6_of_5 : decode cX6_of 5 = .ok (.isub, 1) := by decide +kernel
theorem dX6_of_6 : decode cX6_of 6 = .ok (.istore_n 3, 1) := by decide +kernel
theorem dX6_of_7 : decode cX6_of 7 = .ok (.iload_n 3, 1) := by decide +kernel
theorem dX6_of_8 : decode cX6_of 8 = .ok (.iload_n 2, 1) := by decide +kernel
theorem dX6_of_9 : decode cX6_of 9 = .ok (.if_icmp .le 18, 3) := by decide +kernel
theorem dX6_of_12 : decode cX6_of 12 = .ok (.iload_n 1, 1) := by decide +kernel
theorem dX6_of_13 : decode cX6_of 13 = .ok (.aload_n 0, 1) := by decide +kernel
theorem dX6_of_14 : decode cX6_of 14 = .ok (.getfield 63, 3) := by decide +kernel
theorem dX6_of_17 : decode cX6_of 17 = .ok (.iconst 1, 1) := by decide +kernel
theorem dX6_of_18 : decode cX6_of 18 = .ok (.iadd, 1) := by decide +kernel
theorem dX6_of_19 : decode cX6_of 19 = .ok (.idiv, 1) := by decide +kernel
theorem dX6_of_20 : decode cX6_of 20 = .ok (.istore_n 1, 1) := by decide +kernel
theorem dX6_of_21 : decode cX6_of 21 = .ok (.iinc 3 (-1), 3) := by decide +kernel
theorem dX6_of_24 : decode cX6_of 24 = .ok (.goto (-17), 3) := by decide +kernel
theorem dX6_of_27 : decode cX6_of 27 = .ok (.iload_n 1, 1) := by decide +kernel
theorem dX6_of_28 : decode cX6_of 28 = .ok (.aload_n 0, 1) := by decide +kernel
theorem dX6_of_29 : decode cX6_of 29 = .ok (.getfield 63, 3) := by decide +kernel
theorem dX6_of_32 : decode cX6_of 32 = .ok (.iconst 1, 1) := by decide +kernel
theorem dX6_of_33 : decode cX6_of 33 = .ok (.iadd, 1) := by decide +kernel
theorem dX6_of_34 : decode cX6_of 34 = .ok (.irem, 1) := by decide +kernel
theorem dX6_of_35 : decode cX6_of 35 = .ok (.ireturn, 1) := by decide +kernel
theorem dX6_sum_0 : decode cX6_sum 0 = .ok (.iconst 0, 1) := by decide +kernel
theorem dX6_sum_1 : decode cX6_sum 1 = .ok (.istore_n 2, 1) := by decide +kernel
theorem dX6_sum_2 : decode cX6_sum 2 = .ok (.iconst 0, 1) := by decide +kernel
theorem dX6_sum_3 : decode cX6_sum 3 = .ok (.istore_n 3, 1) := by decide +kernel
theorem dX6_sum_4 : decode cX6_sum 4 = .ok (.iload_n 3, 1) := by decide +kernel
theorem dX6_sum_5 : decode cX6_sum 5 = .ok (.aload_n 0, 1) := by decide +kernel
theorem dX6_sum_6 : decode cX6_sum 6 = .ok (.getfield 59, 3) := by decide +kernel
theorem dX6_sum_9 : decode cX6_sum 9 = .ok (.if_icmp .ge 18, 3) := by decide +kernel
theorem dX6_sum_12 : decode cX6_sum 12 = .ok (.iload_n 2, 1) := by decide +kernel
theorem dX6_sum_13 : decode cX6_sum 13 = .ok (.aload_n 0, 1) := by decide +kernel
theorem dX6_sum_14 : decode cX6_sum 14 = .ok (.iload_n 1, 1) := by decide +kernel
theorem dX6_sum_15 : decode cX6_sum 15 = .ok (.iload_n 3, 1) := by decide +kernel
theorem dX6_sum_16 : decode cX6_sum 16 = .ok (.invokevirtual 230, 3) := by decide +kernel
theorem dX6_sum_19 : decode cX6_sum 19 = .ok (.iadd, 1) := by decide +kernel
theorem dX6_sum_20 : decode cX6_sum 20 = .ok (.istore_n 2, 1) := by decide +kernel
theorem dX6_sum_21 : decode cX6_sum 21 = .ok (.iinc 3 1, 3) := by decide +kernel
theorem dX6_sum_24 : decode cX6_sum 24 = .ok (.goto (-20), 3) := by decide +kernel
theorem dX6_sum_27 : decode cX6_sum 27 = .ok (.iload_n 2, 1) := by decide +kernel
theorem dX6_sum_28 : decode cX6_sum 28 = .ok (.ireturn, 1) := by decide +kernel
theorem dX6_rowFits_0 : decode cX6_rowFits 0 = .ok (.iconst 0, 1) := by decide +kernel
theorem dX6_rowFits_1 : decode cX6_rowFits 1 = .ok (.istore_n 3, 1) := by decide +kernel
theorem dX6_rowFits_2 : decode cX6_rowFits 2 = .ok (.iload_n 3, 1) := by decide +kernel
theorem dX6_rowFits_3 : decode cX6_rowFits 3 = .ok (.aload_n 0, 1) := by decide +kernel
theorem dX6_rowFits_4 : decode cX6_rowFits 4 = .ok (.getfield 59, 3) := by decide +kernel
theorem dX6_rowFits_7 : decode cX6_rowFits 7 = .ok (.if_icmp .ge 30, 3) := by decide +kernel
theorem dX6_rowFits_10 : decode cX6_rowFits 10 = .ok (.aload_n 0, 1) := by decide +kernel
theorem dX6_rowFits_11 : decode cX6_rowFits 11 = .ok (.iload_n 1, 1) := by decide +kernel
theorem dX6_rowFits_12 : decode cX6_rowFits 12 = .ok (.iload_n 3, 1) := by decide +kernel
theorem dX6_rowFits_13 : decode cX6_rowFits 13 = .ok (.invokevirtual 230, 3) := by decide +kernel
theorem dX6_rowFits_16 : decode cX6_rowFits 16 = .ok (.aload_n 0, 1) := by decide +kernel
theorem dX6_rowFits_17 : decode cX6_rowFits 17 = .ok (.getfield 35, 3) := by decide +kernel
theorem dX6_rowFits_20 : decode cX6_rowFits 20 = .ok (.iconst 5, 1) := by decide +kernel
theorem dX6_rowFits_21 : decode cX6_rowFits 21 = .ok (.iload_n 2, 1) := by decide +kernel
theorem dX6_rowFits_22 : decode cX6_rowFits 22 = .ok (.imul, 1) := by decide +kernel
theorem dX6_rowFits_23 : decode cX6_rowFits 23 = .ok (.iload_n 3, 1) := by decide +kernel
theorem dX6_rowFits_24 : decode cX6_rowFits 24 = .ok (.iadd, 1) := by decide +kernel
theorem dX6_rowFits_25 : decode cX6_rowFits 25 = .ok (.iaload, 1) := by decide +kernel
theorem dX6_rowFits_26 : decode cX6_rowFits 26 = .ok (.if_icmp .ge 5, 3) := by decide +kernel
theorem dX6_rowFits_29 : decode cX6_rowFits 29 = .ok (.iconst 0, 1) := by decide +kernel
theorem dX6_rowFits_30 : decode cX6_rowFits 30 = .ok (.ireturn, 1) := by decide +kernel
theorem dX6_rowFits_31 : decode cX6_rowFits 31 = .ok (.iinc 3 1, 3) := by decide +kernel
theorem dX6_rowFits_34 : decode cX6_rowFits 34 = .ok (.goto (-32), 3) := by decide +kernel
theorem dX6_rowFits_37 : decode cX6_rowFits 37 = .ok (.iconst 1, 1) := by decide +kernel
theorem dX6_rowFits_38 : decode cX6_rowFits 38 = .ok (.ireturn, 1) := by decide +kernel
theorem dX6_fitsJust_0 : decode cX6_fitsJust 0 = .ok (.iconst 0, 1) := by decide +kernel
theorem dX6_fitsJust_1 : decode cX6_fitsJust 1 = .ok (.istore_n 3, 1) := by decide +kernel
theorem dX6_fitsJust_2 : decode cX6_fitsJust 2 = .ok (.iload_n 3, 1) := by decide +kernel
theorem dX6_fitsJust_3 : decode cX6_fitsJust 3 = .ok (.aload_n 0, 1) := by decide +kernel
theorem dX6_fitsJust_4 : decode cX6_fitsJust 4 = .ok (.getfield 79, 3) := by decide +kernel
theorem dX6_fitsJust_7 : decode cX6_fitsJust 7 = .ok (.if_icmp .ge 25, 3) := by decide +kernel
theorem dX6_fitsJust_10 : decode cX6_fitsJust 10 = .ok (.aload_n 0, 1) := by decide +kernel
theorem dX6_fitsJust_11 : decode cX6_fitsJust 11 = .ok (.iload_n 1, 1) := by decide +kernel
theorem dX6_fitsJust_12 : decode cX6_fitsJust 12 = .ok (.iload_n 3, 1) := by decide +kernel
theorem dX6_fitsJust_13 : decode cX6_fitsJust 13 = .ok (.invokevirtual 233, 3) := by decide +kernel
theorem dX6_fitsJust_16 : decode cX6_fitsJust 16 = .ok (.iload_n 2, 1) := by decide +kernel
theorem dX6_fitsJust_17 : decode cX6_fitsJust 17 = .ok (.iload_n 3, 1) := by decide +kernel
theorem dX6_fitsJust_18 : decode cX6_fitsJust 18 = .ok (.invokestatic 126, 3) := by decide +kernel
theorem dX6_fitsJust_21 : decode cX6_fitsJust 21 = .ok (.if_icmp .eq 5, 3) := by decide +kernel
theorem dX6_fitsJust_24 : decode cX6_fitsJust 24 = .ok (.iconst 0, 1) := by decide +kernel
theorem dX6_fitsJust_25 : decode cX6_fitsJust 25 = .ok (.ireturn, 1) := by decide +kernel
theorem dX6_fitsJust_26 : decode cX6_fitsJust 26 = .ok (.iinc 3 1, 3) := by decide +kernel
theorem dX6_fitsJust_29 : decode cX6_fitsJust 29 = .ok (.goto (-27), 3) := by decide +kernel
theorem dX6_fitsJust_32 : decode cX6_fitsJust 32 = .ok (.iconst 1, 1) := by decide +kernel
theorem dX6_fitsJust_33 : decode cX6_fitsJust 33 = .ok (.ireturn, 1) := by decide +kernel
theorem dX6_cuts_0 : decode cX6_cuts 0 = .ok (.iload_n 1, 1) := by decide +kernel
theorem dX6_cuts_1 : decode cX6_cuts 1 = .ok (.iconst 0, 1) := by decide +kernel
theorem dX6_cuts_2 : decode cX6_cuts 2 = .ok (.iconst 1, 1) := by decide +kernel
theorem dX6_cuts_3 : decode cX6_cuts 3 = .ok (.aload_n 0, 1) := by decide +kernel
theorem dX6_cuts_4 : decode cX6_cuts 4 = .ok (.getfield 79, 3) := by decide +kernel
theorem dX6_cuts_7 : decode cX6_cuts 7 = .ok (.ishl, 1) := by decide +kernel
theorem dX6_cuts_8 : decode cX6_cuts 8 = .ok (.iconst 1, 1) := by decide +kernel
theorem dX6_cuts_9 : decode cX6_cuts 9 = .ok (.isub, 1) := by decide +kernel
theorem dX6_cuts_10 : decode cX6_cuts 10 = .ok (.invokestatic 75, 3) := by decide +kernel
theorem dX6_cuts_13 : decode cX6_cuts 13 = .ok (.ifCond .eq 16, 3) := by decide +kernel
theorem dX6_cuts_16 : decode cX6_cuts 16 = .ok (.iload_n 2, 1) := by decide +kernel
theorem dX6_cuts_17 : decode cX6_cuts 17 = .ok (.iconst (-1), 1) := by decide +kernel
theorem dX6_cuts_18 : decode cX6_cuts 18 = .ok (.if_icmp .eq 18, 3) := by decide +kernel
theorem dX6_cuts_21 : decode cX6_cuts 21 = .ok (.aload_n 0, 1) := by decide +kernel
theorem dX6_cuts_22 : decode cX6_cuts 22 = .ok (.iload_n 2, 1) := by decide +kernel
theorem dX6_cuts_23 : decode cX6_cuts 23 = .ok (.invokevirtual 123, 3) := by decide +kernel
theorem dX6_cuts_26 : decode cX6_cuts 26 = .ok (.ifCond .ne 10, 3) := by decide +kernel
theorem dX6_cuts_29 : decode cX6_cuts 29 = .ok (.aload_n 0, 1) := by decide +kernel
theorem dX6_cuts_30 : decode cX6_cuts 30 = .ok (.bipush (-2), 2) := by decide +kernel
theorem dX6_cuts_32 : decode cX6_cuts 32 = .ok (.invokevirtual 82, 3) := by decide +kernel
theorem dX6_cuts_35 : decode cX6_cuts 35 = .ok (.ireturn, 1) := by decide +kernel
theorem dX6_cuts_36 : decode cX6_cuts 36 = .ok (.iconst (-1), 1) := by decide +kernel
theorem dX6_cuts_37 : decode cX6_cuts 37 = .ok (.istore_n 3, 1) := by decide +kernel
theorem dX6_cuts_38 : decode cX6_cuts 38 = .ok (.iconst 0, 1) := by decide +kernel
theorem dX6_cuts_39 : decode cX6_cuts 39 = .ok (.istore 4, 2) := by decide +kernel
theorem dX6_cuts_41 : decode cX6_cuts 41 = .ok (.iload 4, 2) := by decide +kernel
theorem dX6_cuts_43 : decode cX6_cuts 43 = .ok (.aload_n 0, 1) := by decide +kernel
theorem dX6_cuts_44 : decode cX6_cuts 44 = .ok (.invokevirtual 236, 3) := by decide +kernel
theorem dX6_cuts_47 : decode cX6_cuts 47 = .ok (.if_icmp .ge 40, 3) := by decide +kernel
theorem dX6_cuts_50 : decode cX6_cuts 50 = .ok (.aload_n 0, 1) := by decide +kernel
theorem dX6_cuts_51 : decode cX6_cuts 51 = .ok (.iload 4, 2) := by decide +kernel
theorem dX6_cuts_53 : decode cX6_cuts 53 = .ok (.iload_n 1, 1) := by decide +kernel
theorem dX6_cuts_54 : decode cX6_cuts 54 = .ok (.invokevirtual 239, 3) := by decide +kernel
theorem dX6_cuts_57 : decode cX6_cuts 57 = .ok (.ifCond .eq 24, 3) := by decide +kernel
theorem dX6_cuts_60 : decode cX6_cuts 60 = .ok (.iload_n 3, 1) := by decide +kernel
theorem dX6_cuts_61 : decode cX6_cuts 61 = .ok (.ifCond .lt 17, 3) := by decide +kernel
theorem dX6_cuts_64 : decode cX6_cuts 64 = .ok (.aload_n 0, 1) := by decide +kernel
theorem dX6_cuts_65 : decode cX6_cuts 65 = .ok (.iload 4, 2) := by decide +kernel
theorem dX6_cuts_67 : decode cX6_cuts 67 = .ok (.invokevirtual 242, 3) := by decide +kernel
theorem dX6_cuts_70 : decode cX6_cuts 70 = .ok (.aload_n 0, 1) := by decide +kernel
theorem dX6_cuts_71 : decode cX6_cuts 71 = .ok (.iload_n 3, 1) := by decide +kernel
theorem dX6_cuts_72 : decode cX6_cuts 72 = .ok (.invokevirtual 242, 3) := by decide +kernel
theorem dX6_cuts_75 : decode cX6_cuts 75 = .ok (.if_icmp .ge 6, 3) := by decide +kernel
theorem dX6_cuts_78 : decode cX6_cuts 78 = .ok (.iload 4, 2) := by decide +kernel
theorem dX6_cuts_80 : decode cX6_cuts 80 = .ok (.istore_n 3, 1) := by decide +kernel
theorem dX6_cuts_81 : decode cX6_cuts 81 = .ok (.iinc 4 1, 3) := by decide +kernel
theorem dX6_cuts_84 : decode cX6_cuts 84 = .ok (.goto (-43), 3) := by decide +kernel
theorem dX6_cuts_87 : decode cX6_cuts 87 = .ok (.iload_n 3, 1) := by decide +kernel
theorem dX6_cuts_88 : decode cX6_cuts 88 = .ok (.ifCond .ge 7, 3) := by decide +kernel
theorem dX6_cuts_91 : decode cX6_cuts 91 = .ok (.iconst (-1), 1) := by decide +kernel
theorem dX6_cuts_92 : decode cX6_cuts 92 = .ok (.goto 22, 3) := by decide +kernel
theorem dX6_cuts_95 : decode cX6_cuts 95 = .ok (.iload_n 2, 1) := by decide +kernel
theorem dX6_cuts_96 : decode cX6_cuts 96 = .ok (.iconst (-1), 1) := by decide +kernel
theorem dX6_cuts_97 : decode cX6_cuts 97 = .ok (.if_icmp .ne 11, 3) := by decide +kernel
theorem dX6_cuts_100 : decode cX6_cuts 100 = .ok (.aload_n 0, 1) := by decide +kernel
theorem dX6_cuts_101 : decode cX6_cuts 101 = .ok (.iload_n 3, 1) := by decide +kernel
theorem dX6_cuts_102 : decode cX6_cuts 102 = .ok (.invokevirtual 242, 3) := by decide +kernel
theorem dX6_cuts_105 : decode cX6_cuts 105 = .ok (.goto 9, 3) := by decide +kernel
theorem dX6_cuts_108 : decode cX6_cuts 108 = .ok (.aload_n 0, 1) := by decide +kernel
theorem dX6_cuts_109 : decode cX6_cuts 109 = .ok (.iload_n 3, 1) := by decide +kernel
theorem dX6_cuts_110 : decode cX6_cuts 110 = .ok (.iload_n 2, 1) := by decide +kernel
theorem dX6_cuts_111 : decode cX6_cuts 111 = .ok (.invokevirtual 230, 3) := by decide +kernel
theorem dX6_cuts_114 : decode cX6_cuts 114 = .ok (.ireturn, 1) := by decide +kernel
theorem dX6_many_0 : decode cX6_many 0 = .ok (.iload_n 1, 1) := by decide +kernel
theorem dX6_many_1 : decode cX6_many 1 = .ok (.iconst 0, 1) := by decide +kernel
theorem dX6_many_2 : decode cX6_many 2 = .ok (.iconst 1, 1) := by decide +kernel
theorem dX6_many_3 : decode cX6_many 3 = .ok (.aload_n 0, 1) := by decide +kernel
theorem dX6_many_4 : decode cX6_many 4 = .ok (.getfield 79, 3) := by decide +kernel
theorem dX6_many_7 : decode cX6_many 7 = .ok (.ishl, 1) := by decide +kernel
theorem dX6_many_8 : decode cX6_many 8 = .ok (.iconst 1, 1) := by decide +kernel
theorem dX6_many_9 : decode cX6_many 9 = .ok (.isub, 1) := by decide +kernel
theorem dX6_many_10 : decode cX6_many 10 = .ok (.invokestatic 75, 3) := by decide +kernel
theorem dX6_many_13 : decode cX6_many 13 = .ok (.ifCond .ne 10, 3) := by decide +kernel
theorem dX6_many_16 : decode cX6_many 16 = .ok (.aload_n 0, 1) := by decide +kernel
theorem dX6_many_17 : decode cX6_many 17 = .ok (.bipush (-2), 2) := by decide +kernel
theorem dX6_many_19 : decode cX6_many 19 = .ok (.invokevirtual 82, 3) := by decide +kernel
theorem dX6_many_22 : decode cX6_many 22 = .ok (.ireturn, 1) := by decide +kernel
theorem dX6_many_23 : decode cX6_many 23 = .ok (.iconst 0, 1) := by decide +kernel
theorem dX6_many_24 : decode cX6_many 24 = .ok (.istore_n 2, 1) := by decide +kernel
theorem dX6_many_25 : decode cX6_many 25 = .ok (.iconst 0, 1) := by decide +kernel
theorem dX6_many_26 : decode cX6_many 26 = .ok (.istore_n 3, 1) := by decide +kernel
theorem dX6_many_27 : decode cX6_many 27 = .ok (.iload_n 3, 1) := by decide +kernel
theorem dX6_many_28 : decode cX6_many 28 = .ok (.aload_n 0, 1) := by decide +kernel
theorem dX6_many_29 : decode cX6_many 29 = .ok (.invokevirtual 236, 3) := by decide +kernel
theorem dX6_many_32 : decode cX6_many 32 = .ok (.if_icmp .ge 21, 3) := by decide +kernel
theorem dX6_many_35 : decode cX6_many 35 = .ok (.aload_n 0, 1) := by decide +kernel
theorem dX6_many_36 : decode cX6_many 36 = .ok (.iload_n 3, 1) := by decide +kernel
theorem dX6_many_37 : decode cX6_many 37 = .ok (.iload_n 1, 1) := by decide +kernel
theorem dX6_many_38 : decode cX6_many 38 = .ok (.invokevirtual 239, 3) := by decide +kernel
theorem dX6_many_41 : decode cX6_many 41 = .ok (.ifCond .eq 6, 3) := by decide +kernel
theorem dX6_many_44 : decode cX6_many 44 = .ok (.iinc 2 1, 3) := by decide +kernel
theorem dX6_many_47 : decode cX6_many 47 = .ok (.iinc 3 1, 3) := by decide +kernel
theorem dX6_many_50 : decode cX6_many 50 = .ok (.goto (-23), 3) := by decide +kernel
theorem dX6_many_53 : decode cX6_many 53 = .ok (.iload_n 2, 1) := by decide +kernel
theorem dX6_many_54 : decode cX6_many 54 = .ok (.ireturn, 1) := by decide +kernel
theorem dX6_asked_0 : decode cX6_asked 0 = .ok (.iload_n 1, 1) := by decide +kernel
theorem dX6_asked_1 : decode cX6_asked 1 = .ok (.iconst 0, 1) := by decide +kernel
theorem dX6_asked_2 : decode cX6_asked 2 = .ok (.iconst 1, 1) := by decide +kernel
theorem dX6_asked_3 : decode cX6_asked 3 = .ok (.aload_n 0, 1) := by decide +kernel
theorem dX6_asked_4 : decode cX6_asked 4 = .ok (.getfield 72, 3) := by decide +kernel
theorem dX6_asked_7 : decode cX6_asked 7 = .ok (.ishl, 1) := by decide +kernel
theorem dX6_asked_8 : decode cX6_asked 8 = .ok (.iconst 1, 1) := by decide +kernel
theorem dX6_asked_9 : decode cX6_asked 9 = .ok (.isub, 1) := by decide +kernel
theorem dX6_asked_10 : decode cX6_asked 10 = .ok (.invokestatic 75, 3) := by decide +kernel
theorem dX6_asked_13 : decode cX6_asked 13 = .ok (.ifCond .eq 16, 3) := by decide +kernel
theorem dX6_asked_16 : decode cX6_asked 16 = .ok (.iload_n 2, 1) := by decide +kernel
theorem dX6_asked_17 : decode cX6_asked 17 = .ok (.iconst (-1), 1) := by decide +kernel
theorem dX6_asked_18 : decode cX6_asked 18 = .ok (.if_icmp .eq 18, 3) := by decide +kernel
theorem dX6_asked_21 : decode cX6_asked 21 = .ok (.aload_n 0, 1) := by decide +kernel
theorem dX6_asked_22 : decode cX6_asked 22 = .ok (.iload_n 2, 1) := by decide +kernel
theorem dX6_asked_23 : decode cX6_asked 23 = .ok (.invokevirtual 123, 3) := by decide +kernel
theorem dX6_asked_26 : decode cX6_asked 26 = .ok (.ifCond .ne 10, 3) := by decide +kernel
theorem dX6_asked_29 : decode cX6_asked 29 = .ok (.aload_n 0, 1) := by decide +kernel
theorem dX6_asked_30 : decode cX6_asked 30 = .ok (.bipush (-2), 2) := by decide +kernel
theorem dX6_asked_32 : decode cX6_asked 32 = .ok (.invokevirtual 82, 3) := by decide +kernel
theorem dX6_asked_35 : decode cX6_asked 35 = .ok (.ireturn, 1) := by decide +kernel
theorem dX6_asked_36 : decode cX6_asked 36 = .ok (.iconst (-1), 1) := by decide +kernel
theorem dX6_asked_37 : decode cX6_asked 37 = .ok (.istore_n 3, 1) := by decide +kernel
theorem dX6_asked_38 : decode cX6_asked 38 = .ok (.iconst 0, 1) := by decide +kernel
theorem dX6_asked_39 : decode cX6_asked 39 = .ok (.istore 4, 2) := by decide +kernel
theorem dX6_asked_41 : decode cX6_asked 41 = .ok (.iload 4, 2) := by decide +kernel
theorem dX6_asked_43 : decode cX6_asked 43 = .ok (.aload_n 0, 1) := by decide +kernel
theorem dX6_asked_44 : decode cX6_asked 44 = .ok (.invokevirtual 236, 3) := by decide +kernel
theorem dX6_asked_47 : decode cX6_asked 47 = .ok (.if_icmp .ge 113, 3) := by decide +kernel
theorem dX6_asked_50 : decode cX6_asked 50 = .ok (.iconst 1, 1) := by decide +kernel
theorem dX6_asked_51 : decode cX6_asked 51 = .ok (.istore 5, 2) := by decide +kernel
theorem dX6_asked_53 : decode cX6_asked 53 = .ok (.iconst 0, 1) := by decide +kernel
theorem dX6_asked_54 : decode cX6_asked 54 = .ok (.istore 6, 2) := by decide +kernel
theorem dX6_asked_56 : decode cX6_asked 56 = .ok (.iload 6, 2) := by decide +kernel
theorem dX6_asked_58 : decode cX6_asked 58 = .ok (.aload_n 0, 1) := by decide +kernel
theorem dX6_asked_59 : decode cX6_asked 59 = .ok (.getfield 72, 3) := by decide +kernel
theorem dX6_asked_62 : decode cX6_asked 62 = .ok (.if_icmp .ge 66, 3) := by decide +kernel
theorem dX6_asked_65 : decode cX6_asked 65 = .ok (.iconst 1, 1) := by decide +kernel
theorem dX6_asked_66 : decode cX6_asked 66 = .ok (.istore 7, 2) := by decide +kernel
theorem dX6_asked_68 : decode cX6_asked 68 = .ok (.iconst 0, 1) := by decide +kernel
theorem dX6_asked_69 : decode cX6_asked 69 = .ok (.istore 8, 2) := by decide +kernel
theorem dX6_asked_71 : decode cX6_asked 71 = .ok (.iload 8, 2) := by decide +kernel
theorem dX6_asked_73 : decode cX6_asked 73 = .ok (.aload_n 0, 1) := by decide +kernel
theorem dX6_asked_74 : decode cX6_asked 74 = .ok (.getfield 59, 3) := by decide +kernel
theorem dX6_asked_77 : decode cX6_asked 77 = .ok (.if_icmp .ge 31, 3) := by decide +kernel
theorem dX6_asked_80 : decode cX6_asked 80 = .ok (.aload_n 0, 1) := by decide +kernel
theorem dX6_asked_81 : decode cX6_asked 81 = .ok (.iload 6, 2) := by decide +kernel
theorem dX6_asked_83 : decode cX6_asked 83 = .ok (.iload 8, 2) := by decide +kernel
theorem dX6_asked_85 : decode cX6_asked 85 = .ok (.invokevirtual 204, 3) := by decide +kernel
theorem dX6_asked_88 : decode cX6_asked 88 = .ok (.aload_n 0, 1) := by decide +kernel
theorem dX6_asked_89 : decode cX6_asked 89 = .ok (.iload 4, 2) := by decide +kernel
theorem dX6_asked_91 : decode cX6_asked 91 = .ok (.iload 8, 2) := by decide +kernel
theorem dX6_asked_93 : decode cX6_asked 93 = .ok (.invokevirtual 230, 3) := by decide +kernel
theorem dX6_asked_96 : decode cX6_asked 96 = .ok (.if_icmp .ge 6, 3) := by decide +kernel
theorem dX6_asked_99 : decode cX6_asked 99 = .ok (.iconst 0, 1) := by decide +kernel
theorem dX6_asked_100 : decode cX6_asked 100 = .ok (.istore 7, 2) := by decide +kernel
theorem dX6_asked_102 : decode cX6_asked 102 = .ok (.iinc 8 1, 3) := by decide +kernel
theorem dX6_asked_105 : decode cX6_asked 105 = .ok (.goto (-34), 3) := by decide +kernel
theorem dX6_asked_108 : decode cX6_asked 108 = .ok (.iload 7, 2) := by decide +kernel
theorem dX6_asked_110 : decode cX6_asked 110 = .ok (.iload_n 1, 1) := by decide +kernel
theorem dX6_asked_111 : decode cX6_asked 111 = .ok (.iload 6, 2) := by decide +kernel
theorem dX6_asked_113 : decode cX6_asked 113 = .ok (.invokestatic 126, 3) := by decide +kernel
theorem dX6_asked_116 : decode cX6_asked 116 = .ok (.if_icmp .eq 6, 3) := by decide +kernel
theorem dX6_asked_119 : decode cX6_asked 119 = .ok (.iconst 0, 1) := by decide +kernel
theorem dX6_asked_120 : decode cX6_asked 120 = .ok (.istore 5, 2) := by decide +kernel
theorem dX6_asked_122 : decode cX6_asked 122 = .ok (.iinc 6 1, 3) := by decide +kernel
theorem dX6_asked_125 : decode cX6_asked 125 = .ok (.goto (-69), 3) := by decide +kernel
theorem dX6_asked_128 : decode cX6_asked 128 = .ok (.iload 5, 2) := by decide +kernel
theorem dX6_asked_130 : decode cX6_asked 130 = .ok (.ifCond .eq 24, 3) := by decide +kernel
theorem dX6_asked_133 : decode cX6_asked 133 = .ok (.iload_n 3, 1) := by decide +kernel
theorem dX6_asked_134 : decode cX6_asked 134 = .ok (.ifCond .lt 17, 3) := by decide +kernel
theorem dX6_asked_137 : decode cX6_asked 137 = .ok (.aload_n 0, 1) := by decide +kernel
theorem dX6_asked_138 : decode cX6_asked 138 = .ok (.iload 4, 2) := by decide +kernel
theorem dX6_asked_140 : decode cX6_asked 140 = .ok (.invokevirtual 242, 3) := by decide +kernel
theorem dX6_asked_143 : decode cX6_asked 143 = .ok (.aload_n 0, 1) := by decide +kernel
theorem dX6_asked_144 : decode cX6_asked 144 = .ok (.iload_n 3, 1) := by decide +kernel
theorem dX6_asked_145 : decode cX6_asked 145 = .ok (.invokevirtual 242, 3) := by decide +kernel
theorem dX6_asked_148 : decode cX6_asked 148 = .ok (.if_icmp .ge 6, 3) := by decide +kernel
theorem dX6_asked_151 : decode cX6_asked 151 = .ok (.iload 4, 2) := by decide +kernel
theorem dX6_asked_153 : decode cX6_asked 153 = .ok (.istore_n 3, 1) := by decide +kernel
theorem dX6_asked_154 : decode cX6_asked 154 = .ok (.iinc 4 1, 3) := by decide +kernel
theorem dX6_asked_157 : decode cX6_asked 157 = .ok (.goto (-116), 3) := by decide +kernel
theorem dX6_asked_160 : decode cX6_asked 160 = .ok (.iload_n 3, 1) := by decide +kernel
theorem dX6_asked_161 : decode cX6_asked 161 = .ok (.ifCond .ge 7, 3) := by decide +kernel
theorem dX6_asked_164 : decode cX6_asked 164 = .ok (.iconst (-1), 1) := by decide +kernel
theorem dX6_asked_165 : decode cX6_asked 165 = .ok (.goto 22, 3) := by decide +kernel
theorem dX6_asked_168 : decode cX6_asked 168 = .ok (.iload_n 2, 1) := by decide +kernel
theorem dX6_asked_169 : decode cX6_asked 169 = .ok (.iconst (-1), 1) := by decide +kernel
theorem dX6_asked_170 : decode cX6_asked 170 = .ok (.if_icmp .ne 11, 3) := by decide +kernel
theorem dX6_asked_173 : decode cX6_asked 173 = .ok (.aload_n 0, 1) := by decide +kernel
theorem dX6_asked_174 : decode cX6_asked 174 = .ok (.iload_n 3, 1) := by decide +kernel
theorem dX6_asked_175 : decode cX6_asked 175 = .ok (.invokevirtual 242, 3) := by decide +kernel
theorem dX6_asked_178 : decode cX6_asked 178 = .ok (.goto 9, 3) := by decide +kernel
theorem dX6_asked_181 : decode cX6_asked 181 = .ok (.aload_n 0, 1) := by decide +kernel
theorem dX6_asked_182 : decode cX6_asked 182 = .ok (.iload_n 3, 1) := by decide +kernel
theorem dX6_asked_183 : decode cX6_asked 183 = .ok (.iload_n 2, 1) := by decide +kernel
theorem dX6_asked_184 : decode cX6_asked 184 = .ok (.invokevirtual 230, 3) := by decide +kernel
theorem dX6_asked_187 : decode cX6_asked 187 = .ok (.ireturn, 1) := by decide +kernel
theorem dX6_filing_0 : decode cX6_filing 0 = .ok (.iconst 0, 1) := by decide +kernel
theorem dX6_filing_1 : decode cX6_filing 1 = .ok (.istore_n 3, 1) := by decide +kernel
theorem dX6_filing_2 : decode cX6_filing 2 = .ok (.iconst 0, 1) := by decide +kernel
theorem dX6_filing_3 : decode cX6_filing 3 = .ok (.istore 4, 2) := by decide +kernel
theorem dX6_filing_5 : decode cX6_filing 5 = .ok (.iload 4, 2) := by decide +kernel
theorem dX6_filing_7 : decode cX6_filing 7 = .ok (.aload_n 0, 1) := by decide +kernel
theorem dX6_filing_8 : decode cX6_filing 8 = .ok (.getfield 59, 3) := by decide +kernel
theorem dX6_filing_11 : decode cX6_filing 11 = .ok (.if_icmp .ge 81, 3) := by decide +kernel
theorem dX6_filing_14 : decode cX6_filing 14 = .ok (.aload_n 0, 1) := by decide +kernel
theorem dX6_filing_15 : decode cX6_filing 15 = .ok (.getfield 29, 3) := by decide +kernel
theorem dX6_filing_18 : decode cX6_filing 18 = .ok (.iconst 5, 1) := by decide +kernel
theorem dX6_filing_19 : decode cX6_filing 19 = .ok (.iload_n 1, 1) := by decide +kernel
theorem dX6_filing_20 : decode cX6_filing 20 = .ok (.imul, 1) := by decide +kernel
theorem dX6_filing_21 : decode cX6_filing 21 = .ok (.iload 4, 2) := by decide +kernel
theorem dX6_filing_23 : decode cX6_filing 23 = .ok (.iadd, 1) := by decide +kernel
theorem dX6_filing_24 : decode cX6_filing 24 = .ok (.iaload, 1) := by decide +kernel
theorem dX6_filing_25 : decode cX6_filing 25 = .ok (.istore 5, 2) := by decide +kernel
theorem dX6_filing_27 : decode cX6_filing 27 = .ok (.aload_n 0, 1) := by decide +kernel
theorem dX6_filing_28 : decode cX6_filing 28 = .ok (.iload_n 2, 1) := by decide +kernel
theorem dX6_filing_29 : decode cX6_filing 29 = .ok (.iload 4, 2) := by decide +kernel
theorem dX6_filing_31 : decode cX6_filing 31 = .ok (.invokevirtual 230, 3) := by decide +kernel
theorem dX6_filing_34 : decode cX6_filing 34 = .ok (.istore 6, 2) := by decide +kernel
theorem dX6_filing_36 : decode cX6_filing 36 = .ok (.iload 6, 2) := by decide +kernel
theorem dX6_filing_38 : decode cX6_filing 38 = .ok (.iload 5, 2) := by decide +kernel
theorem dX6_filing_40 : decode cX6_filing 40 = .ok (.if_icmp .lt 20, 3) := by decide +kernel
theorem dX6_filing_43 : decode cX6_filing 43 = .ok (.iload 6, 2) := by decide +kernel
theorem dX6_filing_45 : decode cX6_filing 45 = .ok (.iload 5, 2) := by decide +kernel
theorem dX6_filing_47 : decode cX6_filing 47 = .ok (.if_icmp .le 15, 3) := by decide +kernel
theorem dX6_filing_50 : decode cX6_filing 50 = .ok (.aload_n 0, 1) := by decide +kernel
theorem dX6_filing_51 : decode cX6_filing 51 = .ok (.getfield 20, 3) := by decide +kernel
theorem dX6_filing_54 : decode cX6_filing 54 = .ok (.iload_n 1, 1) := by decide +kernel
theorem dX6_filing_55 : decode cX6_filing 55 = .ok (.iaload, 1) := by decide +kernel
theorem dX6_filing_56 : decode cX6_filing 56 = .ok (.iconst 4, 1) := by decide +kernel
theorem dX6_filing_57 : decode cX6_filing 57 = .ok (.if_icmp .ne 5, 3) := by decide +kernel
theorem dX6_filing_60 : decode cX6_filing 60 = .ok (.iconst (-1), 1) := by decide +kernel
theorem dX6_filing_61 : decode cX6_filing 61 = .ok (.ireturn, 1) := by decide +kernel
theorem dX6_filing_62 : decode cX6_filing 62 = .ok (.iload 5, 2) := by decide +kernel
theorem dX6_filing_64 : decode cX6_filing 64 = .ok (.iconst 1, 1) := by decide +kernel
theorem dX6_filing_65 : decode cX6_filing 65 = .ok (.iadd, 1) := by decide +kernel
theorem dX6_filing_66 : decode cX6_filing 66 = .ok (.istore 7, 2) := by decide +kernel
theorem dX6_filing_68 : decode cX6_filing 68 = .ok (.iload 7, 2) := by decide +kernel
theorem dX6_filing_70 : decode cX6_filing 70 = .ok (.iload 6, 2) := by decide +kernel
theorem dX6_filing_72 : decode cX6_filing 72 = .ok (.if_icmp .gt 14, 3) := by decide +kernel
theorem dX6_filing_75 : decode cX6_filing 75 = .ok (.iload_n 3, 1) := by decide +kernel
theorem dX6_filing_76 : decode cX6_filing 76 = .ok (.iload 7, 2) := by decide +kernel
theorem dX6_filing_78 : decode cX6_filing 78 = .ok (.iadd, 1) := by decide +kernel
theorem dX6_filing_79 : decode cX6_filing 79 = .ok (.istore_n 3, 1) := by decide +kernel
theorem dX6_filing_80 : decode cX6_filing 80 = .ok (.iinc 7 1, 3) := by decide +kernel
theorem dX6_filing_83 : decode cX6_filing 83 = .ok (.goto (-15), 3) := by decide +kernel
theorem dX6_filing_86 : decode cX6_filing 86 = .ok (.iinc 4 1, 3) := by decide +kernel
theorem dX6_filing_89 : decode cX6_filing 89 = .ok (.goto (-84), 3) := by decide +kernel
theorem dX6_filing_92 : decode cX6_filing 92 = .ok (.iload_n 3, 1) := by decide +kernel
theorem dX6_filing_93 : decode cX6_filing 93 = .ok (.ireturn, 1) := by decide +kernel
theorem dX6_least_0 : decode cX6_least 0 = .ok (.iconst (-1), 1) := by decide +kernel
theorem dX6_least_1 : decode cX6_least 1 = .ok (.istore_n 3, 1) := by decide +kernel
theorem dX6_least_2 : decode cX6_least 2 = .ok (.iconst 0, 1) := by decide +kernel
theorem dX6_least_3 : decode cX6_least 3 = .ok (.istore 4, 2) := by decide +kernel
theorem dX6_least_5 : decode cX6_least 5 = .ok (.iload 4, 2) := by decide +kernel
theorem dX6_least_7 : decode cX6_least 7 = .ok (.aload_n 0, 1) := by decide +kernel
theorem dX6_least_8 : decode cX6_least 8 = .ok (.getfield 59, 3) := by decide +kernel
theorem dX6_least_11 : decode cX6_least 11 = .ok (.if_icmp .ge 27, 3) := by decide +kernel
theorem dX6_least_14 : decode cX6_least 14 = .ok (.aload_n 0, 1) := by decide +kernel
theorem dX6_least_15 : decode cX6_least 15 = .ok (.getfield 50, 3) := by decide +kernel
theorem dX6_least_18 : decode cX6_least 18 = .ok (.iload 4, 2) := by decide +kernel
theorem dX6_least_20 : decode cX6_least 20 = .ok (.aload_n 0, 1) := by decide +kernel
theorem dX6_least_21 : decode cX6_least 21 = .ok (.getfield 29, 3) := by decide +kernel
theorem dX6_least_24 : decode cX6_least 24 = .ok (.iconst 5, 1) := by decide +kernel
theorem dX6_least_25 : decode cX6_least 25 = .ok (.iload_n 1, 1) := by decide +kernel
theorem dX6_least_26 : decode cX6_least 26 = .ok (.imul, 1) := by decide +kernel
theorem dX6_least_27 : decode cX6_least 27 = .ok (.iload 4, 2) := by decide +kernel
theorem dX6_least_29 : decode cX6_least 29 = .ok (.iadd, 1) := by decide +kernel
theorem dX6_least_30 : decode cX6_least 30 = .ok (.iaload, 1) := by decide +kernel
theorem dX6_least_31 : decode cX6_least 31 = .ok (.iastore, 1) := by decide +kernel
theorem dX6_least_32 : decode cX6_least 32 = .ok (.iinc 4 1, 3) := by decide +kernel
theorem dX6_least_35 : decode cX6_least 35 = .ok (.goto (-30), 3) := by decide +kernel
theorem dX6_least_38 : decode cX6_least 38 = .ok (.iconst 0, 1) := by decide +kernel
theorem dX6_least_39 : decode cX6_least 39 = .ok (.istore 4, 2) := by decide +kernel
theorem dX6_least_41 : decode cX6_least 41 = .ok (.iload 4, 2) := by decide +kernel
theorem dX6_least_43 : decode cX6_least 43 = .ok (.aload_n 0, 1) := by decide +kernel
theorem dX6_least_44 : decode cX6_least 44 = .ok (.invokevirtual 236, 3) := by decide +kernel
theorem dX6_least_47 : decode cX6_least 47 = .ok (.if_icmp .ge 190, 3) := by decide +kernel
theorem dX6_least_50 : decode cX6_least 50 = .ok (.aload_n 0, 1) := by decide +kernel
theorem dX6_least_51 : decode cX6_least 51 = .ok (.iload_n 1, 1) := by decide +kernel
theorem dX6_least_52 : decode cX6_least 52 = .ok (.iload 4, 2) := by decide +kernel
theorem dX6_least_54 : decode cX6_least 54 = .ok (.invokevirtual 245, 3) := by decide +kernel
theorem dX6_least_57 : decode cX6_least 57 = .ok (.istore 5, 2) := by decide +kernel
theorem dX6_least_59 : decode cX6_least 59 = .ok (.iload 5, 2) := by decide +kernel
theorem dX6_least_61 : decode cX6_least 61 = .ok (.ifCond .lt 170, 3) := by decide +kernel
theorem dX6_least_64 : decode cX6_least 64 = .ok (.iload_n 3, 1) := by decide +kernel
theorem dX6_least_65 : decode cX6_least 65 = .ok (.ifCond .lt 12, 3) := by decide +kernel
theorem dX6_least_68 : decode cX6_least 68 = .ok (.iload 5, 2) := by decide +kernel
theorem dX6_least_70 : decode cX6_least 70 = .ok (.iload_n 3, 1) := by decide +kernel
theorem dX6_least_71 : decode cX6_least 71 = .ok (.if_icmp .lt 6, 3) := by decide +kernel
theorem dX6_least_74 : decode cX6_least 74 = .ok (.goto 157, 3) := by decide +kernel
theorem dX6_least_77 : decode cX6_least 77 = .ok (.iconst 0, 1) := by decide +kernel
theorem dX6_least_78 : decode cX6_least 78 = .ok (.istore 6, 2) := by decide +kernel
theorem dX6_least_80 : decode cX6_least 80 = .ok (.iload 6, 2) := by decide +kernel
theorem dX6_least_82 : decode cX6_least 82 = .ok (.aload_n 0, 1) := by decide +kernel
theorem dX6_least_83 : decode cX6_least 83 = .ok (.getfield 59, 3) := by decide +kernel
theorem dX6_least_86 : decode cX6_least 86 = .ok (.if_icmp .ge 28, 3) := by decide +kernel
theorem dX6_least_89 : decode cX6_least 89 = .ok (.aload_n 0, 1) := by decide +kernel
theorem dX6_least_90 : decode cX6_least 90 = .ok (.getfield 29, 3) := by decide +kernel
theorem dX6_least_93 : decode cX6_least 93 = .ok (.iconst 5, 1) := by decide +kernel
theorem dX6_least_94 : decode cX6_least 94 = .ok (.iload_n 1, 1) := by decide +kernel
theorem dX6_least_95 : decode cX6_least 95 = .ok (.imul, 1) := by decide +kernel
theorem dX6_least_96 : decode cX6_least 96 = .ok (.iload 6, 2) := by decide +kernel
theorem dX6_least_98 : decode cX6_least 98 = .ok (.iadd, 1) := by decide +kernel
theorem dX6_least_99 : decode cX6_least 99 = .ok (.aload_n 0, 1) := by decide +kernel
theorem dX6_least_100 : decode cX6_least 100 = .ok (.iload 4, 2) := by decide +kernel
theorem dX6_least_102 : decode cX6_least 102 = .ok (.iload 6, 2) := by decide +kernel
theorem dX6_least_104 : decode cX6_least 104 = .ok (.invokevirtual 230, 3) := by decide +kernel
theorem dX6_least_107 : decode cX6_least 107 = .ok (.iastore, 1) := by decide +kernel
theorem dX6_least_108 : decode cX6_least 108 = .ok (.iinc 6 1, 3) := by decide +kernel
theorem dX6_least_111 : decode cX6_least 111 = .ok (.goto (-31), 3) := by decide +kernel
theorem dX6_least_114 : decode cX6_least 114 = .ok (.iload_n 2, 1) := by decide +kernel
theorem dX6_least_115 : decode cX6_least 115 = .ok (.iconst (-1), 1) := by decide +kernel
theorem dX6_least_116 : decode cX6_least 116 = .ok (.if_icmp .ne 25, 3) := by decide +kernel
theorem dX6_least_119 : decode cX6_least 119 = .ok (.aload_n 0, 1) := by decide +kernel
theorem dX6_least_120 : decode cX6_least 120 = .ok (.iload_n 1, 1) := by decide +kernel
theorem dX6_least_121 : decode cX6_least 121 = .ok (.invokevirtual 106, 3) := by decide +kernel
theorem dX6_least_124 : decode cX6_least 124 = .ok (.aload_n 0, 1) := by decide +kernel
theorem dX6_least_125 : decode cX6_least 125 = .ok (.getfield 26, 3) := by decide +kernel
theorem dX6_least_128 : decode cX6_least 128 = .ok (.iload_n 1, 1) := by decide +kernel
theorem dX6_least_129 : decode cX6_least 129 = .ok (.iaload, 1) := by decide +kernel
theorem dX6_least_130 : decode cX6_least 130 = .ok (.if_icmp .ne 7, 3) := by decide +kernel
theorem dX6_least_133 : decode cX6_least 133 = .ok (.iconst 1, 1) := by decide +kernel
theorem dX6_least_134 : decode cX6_least 134 = .ok (.goto 13, 3) := by decide +kernel
theorem dX6_least_137 : decode cX6_least 137 = .ok (.iconst 0, 1) := by decide +kernel
theorem dX6_least_138 : decode cX6_least 138 = .ok (.goto 9, 3) := by decide +kernel
theorem dX6_least_141 : decode cX6_least 141 = .ok (.aload_n 0, 1) := by decide +kernel
theorem dX6_least_142 : decode cX6_least 142 = .ok (.iload_n 1, 1) := by decide +kernel
theorem dX6_least_143 : decode cX6_least 143 = .ok (.iload_n 2, 1) := by decide +kernel
theorem dX6_least_144 : decode cX6_least 144 = .ok (.invokevirtual 103, 3) := by decide +kernel
theorem dX6_least_147 : decode cX6_least 147 = .ok (.istore 6, 2) := by decide +kernel
theorem dX6_least_149 : decode cX6_least 149 = .ok (.iload 6, 2) := by decide +kernel
theorem dX6_least_151 : decode cX6_least 151 = .ok (.ifCond .eq 36, 3) := by decide +kernel
theorem dX6_least_154 : decode cX6_least 154 = .ok (.iconst 0, 1) := by decide +kernel
theorem dX6_least_155 : decode cX6_least 155 = .ok (.istore 7, 2) := by decide +kernel
theorem dX6_least_157 : decode cX6_least 157 = .ok (.iload 7, 2) := by decide +kernel
theorem dX6_least_159 : decode cX6_least 159 = .ok (.aload_n 0, 1) := by decide +kernel
theorem dX6_least_160 : decode cX6_least 160 = .ok (.getfield 59, 3) := by decide +kernel
theorem dX6_least_163 : decode cX6_least 163 = .ok (.if_icmp .ge 24, 3) := by decide +kernel
theorem dX6_least_166 : decode cX6_least 166 = .ok (.aload_n 0, 1) := by decide +kernel
theorem dX6_least_167 : decode cX6_least 167 = .ok (.getfield 53, 3) := by decide +kernel
theorem dX6_least_170 : decode cX6_least 170 = .ok (.iload 7, 2) := by decide +kernel
theorem dX6_least_172 : decode cX6_least 172 = .ok (.aload_n 0, 1) := by decide +kernel
theorem dX6_least_173 : decode cX6_least 173 = .ok (.iload 4, 2) := by decide +kernel
theorem dX6_least_175 : decode cX6_least 175 = .ok (.iload 7, 2) := by decide +kernel
theorem dX6_least_177 : decode cX6_least 177 = .ok (.invokevirtual 230, 3) := by decide +kernel
theorem dX6_least_180 : decode cX6_least 180 = .ok (.iastore, 1) := by decide +kernel
theorem dX6_least_181 : decode cX6_least 181 = .ok (.iinc 7 1, 3) := by decide +kernel
theorem dX6_least_184 : decode cX6_least 184 = .ok (.goto (-27), 3) := by decide +kernel
theorem dX6_least_187 : decode cX6_least 187 = .ok (.iconst 0, 1) := by decide +kernel
theorem dX6_least_188 : decode cX6_least 188 = .ok (.istore 7, 2) := by decide +kernel
theorem dX6_least_190 : decode cX6_least 190 = .ok (.iload 7, 2) := by decide +kernel
theorem dX6_least_192 : decode cX6_least 192 = .ok (.aload_n 0, 1) := by decide +kernel
theorem dX6_least_193 : decode cX6_least 193 = .ok (.getfield 59, 3) := by decide +kernel
theorem dX6_least_196 : decode cX6_least 196 = .ok (.if_icmp .ge 27, 3) := by decide +kernel
theorem dX6_least_199 : decode cX6_least 199 = .ok (.aload_n 0, 1) := by decide +kernel
theorem dX6_least_200 : decode cX6_least 200 = .ok (.getfield 29, 3) := by decide +kernel
theorem dX6_least_203 : decode cX6_least 203 = .ok (.iconst 5, 1) := by decide +kernel
theorem dX6_least_204 : decode cX6_least 204 = .ok (.iload_n 1, 1) := by decide +kernel
theorem dX6_least_205 : decode cX6_least 205 = .ok (.imul, 1) := by decide +kernel
theorem dX6_least_206 : decode cX6_least 206 = .ok (.iload 7, 2) := by decide +kernel
theorem dX6_least_208 : decode cX6_least 208 = .ok (.iadd, 1) := by decide +kernel
theorem dX6_least_209 : decode cX6_least 209 = .ok (.aload_n 0, 1) := by decide +kernel
theorem dX6_least_210 : decode cX6_least 210 = .ok (.getfield 50, 3) := by decide +kernel
theorem dX6_least_213 : decode cX6_least 213 = .ok (.iload 7, 2) := by decide +kernel
theorem dX6_least_215 : decode cX6_least 215 = .ok (.iaload, 1) := by decide +kernel
theorem dX6_least_216 : decode cX6_least 216 = .ok (.iastore, 1) := by decide +kernel
theorem dX6_least_217 : decode cX6_least 217 = .ok (.iinc 7 1, 3) := by decide +kernel
theorem dX6_least_220 : decode cX6_least 220 = .ok (.goto (-30), 3) := by decide +kernel
theorem dX6_least_223 : decode cX6_least 223 = .ok (.iload 6, 2) := by decide +kernel
theorem dX6_least_225 : decode cX6_least 225 = .ok (.ifCond .eq 6, 3) := by decide +kernel
theorem dX6_least_228 : decode cX6_least 228 = .ok (.iload 5, 2) := by decide +kernel
theorem dX6_least_230 : decode cX6_least 230 = .ok (.istore_n 3, 1) := by decide +kernel
theorem dX6_least_231 : decode cX6_least 231 = .ok (.iinc 4 1, 3) := by decide +kernel
theorem dX6_least_234 : decode cX6_least 234 = .ok (.goto (-193), 3) := by decide +kernel
theorem dX6_least_237 : decode cX6_least 237 = .ok (.iload_n 3, 1) := by decide +kernel
theorem dX6_least_238 : decode cX6_least 238 = .ok (.ireturn, 1) := by decide +kernel
theorem dX6_toOpen_0 : decode cX6_toOpen 0 = .ok (.aload_n 0, 1) := by decide +kernel
theorem dX6_toOpen_1 : decode cX6_toOpen 1 = .ok (.iload_n 1, 1) := by decide +kernel
theorem dX6_toOpen_2 : decode cX6_toOpen 2 = .ok (.invokevirtual 93, 3) := by decide +kernel
theorem dX6_toOpen_5 : decode cX6_toOpen 5 = .ok (.ifCond .eq 20, 3) := by decide +kernel
theorem dX6_toOpen_8 : decode cX6_toOpen 8 = .ok (.aload_n 0, 1) := by decide +kernel
theorem dX6_toOpen_9 : decode cX6_toOpen 9 = .ok (.iload_n 2, 1) := by decide +kernel
theorem dX6_toOpen_10 : decode cX6_toOpen 10 = .ok (.invokevirtual 120, 3) := by decide +kernel
theorem dX6_toOpen_13 : decode cX6_toOpen 13 = .ok (.ifCond .eq 12, 3) := by decide +kernel
theorem dX6_toOpen_16 : decode cX6_toOpen 16 = .ok (.aload_n 0, 1) := by decide +kernel
theorem dX6_toOpen_17 : decode cX6_toOpen 17 = .ok (.iload_n 1, 1) := by decide +kernel
theorem dX6_toOpen_18 : decode cX6_toOpen 18 = .ok (.iload_n 2, 1) := by decide +kernel
theorem dX6_toOpen_19 : decode cX6_toOpen 19 = .ok (.invokevirtual 248, 3) := by decide +kernel
theorem dX6_toOpen_22 : decode cX6_toOpen 22 = .ok (.goto 9, 3) := by decide +kernel
theorem dX6_toOpen_25 : decode cX6_toOpen 25 = .ok (.aload_n 0, 1) := by decide +kernel
theorem dX6_toOpen_26 : decode cX6_toOpen 26 = .ok (.bipush (-2), 2) := by decide +kernel
theorem dX6_toOpen_28 : decode cX6_toOpen 28 = .ok (.invokevirtual 82, 3) := by decide +kernel
theorem dX6_toOpen_31 : decode cX6_toOpen 31 = .ok (.ireturn, 1) := by decide +kernel
theorem dX6_safeOf_0 : decode cX6_safeOf 0 = .ok (.iconst 0, 1) := by decide +kernel
theorem dX6_safeOf_1 : decode cX6_safeOf 1 = .ok (.istore_n 2, 1) := by decide +kernel
theorem dX6_safeOf_2 : decode cX6_safeOf 2 = .ok (.iconst 0, 1) := by decide +kernel
theorem dX6_safeOf_3 : decode cX6_safeOf 3 = .ok (.istore_n 3, 1) := by decide +kernel
theorem dX6_safeOf_4 : decode cX6_safeOf 4 = .ok (.iload_n 3, 1) := by decide +kernel
theorem dX6_safeOf_5 : decode cX6_safeOf 5 = .ok (.aload_n 0, 1) := by decide +kernel
theorem dX6_safeOf_6 : decode cX6_safeOf 6 = .ok (.getfield 72, 3) := by decide +kernel
theorem dX6_safeOf_9 : decode cX6_safeOf 9 = .ok (.if_icmp .ge 25, 3) := by decide +kernel
theorem dX6_safeOf_12 : decode cX6_safeOf 12 = .ok (.aload_n 0, 1) := by decide +kernel
theorem dX6_safeOf_13 : decode cX6_safeOf 13 = .ok (.iload_n 3, 1) := by decide +kernel
theorem dX6_safeOf_14 : decode cX6_safeOf 14 = .ok (.iload_n 1, 1) := by decide +kernel
theorem dX6_safeOf_15 : decode cX6_safeOf 15 = .ok (.invokevirtual 248, 3) := by decide +kernel
theorem dX6_safeOf_18 : decode cX6_safeOf 18 = .ok (.iconst (-1), 1) := by decide +kernel
theorem dX6_safeOf_19 : decode cX6_safeOf 19 = .ok (.if_icmp .ne 9, 3) := by decide +kernel
theorem dX6_safeOf_22 : decode cX6_safeOf 22 = .ok (.iload_n 2, 1) := by decide +kernel
theorem dX6_safeOf_23 : decode cX6_safeOf 23 = .ok (.iconst 1, 1) := by decide +kernel
theorem dX6_safeOf_24 : decode cX6_safeOf 24 = .ok (.iload_n 3, 1) := by decide +kernel
theorem dX6_safeOf_25 : decode cX6_safeOf 25 = .ok (.ishl, 1) := by decide +kernel
theorem dX6_safeOf_26 : decode cX6_safeOf 26 = .ok (.ior, 1) := by decide +kernel
theorem dX6_safeOf_27 : decode cX6_safeOf 27 = .ok (.istore_n 2, 1) := by decide +kernel
theorem dX6_safeOf_28 : decode cX6_safeOf 28 = .ok (.iinc 3 1, 3) := by decide +kernel
theorem dX6_safeOf_31 : decode cX6_safeOf 31 = .ok (.goto (-27), 3) := by decide +kernel
theorem dX6_safeOf_34 : decode cX6_safeOf 34 = .ok (.iload_n 2, 1) := by decide +kernel
theorem dX6_safeOf_35 : decode cX6_safeOf 35 = .ok (.ireturn, 1) := by decide +kernel
theorem dX6_safe_0 : decode cX6_safe 0 = .ok (.aload_n 0, 1) := by decide +kernel
theorem dX6_safe_1 : decode cX6_safe 1 = .ok (.iload_n 1, 1) := by decide +kernel
theorem dX6_safe_2 : decode cX6_safe 2 = .ok (.invokevirtual 120, 3) := by decide +kernel
theorem dX6_safe_5 : decode cX6_safe 5 = .ok (.ifCond .eq 11, 3) := by decide +kernel
theorem dX6_safe_8 : decode cX6_safe 8 = .ok (.aload_n 0, 1) := by decide +kernel
theorem dX6_safe_9 : decode cX6_safe 9 = .ok (.iload_n 1, 1) := by decide +kernel
theorem dX6_safe_10 : decode cX6_safe 10 = .ok (.invokevirtual 251, 3) := by decide +kernel
theorem dX6_safe_13 : decode cX6_safe 13 = .ok (.goto 9, 3) := by decide +kernel
theorem dX6_safe_16 : decode cX6_safe 16 = .ok (.aload_n 0, 1) := by decide +kernel
theorem dX6_safe_17 : decode cX6_safe 17 = .ok (.bipush (-2), 2) := by decide +kernel
theorem dX6_safe_19 : decode cX6_safe 19 = .ok (.invokevirtual 82, 3) := by decide +kernel
theorem dX6_safe_22 : decode cX6_safe 22 = .ok (.ireturn, 1) := by decide +kernel
theorem dX6_safest_0 : decode cX6_safest 0 = .ok (.iconst (-1), 1) := by decide +kernel
theorem dX6_safest_1 : decode cX6_safest 1 = .ok (.istore_n 1, 1) := by decide +kernel
theorem dX6_safest_2 : decode cX6_safest 2 = .ok (.iconst (-1), 1) := by decide +kernel
theorem dX6_safest_3 : decode cX6_safest 3 = .ok (.istore_n 2, 1) := by decide +kernel
theorem dX6_safest_4 : decode cX6_safest 4 = .ok (.iconst 0, 1) := by decide +kernel
theorem dX6_safest_5 : decode cX6_safest 5 = .ok (.istore_n 3, 1) := by decide +kernel
theorem dX6_safest_6 : decode cX6_safest 6 = .ok (.iload_n 3, 1) := by decide +kernel
theorem dX6_safest_7 : decode cX6_safest 7 = .ok (.aload_n 0, 1) := by decide +kernel
theorem dX6_safest_8 : decode cX6_safest 8 = .ok (.getfield 79, 3) := by decide +kernel
theorem dX6_safest_11 : decode cX6_safest 11 = .ok (.if_icmp .ge 33, 3) := by decide +kernel
theorem dX6_safest_14 : decode cX6_safest 14 = .ok (.aload_n 0, 1) := by decide +kernel
theorem dX6_safest_15 : decode cX6_safest 15 = .ok (.iload_n 3, 1) := by decide +kernel
theorem dX6_safest_16 : decode cX6_safest 16 = .ok (.invokevirtual 251, 3) := by decide +kernel
theorem dX6_safest_19 : decode cX6_safest 19 = .ok (.invokestatic 219, 3) := by decide +kernel
theorem dX6_safest_22 : decode cX6_safest 22 = .ok (.istore 4, 2) := by decide +kernel
theorem dX6_safest_24 : decode cX6_safest 24 = .ok (.iload 4, 2) := by decide +kernel
theorem dX6_safest_26 : decode cX6_safest 26 = .ok (.iload_n 2, 1) := by decide +kernel
theorem dX6_safest_27 : decode cX6_safest 27 = .ok (.if_icmp .gt 6, 3) := by decide +kernel
theorem dX6_safest_30 : decode cX6_safest 30 = .ok (.goto 8, 3) := by decide +kernel
theorem dX6_safest_33 : decode cX6_safest 33 = .ok (.iload 4, 2) := by decide +kernel
theorem dX6_safest_35 : decode cX6_safest 35 = .ok (.istore_n 2, 1) := by decide +kernel
theorem dX6_safest_36 : decode cX6_safest 36 = .ok (.iload_n 3, 1) := by decide +kernel
theorem dX6_safest_37 : decode cX6_safest 37 = .ok (.istore_n 1, 1) := by decide +kernel
theorem dX6_safest_38 : decode cX6_safest 38 = .ok (.iinc 3 1, 3) := by decide +kernel
theorem dX6_safest_41 : decode cX6_safest 41 = .ok (.goto (-35), 3) := by decide +kernel
theorem dX6_safest_44 : decode cX6_safest 44 = .ok (.iload_n 1, 1) := by decide +kernel
theorem dX6_safest_45 : decode cX6_safest 45 = .ok (.ireturn, 1) := by decide +kernel
theorem dX6_mended_0 : decode cX6_mended 0 = .ok (.iload_n 1, 1) := by decide +kernel
theorem dX6_mended_1 : decode cX6_mended 1 = .ok (.iconst 0, 1) := by decide +kernel
theorem dX6_mended_2 : decode cX6_mended 2 = .ok (.iconst 1, 1) := by decide +kernel
theorem dX6_mended_3 : decode cX6_mended 3 = .ok (.invokestatic 75, 3) := by decide +kernel
theorem dX6_mended_6 : decode cX6_mended 6 = .ok (.ifCond .ne 10, 3) := by decide +kernel
theorem dX6_mended_9 : decode cX6_mended 9 = .ok (.aload_n 0, 1) := by decide +kernel
theorem dX6_mended_10 : decode cX6_mended 10 = .ok (.bipush (-2), 2) := by decide +kernel
theorem dX6_mended_12 : decode cX6_mended 12 = .ok (.invokevirtual 82, 3) := by decide +kernel
theorem dX6_mended_15 : decode cX6_mended 15 = .ok (.ireturn, 1) := by decide +kernel
theorem dX6_mended_16 : decode cX6_mended 16 = .ok (.iconst 0, 1) := by decide +kernel
theorem dX6_mended_17 : decode cX6_mended 17 = .ok (.istore_n 2, 1) := by decide +kernel
theorem dX6_mended_18 : decode cX6_mended 18 = .ok (.iconst 0, 1) := by decide +kernel
theorem dX6_mended_19 : decode cX6_mended 19 = .ok (.istore_n 3, 1) := by decide +kernel
theorem dX6_mended_20 : decode cX6_mended 20 = .ok (.iconst 0, 1) := by decide +kernel
theorem dX6_mended_21 : decode cX6_mended 21 = .ok (.istore 4, 2) := by decide +kernel
theorem dX6_mended_23 : decode cX6_mended 23 = .ok (.iload 4, 2) := by decide +kernel
theorem dX6_mended_25 : decode cX6_mended 25 = .ok (.aload_n 0, 1) := by decide +kernel
theorem dX6_mended_26 : decode cX6_mended 26 = .ok (.getfield 72, 3) := by decide +kernel
theorem dX6_mended_29 : decode cX6_mended 29 = .ok (.if_icmp .ge 38, 3) := by decide +kernel
theorem dX6_mended_32 : decode cX6_mended 32 = .ok (.aload_n 0, 1) := by decide +kernel
theorem dX6_mended_33 : decode cX6_mended 33 = .ok (.iload 4, 2) := by decide +kernel
theorem dX6_mended_35 : decode cX6_mended 35 = .ok (.iconst (-1), 1) := by decide +kernel
theorem dX6_mended_36 : decode cX6_mended 36 = .ok (.invokevirtual 248, 3) := by decide +kernel
theorem dX6_mended_39 : decode cX6_mended 39 = .ok (.istore 5, 2) := by decide +kernel
theorem dX6_mended_41 : decode cX6_mended 41 = .ok (.iload 5, 2) := by decide +kernel
theorem dX6_mended_43 : decode cX6_mended 43 = .ok (.ifCond .ge 13, 3) := by decide +kernel
theorem dX6_mended_46 : decode cX6_mended 46 = .ok (.iload_n 3, 1) := by decide +kernel
theorem dX6_mended_47 : decode cX6_mended 47 = .ok (.iconst 1, 1) := by decide +kernel
theorem dX6_mended_48 : decode cX6_mended 48 = .ok (.iload 4, 2) := by decide +kernel
theorem dX6_mended_50 : decode cX6_mended 50 = .ok (.ishl, 1) := by decide +kernel
theorem dX6_mended_51 : decode cX6_mended 51 = .ok (.ior, 1) := by decide +kernel
theorem dX6_mended_52 : decode cX6_mended 52 = .ok (.istore_n 3, 1) := by decide +kernel
theorem dX6_mended_53 : decode cX6_mended 53 = .ok (.goto 8, 3) := by decide +kernel
theorem dX6_mended_56 : decode cX6_mended 56 = .ok (.iload_n 2, 1) := by decide +kernel
theorem dX6_mended_57 : decode cX6_mended 57 = .ok (.iload 5, 2) := by decide +kernel
theorem dX6_mended_59 : decode cX6_mended 59 = .ok (.iadd, 1) := by decide +kernel
theorem dX6_mended_60 : decode cX6_mended 60 = .ok (.istore_n 2, 1) := by decide +kernel
theorem dX6_mended_61 : decode cX6_mended 61 = .ok (.iinc 4 1, 3) := by decide +kernel
theorem dX6_mended_64 : decode cX6_mended 64 = .ok (.goto (-41), 3) := by decide +kernel
theorem dX6_mended_67 : decode cX6_mended 67 = .ok (.iload_n 1, 1) := by decide +kernel
theorem dX6_mended_68 : decode cX6_mended 68 = .ok (.ifCond .ne 7, 3) := by decide +kernel
theorem dX6_mended_71 : decode cX6_mended 71 = .ok (.iload_n 2, 1) := by decide +kernel
theorem dX6_mended_72 : decode cX6_mended 72 = .ok (.goto 4, 3) := by decide +kernel
theorem dX6_mended_75 : decode cX6_mended 75 = .ok (.iload_n 3, 1) := by decide +kernel
theorem dX6_mended_76 : decode cX6_mended 76 = .ok (.ireturn, 1) := by decide +kernel
theorem dX6_mend_0 : decode cX6_mend 0 = .ok (.iconst 0, 1) := by decide +kernel
theorem dX6_mend_1 : decode cX6_mend 1 = .ok (.istore_n 1, 1) := by decide +kernel
theorem dX6_mend_2 : decode cX6_mend 2 = .ok (.iconst 0, 1) := by decide +kernel
theorem dX6_mend_3 : decode cX6_mend 3 = .ok (.istore_n 2, 1) := by decide +kernel
theorem dX6_mend_4 : decode cX6_mend 4 = .ok (.iload_n 2, 1) := by decide +kernel
theorem dX6_mend_5 : decode cX6_mend 5 = .ok (.aload_n 0, 1) := by decide +kernel
theorem dX6_mend_6 : decode cX6_mend 6 = .ok (.getfield 72, 3) := by decide +kernel
theorem dX6_mend_9 : decode cX6_mend 9 = .ok (.if_icmp .ge 78, 3) := by decide +kernel
theorem dX6_mend_12 : decode cX6_mend 12 = .ok (.aload_n 0, 1) := by decide +kernel
theorem dX6_mend_13 : decode cX6_mend 13 = .ok (.iload_n 2, 1) := by decide +kernel
theorem dX6_mend_14 : decode cX6_mend 14 = .ok (.iconst (-1), 1) := by decide +kernel
theorem dX6_mend_15 : decode cX6_mend 15 = .ok (.invokevirtual 248, 3) := by decide +kernel
theorem dX6_mend_18 : decode cX6_mend 18 = .ok (.istore_n 3, 1) := by decide +kernel
theorem dX6_mend_19 : decode cX6_mend 19 = .ok (.iconst 0, 1) := by decide +kernel
theorem dX6_mend_20 : decode cX6_mend 20 = .ok (.istore 4, 2) := by decide +kernel
theorem dX6_mend_22 : decode cX6_mend 22 = .ok (.iload 4, 2) := by decide +kernel
theorem dX6_mend_24 : decode cX6_mend 24 = .ok (.aload_n 0, 1) := by decide +kernel
theorem dX6_mend_25 : decode cX6_mend 25 = .ok (.getfield 59, 3) := by decide +kernel
theorem dX6_mend_28 : decode cX6_mend 28 = .ok (.if_icmp .ge 45, 3) := by decide +kernel
theorem dX6_mend_31 : decode cX6_mend 31 = .ok (.aload_n 0, 1) := by decide +kernel
theorem dX6_mend_32 : decode cX6_mend 32 = .ok (.getfield 56, 3) := by decide +kernel
theorem dX6_mend_35 : decode cX6_mend 35 = .ok (.iconst 5, 1) := by decide +kernel
theorem dX6_mend_36 : decode cX6_mend 36 = .ok (.iload_n 2, 1) := by decide +kernel
theorem dX6_mend_37 : decode cX6_mend 37 = .ok (.imul, 1) := by decide +kernel
theorem dX6_mend_38 : decode cX6_mend 38 = .ok (.iload 4, 2) := by decide +kernel
theorem dX6_mend_40 : decode cX6_mend 40 = .ok (.iadd, 1) := by decide +kernel
theorem dX6_mend_41 : decode cX6_mend 41 = .ok (.iload_n 3, 1) := by decide +kernel
theorem dX6_mend_42 : decode cX6_mend 42 = .ok (.ifCond .ge 17, 3) := by decide +kernel
theorem dX6_mend_45 : decode cX6_mend 45 = .ok (.aload_n 0, 1) := by decide +kernel
theorem dX6_mend_46 : decode cX6_mend 46 = .ok (.getfield 29, 3) := by decide +kernel
theorem dX6_mend_49 : decode cX6_mend 49 = .ok (.iconst 5, 1) := by decide +kernel
theorem dX6_mend_50 : decode cX6_mend 50 = .ok (.iload_n 2, 1) := by decide +kernel
theorem dX6_mend_51 : decode cX6_mend 51 = .ok (.imul, 1) := by decide +kernel
theorem dX6_mend_52 : decode cX6_mend 52 = .ok (.iload 4, 2) := by decide +kernel
theorem dX6_mend_54 : decode cX6_mend 54 = .ok (.iadd, 1) := by decide +kernel
theorem dX6_mend_55 : decode cX6_mend 55 = .ok (.iaload, 1) := by decide +kernel
theorem dX6_mend_56 : decode cX6_mend 56 = .ok (.goto 10, 3) := by decide +kernel
theorem dX6_mend_59 : decode cX6_mend 59 = .ok (.aload_n 0, 1) := by decide +kernel
theorem dX6_mend_60 : decode cX6_mend 60 = .ok (.getfield 53, 3) := by decide +kernel
theorem dX6_mend_63 : decode cX6_mend 63 = .ok (.iload 4, 2) := by decide +kernel
theorem dX6_mend_65 : decode cX6_mend 65 = .ok (.iaload, 1) := by decide +kernel
theorem dX6_mend_66 : decode cX6_mend 66 = .ok (.iastore, 1) := by decide +kernel
theorem dX6_mend_67 : decode cX6_mend 67 = .ok (.iinc 4 1, 3) := by decide +kernel
theorem dX6_mend_70 : decode cX6_mend 70 = .ok (.goto (-48), 3) := by decide +kernel
theorem dX6_mend_73 : decode cX6_mend 73 = .ok (.iload_n 1, 1) := by decide +kernel
theorem dX6_mend_74 : decode cX6_mend 74 = .ok (.iconst 0, 1) := by decide +kernel
theorem dX6_mend_75 : decode cX6_mend 75 = .ok (.iload_n 3, 1) := by decide +kernel
theorem dX6_mend_76 : decode cX6_mend 76 = .ok (.invokestatic 201, 3) := by decide +kernel
theorem dX6_mend_79 : decode cX6_mend 79 = .ok (.iadd, 1) := by decide +kernel
theorem dX6_mend_80 : decode cX6_mend 80 = .ok (.istore_n 1, 1) := by decide +kernel
theorem dX6_mend_81 : decode cX6_mend 81 = .ok (.iinc 2 1, 3) := by decide +kernel
theorem dX6_mend_84 : decode cX6_mend 84 = .ok (.goto (-80), 3) := by decide +kernel
theorem dX6_mend_87 : decode cX6_mend 87 = .ok (.iconst 0, 1) := by decide +kernel
theorem dX6_mend_88 : decode cX6_mend 88 = .ok (.istore_n 2, 1) := by decide +kernel
theorem dX6_mend_89 : decode cX6_mend 89 = .ok (.iload_n 2, 1) := by decide +kernel
theorem dX6_mend_90 : decode cX6_mend 90 = .ok (.aload_n 0, 1) := by decide +kernel
theorem dX6_mend_91 : decode cX6_mend 91 = .ok (.getfield 72, 3) := by decide +kernel
theorem dX6_mend_94 : decode cX6_mend 94 = .ok (.if_icmp .ge 45, 3) := by decide +kernel
theorem dX6_mend_97 : decode cX6_mend 97 = .ok (.iconst 0, 1) := by decide +kernel
theorem dX6_mend_98 : decode cX6_mend 98 = .ok (.istore_n 3, 1) := by decide +kernel
theorem dX6_mend_99 : decode cX6_mend 99 = .ok (.iload_n 3, 1) := by decide +kernel
theorem dX6_mend_100 : decode cX6_mend 100 = .ok (.aload_n 0, 1) := by decide +kernel
theorem dX6_mend_101 : decode cX6_mend 101 = .ok (.getfield 59, 3) := by decide +kernel
theorem dX6_mend_104 : decode cX6_mend 104 = .ok (.if_icmp .ge 29, 3) := by decide +kernel
theorem dX6_mend_107 : decode cX6_mend 107 = .ok (.aload_n 0, 1) := by decide +kernel
theorem dX6_mend_108 : decode cX6_mend 108 = .ok (.getfield 29, 3) := by decide +kernel
theorem dX6_mend_111 : decode cX6_mend 111 = .ok (.iconst 5, 1) := by decide +kernel
theorem dX6_mend_112 : decode cX6_mend 112 = .ok (.iload_n 2, 1) := by decide +kernel
theorem dX6_mend_113 : decode cX6_mend 113 = .ok (.imul, 1) := by decide +kernel
theorem dX6_mend_114 : decode cX6_mend 114 = .ok (.iload_n 3, 1) := by decide +kernel
theorem dX6_mend_115 : decode cX6_mend 115 = .ok (.iadd, 1) := by decide +kernel
theorem dX6_mend_116 : decode cX6_mend 116 = .ok (.aload_n 0, 1) := by decide +kernel
theorem dX6_mend_117 : decode cX6_mend 117 = .ok (.getfield 56, 3) := by decide +kernel
theorem dX6_mend_120 : decode cX6_mend 120 = .ok (.iconst 5, 1) := by decide +kernel
theorem dX6_mend_121 : decode cX6_mend 121 = .ok (.iload_n 2, 1) := by decide +kernel
theorem dX6_mend_122 : decode cX6_mend 122 = .ok (.imul, 1) := by decide +kernel
theorem dX6_mend_123 : decode cX6_mend 123 = .ok (.iload_n 3, 1) := by decide +kernel
theorem dX6_mend_124 : decode cX6_mend 124 = .ok (.iadd, 1) := by decide +kernel
theorem dX6_mend_125 : decode cX6_mend 125 = .ok (.iaload, 1) := by decide +kernel
theorem dX6_mend_126 : decode cX6_mend 126 = .ok (.iastore, 1) := by decide +kernel
theorem dX6_mend_127 : decode cX6_mend 127 = .ok (.iinc 3 1, 3) := by decide +kernel
theorem dX6_mend_130 : decode cX6_mend 130 = .ok (.goto (-31), 3) := by decide +kernel
theorem dX6_mend_133 : decode cX6_mend 133 = .ok (.iinc 2 1, 3) := by decide +kernel
theorem dX6_mend_136 : decode cX6_mend 136 = .ok (.goto (-47), 3) := by decide +kernel
theorem dX6_mend_139 : decode cX6_mend 139 = .ok (.aload_n 0, 1) := by decide +kernel
theorem dX6_mend_140 : decode cX6_mend 140 = .ok (.dup, 1) := by decide +kernel
theorem dX6_mend_141 : decode cX6_mend 141 = .ok (.getfield 129, 3) := by decide +kernel
theorem dX6_mend_144 : decode cX6_mend 144 = .ok (.iload_n 1, 1) := by decide +kernel
theorem dX6_mend_145 : decode cX6_mend 145 = .ok (.iadd, 1) := by decide +kernel
theorem dX6_mend_146 : decode cX6_mend 146 = .ok (.putfield 129, 3) := by decide +kernel
theorem dX6_mend_149 : decode cX6_mend 149 = .ok (.iload_n 1, 1) := by decide +kernel
theorem dX6_mend_150 : decode cX6_mend 150 = .ok (.ireturn, 1) := by decide +kernel
theorem dX6_left_0 : decode cX6_left 0 = .ok (.aload_n 0, 1) := by decide +kernel
theorem dX6_left_1 : decode cX6_left 1 = .ok (.iload_n 1, 1) := by decide +kernel
theorem dX6_left_2 : decode cX6_left 2 = .ok (.invokevirtual 93, 3) := by decide +kernel
theorem dX6_left_5 : decode cX6_left 5 = .ok (.ifCond .eq 21, 3) := by decide +kernel
theorem dX6_left_8 : decode cX6_left 8 = .ok (.iconst 0, 1) := by decide +kernel
theorem dX6_left_9 : decode cX6_left 9 = .ok (.aload_n 0, 1) := by decide +kernel
theorem dX6_left_10 : decode cX6_left 10 = .ok (.iload_n 1, 1) := by decide +kernel
theorem dX6_left_11 : decode cX6_left 11 = .ok (.invokevirtual 109, 3) := by decide +kernel
theorem dX6_left_14 : decode cX6_left 14 = .ok (.aload_n 0, 1) := by decide +kernel
theorem dX6_left_15 : decode cX6_left 15 = .ok (.iload_n 1, 1) := by decide +kernel
theorem dX6_left_16 : decode cX6_left 16 = .ok (.invokevirtual 100, 3) := by decide +kernel
theorem dX6_left_19 : decode cX6_left 19 = .ok (.isub, 1) := by decide +kernel
theorem dX6_left_20 : decode cX6_left 20 = .ok (.invokestatic 201, 3) := by decide +kernel
theorem dX6_left_23 : decode cX6_left 23 = .ok (.goto 9, 3) := by decide +kernel
theorem dX6_left_26 : decode cX6_left 26 = .ok (.aload_n 0, 1) := by decide +kernel
theorem dX6_left_27 : decode cX6_left 27 = .ok (.bipush (-2), 2) := by decide +kernel
theorem dX6_left_29 : decode cX6_left 29 = .ok (.invokevirtual 82, 3) := by decide +kernel
theorem dX6_left_32 : decode cX6_left 32 = .ok (.ireturn, 1) := by decide +kernel
theorem dX6_idle_0 : decode cX6_idle 0 = .ok (.aload_n 0, 1) := by decide +kernel
theorem dX6_idle_1 : decode cX6_idle 1 = .ok (.iload_n 1, 1) := by decide +kernel
theorem dX6_idle_2 : decode cX6_idle 2 = .ok (.invokevirtual 123, 3) := by decide +kernel
theorem dX6_idle_5 : decode cX6_idle 5 = .ok (.ifCond .ne 10, 3) := by decide +kernel
theorem dX6_idle_8 : decode cX6_idle 8 = .ok (.aload_n 0, 1) := by decide +kernel
theorem dX6_idle_9 : decode cX6_idle 9 = .ok (.bipush (-2), 2) := by decide +kernel
theorem dX6_idle_11 : decode cX6_idle 11 = .ok (.invokevirtual 82, 3) := by decide +kernel
theorem dX6_idle_14 : decode cX6_idle 14 = .ok (.ireturn, 1) := by decide +kernel
theorem dX6_idle_15 : decode cX6_idle 15 = .ok (.iconst 0, 1) := by decide +kernel
theorem dX6_idle_16 : decode cX6_idle 16 = .ok (.istore_n 2, 1) := by decide +kernel
theorem dX6_idle_17 : decode cX6_idle 17 = .ok (.iconst 0, 1) := by decide +kernel
theorem dX6_idle_18 : decode cX6_idle 18 = .ok (.istore_n 3, 1) := by decide +kernel
theorem dX6_idle_19 : decode cX6_idle 19 = .ok (.iload_n 3, 1) := by decide +kernel
theorem dX6_idle_20 : decode cX6_idle 20 = .ok (.aload_n 0, 1) := by decide +kernel
theorem dX6_idle_21 : decode cX6_idle 21 = .ok (.getfield 79, 3) := by decide +kernel
theorem dX6_idle_24 : decode cX6_idle 24 = .ok (.if_icmp .ge 25, 3) := by decide +kernel
theorem dX6_idle_27 : decode cX6_idle 27 = .ok (.aload_n 0, 1) := by decide +kernel
theorem dX6_idle_28 : decode cX6_idle 28 = .ok (.getfield 35, 3) := by decide +kernel
theorem dX6_idle_31 : decode cX6_idle 31 = .ok (.iconst 5, 1) := by decide +kernel
theorem dX6_idle_32 : decode cX6_idle 32 = .ok (.iload_n 3, 1) := by decide +kernel
theorem dX6_idle_33 : decode cX6_idle 33 = .ok (.imul, 1) := by decide +kernel
theorem dX6_idle_34 : decode cX6_idle 34 = .ok (.iload_n 1, 1) := by decide +kernel
theorem dX6_idle_35 : decode cX6_idle 35 = .ok (.iadd, 1) := by decide +kernel
theorem dX6_idle_36 : decode cX6_idle 36 = .ok (.iaload, 1) := by decide +kernel
theorem dX6_idle_37 : decode cX6_idle 37 = .ok (.ifCond .ne 6, 3) := by decide +kernel
theorem dX6_idle_40 : decode cX6_idle 40 = .ok (.iinc 2 1, 3) := by decide +kernel
theorem dX6_idle_43 : decode cX6_idle 43 = .ok (.iinc 3 1, 3) := by decide +kernel
theorem dX6_idle_46 : decode cX6_idle 46 = .ok (.goto (-27), 3) := by decide +kernel
theorem dX6_idle_49 : decode cX6_idle 49 = .ok (.iload_n 2, 1) := by decide +kernel
theorem dX6_idle_50 : decode cX6_idle 50 = .ok (.ireturn, 1) := by decide +kernel
theorem dX6_bothOpen_0 : decode cX6_bothOpen 0 = .ok (.iconst 0, 1) := by decide +kernel
theorem dX6_bothOpen_1 : decode cX6_bothOpen 1 = .ok (.istore_n 3, 1) := by decide +kernel
theorem dX6_bothOpen_2 : decode cX6_bothOpen 2 = .ok (.iconst 0, 1) := by decide +kernel
theorem dX6_bothOpen_3 : decode cX6_bothOpen 3 = .ok (.istore 4, 2) := by decide +kernel
theorem dX6_bothOpen_5 : decode cX6_bothOpen 5 = .ok (.iconst 0, 1) := by decide +kernel
theorem dX6_bothOpen_6 : decode cX6_bothOpen 6 = .ok (.istore 5, 2) := by decide +kernel
theorem dX6_bothOpen_8 : decode cX6_bothOpen 8 = .ok (.iload 5, 2) := by decide +kernel
theorem dX6_bothOpen_10 : decode cX6_bothOpen 10 = .ok (.aload_n 0, 1) := by decide +kernel
theorem dX6_bothOpen_11 : decode cX6_bothOpen 11 = .ok (.getfield 59, 3) := by decide +kernel
theorem dX6_bothOpen_14 : decode cX6_bothOpen 14 = .ok (.if_icmp .ge 39, 3) := by decide +kernel
theorem dX6_bothOpen_17 : decode cX6_bothOpen 17 = .ok (.iload 4, 2) := by decide +kernel
theorem dX6_bothOpen_19 : decode cX6_bothOpen 19 = .ok (.aload_n 0, 1) := by decide +kernel
theorem dX6_bothOpen_20 : decode cX6_bothOpen 20 = .ok (.getfield 29, 3) := by decide +kernel
theorem dX6_bothOpen_23 : decode cX6_bothOpen 23 = .ok (.iconst 5, 1) := by decide +kernel
theorem dX6_bothOpen_24 : decode cX6_bothOpen 24 = .ok (.iload_n 1, 1) := by decide +kernel
theorem dX6_bothOpen_25 : decode cX6_bothOpen 25 = .ok (.imul, 1) := by decide +kernel
theorem dX6_bothOpen_26 : decode cX6_bothOpen 26 = .ok (.iload 5, 2) := by decide +kernel
theorem dX6_bothOpen_28 : decode cX6_bothOpen 28 = .ok (.iadd, 1) := by decide +kernel
theorem dX6_bothOpen_29 : decode cX6_bothOpen 29 = .ok (.iaload, 1) := by decide +kernel
theorem dX6_bothOpen_30 : decode cX6_bothOpen 30 = .ok (.aload_n 0, 1) := by decide +kernel
theorem dX6_bothOpen_31 : decode cX6_bothOpen 31 = .ok (.getfield 29, 3) := by decide +kernel
theorem dX6_bothOpen_34 : decode cX6_bothOpen 34 = .ok (.iconst 5, 1) := by decide +kernel
theorem dX6_bothOpen_35 : decode cX6_bothOpen 35 = .ok (.iload_n 2, 1) := by decide +kernel
theorem dX6_bothOpen_36 : decode cX6_bothOpen 36 = .ok (.imul, 1) := by decide +kernel
theorem dX6_bothOpen_37 : decode cX6_bothOpen 37 = .ok (.iload 5, 2) := by decide +kernel
theorem dX6_bothOpen_39 : decode cX6_bothOpen 39 = .ok (.iadd, 1) := by decide +kernel
theorem dX6_bothOpen_40 : decode cX6_bothOpen 40 = .ok (.iaload, 1) := by decide +kernel
theorem dX6_bothOpen_41 : decode cX6_bothOpen 41 = .ok (.invokestatic 201, 3) := by decide +kernel
theorem dX6_bothOpen_44 : decode cX6_bothOpen 44 = .ok (.iadd, 1) := by decide +kernel
theorem dX6_bothOpen_45 : decode cX6_bothOpen 45 = .ok (.istore 4, 2) := by decide +kernel
theorem dX6_bothOpen_47 : decode cX6_bothOpen 47 = .ok (.iinc 5 1, 3) := by decide +kernel
theorem dX6_bothOpen_50 : decode cX6_bothOpen 50 = .ok (.goto (-42), 3) := by decide +kernel
theorem dX6_bothOpen_53 : decode cX6_bothOpen 53 = .ok (.iconst 0, 1) := by decide +kernel
theorem dX6_bothOpen_54 : decode cX6_bothOpen 54 = .ok (.istore 5, 2) := by decide +kernel
theorem dX6_bothOpen_56 : decode cX6_bothOpen 56 = .ok (.iload 5, 2) := by decide +kernel
theorem dX6_bothOpen_58 : decode cX6_bothOpen 58 = .ok (.aload_n 0, 1) := by decide +kernel
theorem dX6_bothOpen_59 : decode cX6_bothOpen 59 = .ok (.getfield 79, 3) := by decide +kernel
theorem dX6_bothOpen_62 : decode cX6_bothOpen 62 = .ok (.if_icmp .ge 108, 3) := by decide +kernel
theorem dX6_bothOpen_65 : decode cX6_bothOpen 65 = .ok (.iload 4, 2) := by decide +kernel
theorem dX6_bothOpen_67 : decode cX6_bothOpen 67 = .ok (.aload_n 0, 1) := by decide +kernel
theorem dX6_bothOpen_68 : decode cX6_bothOpen 68 = .ok (.getfield 66, 3) := by decide +kernel
theorem dX6_bothOpen_71 : decode cX6_bothOpen 71 = .ok (.if_icmp .gt 99, 3) := by decide +kernel
theorem dX6_bothOpen_74 : decode cX6_bothOpen 74 = .ok (.aload_n 0, 1) := by decide +kernel
theorem dX6_bothOpen_75 : decode cX6_bothOpen 75 = .ok (.getfield 32, 3) := by decide +kernel
theorem dX6_bothOpen_78 : decode cX6_bothOpen 78 = .ok (.iload 5, 2) := by decide +kernel
theorem dX6_bothOpen_80 : decode cX6_bothOpen 80 = .ok (.iaload, 1) := by decide +kernel
theorem dX6_bothOpen_81 : decode cX6_bothOpen 81 = .ok (.ifCond .ne 7, 3) := by decide +kernel
theorem dX6_bothOpen_84 : decode cX6_bothOpen 84 = .ok (.iconst 1, 1) := by decide +kernel
theorem dX6_bothOpen_85 : decode cX6_bothOpen 85 = .ok (.goto 4, 3) := by decide +kernel
theorem dX6_bothOpen_88 : decode cX6_bothOpen 88 = .ok (.iconst 0, 1) := by decide +kernel
theorem dX6_bothOpen_89 : decode cX6_bothOpen 89 = .ok (.istore 6, 2) := by decide +kernel
theorem dX6_bothOpen_91 : decode cX6_bothOpen 91 = .ok (.iconst 0, 1) := by decide +kernel
theorem dX6_bothOpen_92 : decode cX6_bothOpen 92 = .ok (.istore 7, 2) := by decide +kernel
theorem dX6_bothOpen_94 : decode cX6_bothOpen 94 = .ok (.iload 7, 2) := by decide +kernel
theorem dX6_bothOpen_96 : decode cX6_bothOpen 96 = .ok (.aload_n 0, 1) := by decide +kernel
theorem dX6_bothOpen_97 : decode cX6_bothOpen 97 = .ok (.getfield 59, 3) := by decide +kernel
theorem dX6_bothOpen_100 : decode cX6_bothOpen 100 = .ok (.if_icmp .ge 52, 3) := by decide +kernel
theorem dX6_bothOpen_103 : decode cX6_bothOpen 103 = .ok (.aload_n 0, 1) := by decide +kernel
theorem dX6_bothOpen_104 : decode cX6_bothOpen 104 = .ok (.getfield 29, 3) := by decide +kernel
theorem dX6_bothOpen_107 : decode cX6_bothOpen 107 = .ok (.iconst 5, 1) := by decide +kernel
theorem dX6_bothOpen_108 : decode cX6_bothOpen 108 = .ok (.iload_n 1, 1) := by decide +kernel
theorem dX6_bothOpen_109 : decode cX6_bothOpen 109 = .ok (.imul, 1) := by decide +kernel
theorem dX6_bothOpen_110 : decode cX6_bothOpen 110 = .ok (.iload 7, 2) := by decide +kernel
theorem dX6_bothOpen_112 : decode cX6_bothOpen 112 = .ok (.iadd, 1) := by decide +kernel
theorem dX6_bothOpen_113 : decode cX6_bothOpen 113 = .ok (.iaload, 1) := by decide +kernel
theorem dX6_bothOpen_114 : decode cX6_bothOpen 114 = .ok (.aload_n 0, 1) := by decide +kernel
theorem dX6_bothOpen_115 : decode cX6_bothOpen 115 = .ok (.getfield 29, 3) := by decide +kernel
theorem dX6_bothOpen_118 : decode cX6_bothOpen 118 = .ok (.iconst 5, 1) := by decide +kernel
theorem dX6_bothOpen_119 : decode cX6_bothOpen 119 = .ok (.iload_n 2, 1) := by decide +kernel
theorem dX6_bothOpen_120 : decode cX6_bothOpen 120 = .ok (.imul, 1) := by decide +kernel
theorem dX6_bothOpen_121 : decode cX6_bothOpen 121 = .ok (.iload 7, 2) := by decide +kernel
theorem dX6_bothOpen_123 : decode cX6_bothOpen 123 = .ok (.iadd, 1) := by decide +kernel
theorem dX6_bothOpen_124 : decode cX6_bothOpen 124 = .ok (.iaload, 1) := by decide +kernel
theorem dX6_bothOpen_125 : decode cX6_bothOpen 125 = .ok (.invokestatic 201, 3) := by decide +kernel
theorem dX6_bothOpen_128 : decode cX6_bothOpen 128 = .ok (.aload_n 0, 1) := by decide +kernel
theorem dX6_bothOpen_129 : decode cX6_bothOpen 129 = .ok (.getfield 35, 3) := by decide +kernel
theorem dX6_bothOpen_132 : decode cX6_bothOpen 132 = .ok (.iconst 5, 1) := by decide +kernel
theorem dX6_bothOpen_133 : decode cX6_bothOpen 133 = .ok (.iload 5, 2) := by decide +kernel
theorem dX6_bothOpen_135 : decode cX6_bothOpen 135 = .ok (.imul, 1) := by decide +kernel
theorem dX6_bothOpen_136 : decode cX6_bothOpen 136 = .ok (.iload 7, 2) := by decide +kernel
theorem dX6_bothOpen_138 : decode cX6_bothOpen 138 = .ok (.iadd, 1) := by decide +kernel
theorem dX6_bothOpen_139 : decode cX6_bothOpen 139 = .ok (.iaload, 1) := by decide +kernel
theorem dX6_bothOpen_140 : decode cX6_bothOpen 140 = .ok (.if_icmp .ge 6, 3) := by decide +kernel
theorem dX6_bothOpen_143 : decode cX6_bothOpen 143 = .ok (.iconst 0, 1) := by decide +kernel
theorem dX6_bothOpen_144 : decode cX6_bothOpen 144 = .ok (.istore 6, 2) := by decide +kernel
theorem dX6_bothOpen_146 : decode cX6_bothOpen 146 = .ok (.iinc 7 1, 3) := by decide +kernel
theorem dX6_bothOpen_149 : decode cX6_bothOpen 149 = .ok (.goto (-55), 3) := by decide +kernel
theorem dX6_bothOpen_152 : decode cX6_bothOpen 152 = .ok (.iload 6, 2) := by decide +kernel
theorem dX6_bothOpen_154 : decode cX6_bothOpen 154 = .ok (.ifCond .eq 10, 3) := by decide +kernel
theorem dX6_bothOpen_157 : decode cX6_bothOpen 157 = .ok (.iload_n 3, 1) := by decide +kernel
theorem dX6_bothOpen_158 : decode cX6_bothOpen 158 = .ok (.iconst 1, 1) := by decide +kernel
theorem dX6_bothOpen_159 : decode cX6_bothOpen 159 = .ok (.iload 5, 2) := by decide +kernel
theorem dX6_bothOpen_161 : decode cX6_bothOpen 161 = .ok (.ishl, 1) := by decide +kernel
theorem dX6_bothOpen_162 : decode cX6_bothOpen 162 = .ok (.ior, 1) := by decide +kernel
theorem dX6_bothOpen_163 : decode cX6_bothOpen 163 = .ok (.istore_n 3, 1) := by decide +kernel
theorem dX6_bothOpen_164 : decode cX6_bothOpen 164 = .ok (.iinc 5 1, 3) := by decide +kernel
theorem dX6_bothOpen_167 : decode cX6_bothOpen 167 = .ok (.goto (-111), 3) := by decide +kernel
theorem dX6_bothOpen_170 : decode cX6_bothOpen 170 = .ok (.iload_n 3, 1) := by decide +kernel
theorem dX6_bothOpen_171 : decode cX6_bothOpen 171 = .ok (.ireturn, 1) := by decide +kernel
theorem dX6_together_0 : decode cX6_together 0 = .ok (.aload_n 0, 1) := by decide +kernel
theorem dX6_together_1 : decode cX6_together 1 = .ok (.iload_n 1, 1) := by decide +kernel
theorem dX6_together_2 : decode cX6_together 2 = .ok (.invokevirtual 93, 3) := by decide +kernel
theorem dX6_together_5 : decode cX6_together 5 = .ok (.ifCond .eq 25, 3) := by decide +kernel
theorem dX6_together_8 : decode cX6_together 8 = .ok (.aload_n 0, 1) := by decide +kernel
theorem dX6_together_9 : decode cX6_together 9 = .ok (.iload_n 2, 1) := by decide +kernel
theorem dX6_together_10 : decode cX6_together 10 = .ok (.invokevirtual 93, 3) := by decide +kernel
theorem dX6_together_13 : decode cX6_together 13 = .ok (.ifCond .eq 17, 3) := by decide +kernel
theorem dX6_together_16 : decode cX6_together 16 = .ok (.iload_n 1, 1) := by decide +kernel
theorem dX6_together_17 : decode cX6_together 17 = .ok (.iload_n 2, 1) := by decide +kernel
theorem dX6_together_18 : decode cX6_together 18 = .ok (.if_icmp .eq 12, 3) := by decide +kernel
theorem dX6_together_21 : decode cX6_together 21 = .ok (.aload_n 0, 1) := by decide +kernel
theorem dX6_together_22 : decode cX6_together 22 = .ok (.iload_n 1, 1) := by decide +kernel
theorem dX6_together_23 : decode cX6_together 23 = .ok (.iload_n 2, 1) := by decide +kernel
theorem dX6_together_24 : decode cX6_together 24 = .ok (.invokevirtual 254, 3) := by decide +kernel
theorem dX6_together_27 : decode cX6_together 27 = .ok (.goto 9, 3) := by decide +kernel
theorem dX6_together_30 : decode cX6_together 30 = .ok (.aload_n 0, 1) := by decide +kernel
theorem dX6_together_31 : decode cX6_together 31 = .ok (.bipush (-2), 2) := by decide +kernel
theorem dX6_together_33 : decode cX6_together 33 = .ok (.invokevirtual 82, 3) := by decide +kernel
theorem dX6_together_36 : decode cX6_together 36 = .ok (.ireturn, 1) := by decide +kernel
theorem dX6_pair_0 : decode cX6_pair 0 = .ok (.aload_n 0, 1) := by decide +kernel
theorem dX6_pair_1 : decode cX6_pair 1 = .ok (.getfield 72, 3) := by decide +kernel
theorem dX6_pair_4 : decode cX6_pair 4 = .ok (.iconst 2, 1) := by decide +kernel
theorem dX6_pair_5 : decode cX6_pair 5 = .ok (.if_icmp .ge 10, 3) := by decide +kernel
theorem dX6_pair_8 : decode cX6_pair 8 = .ok (.aload_n 0, 1) := by decide +kernel
theorem dX6_pair_9 : decode cX6_pair 9 = .ok (.bipush (-5), 2) := by decide +kernel
theorem dX6_pair_11 : decode cX6_pair 11 = .ok (.invokevirtual 82, 3) := by decide +kernel
theorem dX6_pair_14 : decode cX6_pair 14 = .ok (.ireturn, 1) := by decide +kernel
theorem dX6_pair_15 : decode cX6_pair 15 = .ok (.iconst (-1), 1) := by decide +kernel
theorem dX6_pair_16 : decode cX6_pair 16 = .ok (.istore_n 1, 1) := by decide +kernel
theorem dX6_pair_17 : decode cX6_pair 17 = .ok (.iconst (-1), 1) := by decide +kernel
theorem dX6_pair_18 : decode cX6_pair 18 = .ok (.istore_n 2, 1) := by decide +kernel
theorem dX6_pair_19 : decode cX6_pair 19 = .ok (.iconst 0, 1) := by decide +kernel
theorem dX6_pair_20 : decode cX6_pair 20 = .ok (.istore_n 3, 1) := by decide +kernel
theorem dX6_pair_21 : decode cX6_pair 21 = .ok (.iload_n 3, 1) := by decide +kernel
theorem dX6_pair_22 : decode cX6_pair 22 = .ok (.aload_n 0, 1) := by decide +kernel
theorem dX6_pair_23 : decode cX6_pair 23 = .ok (.getfield 72, 3) := by decide +kernel
theorem dX6_pair_26 : decode cX6_pair 26 = .ok (.if_icmp .ge 61, 3) := by decide +kernel
theorem dX6_pair_29 : decode cX6_pair 29 = .ok (.iload_n 3, 1) := by decide +kernel
theorem dX6_pair_30 : decode cX6_pair 30 = .ok (.iconst 1, 1) := by decide +kernel
theorem dX6_pair_31 : decode cX6_pair 31 = .ok (.iadd, 1) := by decide +kernel
theorem dX6_pair_32 : decode cX6_pair 32 = .ok (.istore 4, 2) := by decide +kernel
theorem dX6_pair_34 : decode cX6_pair 34 = .ok (.iload 4, 2) := by decide +kernel
theorem dX6_pair_36 : decode cX6_pair 36 = .ok (.aload_n 0, 1) := by decide +kernel
theorem dX6_pair_37 : decode cX6_pair 37 = .ok (.getfield 72, 3) := by decide +kernel
theorem dX6_pair_40 : decode cX6_pair 40 = .ok (.if_icmp .ge 41, 3) := by decide +kernel
theorem dX6_pair_43 : decode cX6_pair 43 = .ok (.aload_n 0, 1) := by decide +kernel
theorem dX6_pair_44 : decode cX6_pair 44 = .ok (.iload_n 3, 1) := by decide +kernel
theorem dX6_pair_45 : decode cX6_pair 45 = .ok (.iload 4, 2) := by decide +kernel
theorem dX6_pair_47 : decode cX6_pair 47 = .ok (.invokevirtual 254, 3) := by decide +kernel
theorem dX6_pair_50 : decode cX6_pair 50 = .ok (.invokestatic 219, 3) := by decide +kernel
theorem dX6_pair_53 : decode cX6_pair 53 = .ok (.istore 5, 2) := by decide +kernel
theorem dX6_pair_55 : decode cX6_pair 55 = .ok (.iload 5, 2) := by decide +kernel
theorem dX6_pair_57 : decode cX6_pair 57 = .ok (.iload_n 2, 1) := by decide +kernel
theorem dX6_pair_58 : decode cX6_pair 58 = .ok (.if_icmp .gt 6, 3) := by decide +kernel
theorem dX6_pair_61 : decode cX6_pair 61 = .ok (.goto 14, 3) := by decide +kernel
theorem dX6_pair_64 : decode cX6_pair 64 = .ok (.iload 5, 2) := by decide +kernel
theorem dX6_pair_66 : decode cX6_pair 66 = .ok (.istore_n 2, 1) := by decide +kernel
theorem dX6_pair_67 : decode cX6_pair 67 = .ok (.bipush 10, 2) := by decide +kernel
theorem dX6_pair_69 : decode cX6_pair 69 = .ok (.iload_n 3, 1) := by decide +kernel
theorem dX6_pair_70 : decode cX6_pair 70 = .ok (.imul, 1) := by decide +kernel
theorem dX6_pair_71 : decode cX6_pair 71 = .ok (.iload 4, 2) := by decide +kernel
theorem dX6_pair_73 : decode cX6_pair 73 = .ok (.iadd, 1) := by decide +kernel
theorem dX6_pair_74 : decode cX6_pair 74 = .ok (.istore_n 1, 1) := by decide +kernel
theorem dX6_pair_75 : decode cX6_pair 75 = .ok (.iinc 4 1, 3) := by decide +kernel
theorem dX6_pair_78 : decode cX6_pair 78 = .ok (.goto (-44), 3) := by decide +kernel
theorem dX6_pair_81 : decode cX6_pair 81 = .ok (.iinc 3 1, 3) := by decide +kernel
theorem dX6_pair_84 : decode cX6_pair 84 = .ok (.goto (-63), 3) := by decide +kernel
theorem dX6_pair_87 : decode cX6_pair 87 = .ok (.iload_n 1, 1) := by decide +kernel
theorem dX6_pair_88 : decode cX6_pair 88 = .ok (.ireturn, 1) := by decide +kernel
theorem dX6_unlike_0 : decode cX6_unlike 0 = .ok (.iconst 0, 1) := by decide +kernel
theorem dX6_unlike_1 : decode cX6_unlike 1 = .ok (.istore_n 1, 1) := by decide +kernel
theorem dX6_unlike_2 : decode cX6_unlike 2 = .ok (.iconst 0, 1) := by decide +kernel
theorem dX6_unlike_3 : decode cX6_unlike 3 = .ok (.istore_n 2, 1) := by decide +kernel
theorem dX6_unlike_4 : decode cX6_unlike 4 = .ok (.iload_n 2, 1) := by decide +kernel
theorem dX6_unlike_5 : decode cX6_unlike 5 = .ok (.aload_n 0, 1) := by decide +kernel
theorem dX6_unlike_6 : decode cX6_unlike 6 = .ok (.invokevirtual 236, 3) := by decide +kernel
theorem dX6_unlike_9 : decode cX6_unlike 9 = .ok (.if_icmp .ge 31, 3) := by decide +kernel
theorem dX6_unlike_12 : decode cX6_unlike 12 = .ok (.aload_n 0, 1) := by decide +kernel
theorem dX6_unlike_13 : decode cX6_unlike 13 = .ok (.iload_n 2, 1) := by decide +kernel
theorem dX6_unlike_14 : decode cX6_unlike 14 = .ok (.invokevirtual 242, 3) := by decide +kernel
theorem dX6_unlike_17 : decode cX6_unlike 17 = .ok (.aload_n 0, 1) := by decide +kernel
theorem dX6_unlike_18 : decode cX6_unlike 18 = .ok (.getfield 59, 3) := by decide +kernel
theorem dX6_unlike_21 : decode cX6_unlike 21 = .ok (.aload_n 0, 1) := by decide +kernel
theorem dX6_unlike_22 : decode cX6_unlike 22 = .ok (.getfield 63, 3) := by decide +kernel
theorem dX6_unlike_25 : decode cX6_unlike 25 = .ok (.imul, 1) := by decide +kernel
theorem dX6_unlike_26 : decode cX6_unlike 26 = .ok (.iconst 2, 1) := by decide +kernel
theorem dX6_unlike_27 : decode cX6_unlike 27 = .ok (.idiv, 1) := by decide +kernel
theorem dX6_unlike_28 : decode cX6_unlike 28 = .ok (.if_icmp .ne 6, 3) := by decide +kernel
theorem dX6_unlike_31 : decode cX6_unlike 31 = .ok (.iinc 1 1, 3) := by decide +kernel
theorem dX6_unlike_34 : decode cX6_unlike 34 = .ok (.iinc 2 1, 3) := by decide +kernel
theorem dX6_unlike_37 : decode cX6_unlike 37 = .ok (.goto (-33), 3) := by decide +kernel
theorem dX6_unlike_40 : decode cX6_unlike 40 = .ok (.iload_n 1, 1) := by decide +kernel
theorem dX6_unlike_41 : decode cX6_unlike 41 = .ok (.ireturn, 1) := by decide +kernel
theorem dX6_alike_0 : decode cX6_alike 0 = .ok (.iconst 0, 1) := by decide +kernel
theorem dX6_alike_1 : decode cX6_alike 1 = .ok (.istore_n 1, 1) := by decide +kernel
theorem dX6_alike_2 : decode cX6_alike 2 = .ok (.iload_n 1, 1) := by decide +kernel
theorem dX6_alike_3 : decode cX6_alike 3 = .ok (.aload_n 0, 1) := by decide +kernel
theorem dX6_alike_4 : decode cX6_alike 4 = .ok (.getfield 79, 3) := by decide +kernel
theorem dX6_alike_7 : decode cX6_alike 7 = .ok (.if_icmp .ge 92, 3) := by decide +kernel
theorem dX6_alike_10 : decode cX6_alike 10 = .ok (.iconst 0, 1) := by decide +kernel
theorem dX6_alike_11 : decode cX6_alike 11 = .ok (.istore_n 2, 1) := by decide +kernel
theorem dX6_alike_12 : decode cX6_alike 12 = .ok (.iload_n 2, 1) := by decide +kernel
theorem dX6_alike_13 : decode cX6_alike 13 = .ok (.aload_n 0, 1) := by decide +kernel
theorem dX6_alike_14 : decode cX6_alike 14 = .ok (.getfield 79, 3) := by decide +kernel
theorem dX6_alike_17 : decode cX6_alike 17 = .ok (.if_icmp .ge 76, 3) := by decide +kernel
theorem dX6_alike_20 : decode cX6_alike 20 = .ok (.iload_n 1, 1) := by decide +kernel
theorem dX6_alike_21 : decode cX6_alike 21 = .ok (.iload_n 2, 1) := by decide +kernel
theorem dX6_alike_22 : decode cX6_alike 22 = .ok (.if_icmp .eq 7, 3) := by decide +kernel
theorem dX6_alike_25 : decode cX6_alike 25 = .ok (.iconst 1, 1) := by decide +kernel
theorem dX6_alike_26 : decode cX6_alike 26 = .ok (.goto 4, 3) := by decide +kernel
theorem dX6_alike_29 : decode cX6_alike 29 = .ok (.iconst 0, 1) := by decide +kernel
theorem dX6_alike_30 : decode cX6_alike 30 = .ok (.istore_n 3, 1) := by decide +kernel
theorem dX6_alike_31 : decode cX6_alike 31 = .ok (.iconst 0, 1) := by decide +kernel
theorem dX6_alike_32 : decode cX6_alike 32 = .ok (.istore 4, 2) := by decide +kernel
theorem dX6_alike_34 : decode cX6_alike 34 = .ok (.iload 4, 2) := by decide +kernel
theorem dX6_alike_36 : decode cX6_alike 36 = .ok (.aload_n 0, 1) := by decide +kernel
theorem dX6_alike_37 : decode cX6_alike 37 = .ok (.getfield 59, 3) := by decide +kernel
theorem dX6_alike_40 : decode cX6_alike 40 = .ok (.if_icmp .ge 36, 3) := by decide +kernel
theorem dX6_alike_43 : decode cX6_alike 43 = .ok (.aload_n 0, 1) := by decide +kernel
theorem dX6_alike_44 : decode cX6_alike 44 = .ok (.getfield 35, 3) := by decide +kernel
theorem dX6_alike_47 : decode cX6_alike 47 = .ok (.iconst 5, 1) := by decide +kernel
theorem dX6_alike_48 : decode cX6_alike 48 = .ok (.iload_n 1, 1) := by decide +kernel
theorem dX6_alike_49 : decode cX6_alike 49 = .ok (.imul, 1) := by decide +kernel
theorem dX6_alike_50 : decode cX6_alike 50 = .ok (.iload 4, 2) := by decide +kernel
theorem dX6_alike_52 : decode cX6_alike 52 = .ok (.iadd, 1) := by decide +kernel
theorem dX6_alike_53 : decode cX6_alike 53 = .ok (.iaload, 1) := by decide +kernel
theorem dX6_alike_54 : decode cX6_alike 54 = .ok (.aload_n 0, 1) := by decide +kernel
theorem dX6_alike_55 : decode cX6_alike 55 = .ok (.getfield 35, 3) := by decide +kernel
theorem dX6_alike_58 : decode cX6_alike 58 = .ok (.iconst 5, 1) := by decide +kernel
theorem dX6_alike_59 : decode cX6_alike 59 = .ok (.iload_n 2, 1) := by decide +kernel
theorem dX6_alike_60 : decode cX6_alike 60 = .ok (.imul, 1) := by decide +kernel
theorem dX6_alike_61 : decode cX6_alike 61 = .ok (.iload 4, 2) := by decide +kernel
theorem dX6_alike_63 : decode cX6_alike 63 = .ok (.iadd, 1) := by decide +kernel
theorem dX6_alike_64 : decode cX6_alike 64 = .ok (.iaload, 1) := by decide +kernel
theorem dX6_alike_65 : decode cX6_alike 65 = .ok (.if_icmp .ge 5, 3) := by decide +kernel
theorem dX6_alike_68 : decode cX6_alike 68 = .ok (.iconst 0, 1) := by decide +kernel
theorem dX6_alike_69 : decode cX6_alike 69 = .ok (.istore_n 3, 1) := by decide +kernel
theorem dX6_alike_70 : decode cX6_alike 70 = .ok (.iinc 4 1, 3) := by decide +kernel
theorem dX6_alike_73 : decode cX6_alike 73 = .ok (.goto (-39), 3) := by decide +kernel
theorem dX6_alike_76 : decode cX6_alike 76 = .ok (.iload_n 3, 1) := by decide +kernel
theorem dX6_alike_77 : decode cX6_alike 77 = .ok (.ifCond .eq 10, 3) := by decide +kernel
theorem dX6_alike_80 : decode cX6_alike 80 = .ok (.bipush 10, 2) := by decide +kernel
theorem dX6_alike_82 : decode cX6_alike 82 = .ok (.iload_n 1, 1) := by decide +kernel
theorem dX6_alike_83 : decode cX6_alike 83 = .ok (.imul, 1) := by decide +kernel
theorem dX6_alike_84 : decode cX6_alike 84 = .ok (.iload_n 2, 1) := by decide +kernel
theorem dX6_alike_85 : decode cX6_alike 85 = .ok (.iadd, 1) := by decide +kernel
theorem dX6_alike_86 : decode cX6_alike 86 = .ok (.ireturn, 1) := by decide +kernel
theorem dX6_alike_87 : decode cX6_alike 87 = .ok (.iinc 2 1, 3) := by decide +kernel
theorem dX6_alike_90 : decode cX6_alike 90 = .ok (.goto (-78), 3) := by decide +kernel
theorem dX6_alike_93 : decode cX6_alike 93 = .ok (.iinc 1 1, 3) := by decide +kernel
theorem dX6_alike_96 : decode cX6_alike 96 = .ok (.goto (-94), 3) := by decide +kernel
theorem dX6_alike_99 : decode cX6_alike 99 = .ok (.iconst (-1), 1) := by decide +kernel
theorem dX6_alike_100 : decode cX6_alike 100 = .ok (.ireturn, 1) := by decide +kernel
theorem dX6_over_0 : decode cX6_over 0 = .ok (.aload_n 0, 1) := by decide +kernel
theorem dX6_over_1 : decode cX6_over 1 = .ok (.iload_n 1, 1) := by decide +kernel
theorem dX6_over_2 : decode cX6_over 2 = .ok (.invokevirtual 93, 3) := by decide +kernel
theorem dX6_over_5 : decode cX6_over 5 = .ok (.ifCond .ne 10, 3) := by decide +kernel
theorem dX6_over_8 : decode cX6_over 8 = .ok (.aload_n 0, 1) := by decide +kernel
theorem dX6_over_9 : decode cX6_over 9 = .ok (.bipush (-2), 2) := by decide +kernel
theorem dX6_over_11 : decode cX6_over 11 = .ok (.invokevirtual 82, 3) := by decide +kernel
theorem dX6_over_14 : decode cX6_over 14 = .ok (.ireturn, 1) := by decide +kernel
theorem dX6_over_15 : decode cX6_over 15 = .ok (.iconst 0, 1) := by decide +kernel
theorem dX6_over_16 : decode cX6_over 16 = .ok (.istore_n 2, 1) := by decide +kernel
theorem dX6_over_17 : decode cX6_over 17 = .ok (.iconst 0, 1) := by decide +kernel
theorem dX6_over_18 : decode cX6_over 18 = .ok (.istore_n 3, 1) := by decide +kernel
theorem dX6_over_19 : decode cX6_over 19 = .ok (.iload_n 3, 1) := by decide +kernel
theorem dX6_over_20 : decode cX6_over 20 = .ok (.aload_n 0, 1) := by decide +kernel
theorem dX6_over_21 : decode cX6_over 21 = .ok (.getfield 72, 3) := by decide +kernel
theorem dX6_over_24 : decode cX6_over 24 = .ok (.if_icmp .ge 36, 3) := by decide +kernel
theorem dX6_over_27 : decode cX6_over 27 = .ok (.iload_n 3, 1) := by decide +kernel
theorem dX6_over_28 : decode cX6_over 28 = .ok (.iload_n 1, 1) := by decide +kernel
theorem dX6_over_29 : decode cX6_over 29 = .ok (.if_icmp .eq 25, 3) := by decide +kernel
theorem dX6_over_32 : decode cX6_over 32 = .ok (.aload_n 0, 1) := by decide +kernel
theorem dX6_over_33 : decode cX6_over 33 = .ok (.iload_n 1, 1) := by decide +kernel
theorem dX6_over_34 : decode cX6_over 34 = .ok (.invokevirtual 106, 3) := by decide +kernel
theorem dX6_over_37 : decode cX6_over 37 = .ok (.aload_n 0, 1) := by decide +kernel
theorem dX6_over_38 : decode cX6_over 38 = .ok (.iload_n 3, 1) := by decide +kernel
theorem dX6_over_39 : decode cX6_over 39 = .ok (.invokevirtual 106, 3) := by decide +kernel
theorem dX6_over_42 : decode cX6_over 42 = .ok (.iconst (-1), 1) := by decide +kernel
theorem dX6_over_43 : decode cX6_over 43 = .ok (.ixor, 1) := by decide +kernel
theorem dX6_over_44 : decode cX6_over 44 = .ok (.iand, 1) := by decide +kernel
theorem dX6_over_45 : decode cX6_over 45 = .ok (.ifCond .ne 9, 3) := by decide +kernel
theorem dX6_over_48 : decode cX6_over 48 = .ok (.iload_n 2, 1) := by decide +kernel
theorem dX6_over_49 : decode cX6_over 49 = .ok (.iconst 1, 1) := by decide +kernel
theorem dX6_over_50 : decode cX6_over 50 = .ok (.iload_n 3, 1) := by decide +kernel
theorem dX6_over_51 : decode cX6_over 51 = .ok (.ishl, 1) := by decide +kernel
theorem dX6_over_52 : decode cX6_over 52 = .ok (.ior, 1) := by decide +kernel
theorem dX6_over_53 : decode cX6_over 53 = .ok (.istore_n 2, 1) := by decide +kernel
theorem dX6_over_54 : decode cX6_over 54 = .ok (.iinc 3 1, 3) := by decide +kernel
theorem dX6_over_57 : decode cX6_over 57 = .ok (.goto (-38), 3) := by decide +kernel
theorem dX6_over_60 : decode cX6_over 60 = .ok (.iload_n 2, 1) := by decide +kernel
theorem dX6_over_61 : decode cX6_over 61 = .ok (.ireturn, 1) := by decide +kernel
theorem dX6_chain_0 : decode cX6_chain 0 = .ok (.iconst 0, 1) := by decide +kernel
theorem dX6_chain_1 : decode cX6_chain 1 = .ok (.istore_n 1, 1) := by decide +kernel
theorem dX6_chain_2 : decode cX6_chain 2 = .ok (.iconst 0, 1) := by decide +kernel
theorem dX6_chain_3 : decode cX6_chain 3 = .ok (.istore_n 2, 1) := by decide +kernel
theorem dX6_chain_4 : decode cX6_chain 4 = .ok (.iload_n 2, 1) := by decide +kernel
theorem dX6_chain_5 : decode cX6_chain 5 = .ok (.aload_n 0, 1) := by decide +kernel
theorem dX6_chain_6 : decode cX6_chain 6 = .ok (.getfield 79, 3) := by decide +kernel
theorem dX6_chain_9 : decode cX6_chain 9 = .ok (.if_icmp .gt 131, 3) := by decide +kernel
theorem dX6_chain_12 : decode cX6_chain 12 = .ok (.iconst 0, 1) := by decide +kernel
theorem dX6_chain_13 : decode cX6_chain 13 = .ok (.istore_n 3, 1) := by decide +kernel
theorem dX6_chain_14 : decode cX6_chain 14 = .ok (.iload_n 3, 1) := by decide +kernel
theorem dX6_chain_15 : decode cX6_chain 15 = .ok (.aload_n 0, 1) := by decide +kernel
theorem dX6_chain_16 : decode cX6_chain 16 = .ok (.getfield 72, 3) := by decide +kernel
theorem dX6_chain_19 : decode cX6_chain 19 = .ok (.if_icmp .ge 115, 3) := by decide +kernel
theorem dX6_chain_22 : decode cX6_chain 22 = .ok (.aload_n 0, 1) := by decide +kernel
theorem dX6_chain_23 : decode cX6_chain 23 = .ok (.iload_n 3, 1) := by decide +kernel
theorem dX6_chain_24 : decode cX6_chain 24 = .ok (.invokevirtual 106, 3) := by decide +kernel
theorem dX6_chain_27 : decode cX6_chain 27 = .ok (.invokestatic 219, 3) := by decide +kernel
theorem dX6_chain_30 : decode cX6_chain 30 = .ok (.iload_n 2, 1) := by decide +kernel
theorem dX6_chain_31 : decode cX6_chain 31 = .ok (.if_icmp .eq 6, 3) := by decide +kernel
theorem dX6_chain_34 : decode cX6_chain 34 = .ok (.goto 94, 3) := by decide +kernel
theorem dX6_chain_37 : decode cX6_chain 37 = .ok (.aload_n 0, 1) := by decide +kernel
theorem dX6_chain_38 : decode cX6_chain 38 = .ok (.getfield 56, 3) := by decide +kernel
theorem dX6_chain_41 : decode cX6_chain 41 = .ok (.iload_n 3, 1) := by decide +kernel
theorem dX6_chain_42 : decode cX6_chain 42 = .ok (.iconst 1, 1) := by decide +kernel
theorem dX6_chain_43 : decode cX6_chain 43 = .ok (.iastore, 1) := by decide +kernel
theorem dX6_chain_44 : decode cX6_chain 44 = .ok (.iconst 0, 1) := by decide +kernel
theorem dX6_chain_45 : decode cX6_chain 45 = .ok (.istore 4, 2) := by decide +kernel
theorem dX6_chain_47 : decode cX6_chain 47 = .ok (.iload 4, 2) := by decide +kernel
theorem dX6_chain_49 : decode cX6_chain 49 = .ok (.aload_n 0, 1) := by decide +kernel
theorem dX6_chain_50 : decode cX6_chain 50 = .ok (.getfield 72, 3) := by decide +kernel
theorem dX6_chain_53 : decode cX6_chain 53 = .ok (.if_icmp .ge 64, 3) := by decide +kernel
theorem dX6_chain_56 : decode cX6_chain 56 = .ok (.aload_n 0, 1) := by decide +kernel
theorem dX6_chain_57 : decode cX6_chain 57 = .ok (.iload 4, 2) := by decide +kernel
theorem dX6_chain_59 : decode cX6_chain 59 = .ok (.invokevirtual 106, 3) := by decide +kernel
theorem dX6_chain_62 : decode cX6_chain 62 = .ok (.istore 5, 2) := by decide +kernel
theorem dX6_chain_64 : decode cX6_chain 64 = .ok (.iload 5, 2) := by decide +kernel
theorem dX6_chain_66 : decode cX6_chain 66 = .ok (.aload_n 0, 1) := by decide +kernel
theorem dX6_chain_67 : decode cX6_chain 67 = .ok (.iload_n 3, 1) := by decide +kernel
theorem dX6_chain_68 : decode cX6_chain 68 = .ok (.invokevirtual 106, 3) := by decide +kernel
theorem dX6_chain_71 : decode cX6_chain 71 = .ok (.if_icmp .eq 40, 3) := by decide +kernel
theorem dX6_chain_74 : decode cX6_chain 74 = .ok (.iload 5, 2) := by decide +kernel
theorem dX6_chain_76 : decode cX6_chain 76 = .ok (.aload_n 0, 1) := by decide +kernel
theorem dX6_chain_77 : decode cX6_chain 77 = .ok (.iload_n 3, 1) := by decide +kernel
theorem dX6_chain_78 : decode cX6_chain 78 = .ok (.invokevirtual 106, 3) := by decide +kernel
theorem dX6_chain_81 : decode cX6_chain 81 = .ok (.iconst (-1), 1) := by decide +kernel
theorem dX6_chain_82 : decode cX6_chain 82 = .ok (.ixor, 1) := by decide +kernel
theorem dX6_chain_83 : decode cX6_chain 83 = .ok (.iand, 1) := by decide +kernel
theorem dX6_chain_84 : decode cX6_chain 84 = .ok (.ifCond .ne 27, 3) := by decide +kernel
theorem dX6_chain_87 : decode cX6_chain 87 = .ok (.aload_n 0, 1) := by decide +kernel
theorem dX6_chain_88 : decode cX6_chain 88 = .ok (.getfield 56, 3) := by decide +kernel
theorem dX6_chain_91 : decode cX6_chain 91 = .ok (.iload_n 3, 1) := by decide +kernel
theorem dX6_chain_92 : decode cX6_chain 92 = .ok (.aload_n 0, 1) := by decide +kernel
theorem dX6_chain_93 : decode cX6_chain 93 = .ok (.getfield 56, 3) := by decide +kernel
theorem dX6_chain_96 : decode cX6_chain 96 = .ok (.iload_n 3, 1) := by decide +kernel
theorem dX6_chain_97 : decode cX6_chain 97 = .ok (.iaload, 1) := by decide +kernel
theorem dX6_chain_98 : decode cX6_chain 98 = .ok (.aload_n 0, 1) := by decide +kernel
theorem dX6_chain_99 : decode cX6_chain 99 = .ok (.getfield 56, 3) := by decide +kernel
theorem dX6_chain_102 : decode cX6_chain 102 = .ok (.iload 4, 2) := by decide +kernel
theorem dX6_chain_104 : decode cX6_chain 104 = .ok (.iaload, 1) := by decide +kernel
theorem dX6_chain_105 : decode cX6_chain 105 = .ok (.iconst 1, 1) := by decide +kernel
theorem dX6_chain_106 : decode cX6_chain 106 = .ok (.iadd, 1) := by decide +kernel
theorem dX6_chain_107 : decode cX6_chain 107 = .ok (.invokestatic 201, 3) := by decide +kernel
theorem dX6_chain_110 : decode cX6_chain 110 = .ok (.iastore, 1) := by decide +kernel
theorem dX6_chain_111 : decode cX6_chain 111 = .ok (.iinc 4 1, 3) := by decide +kernel
theorem dX6_chain_114 : decode cX6_chain 114 = .ok (.goto (-67), 3) := by decide +kernel
theorem dX6_chain_117 : decode cX6_chain 117 = .ok (.iload_n 1, 1) := by decide +kernel
theorem dX6_chain_118 : decode cX6_chain 118 = .ok (.aload_n 0, 1) := by decide +kernel
theorem dX6_chain_119 : decode cX6_chain 119 = .ok (.getfield 56, 3) := by decide +kernel
theorem dX6_chain_122 : decode cX6_chain 122 = .ok (.iload_n 3, 1) := by decide +kernel
theorem dX6_chain_123 : decode cX6_chain 123 = .ok (.iaload, 1) := by decide +kernel
theorem dX6_chain_124 : decode cX6_chain 124 = .ok (.invokestatic 201, 3) := by decide +kernel
theorem dX6_chain_127 : decode cX6_chain 127 = .ok (.istore_n 1, 1) := by decide +kernel
theorem dX6_chain_128 : decode cX6_chain 128 = .ok (.iinc 3 1, 3) := by decide +kernel
theorem dX6_chain_131 : decode cX6_chain 131 = .ok (.goto (-117), 3) := by decide +kernel
theorem dX6_chain_134 : decode cX6_chain 134 = .ok (.iinc 2 1, 3) := by decide +kernel
theorem dX6_chain_137 : decode cX6_chain 137 = .ok (.goto (-133), 3) := by decide +kernel
theorem dX6_chain_140 : decode cX6_chain 140 = .ok (.iload_n 1, 1) := by decide +kernel
theorem dX6_chain_141 : decode cX6_chain 141 = .ok (.ireturn, 1) := by decide +kernel
theorem dX6_pairs_0 : decode cX6_pairs 0 = .ok (.iconst 0, 1) := by decide +kernel
theorem dX6_pairs_1 : decode cX6_pairs 1 = .ok (.istore_n 1, 1) := by decide +kernel
theorem dX6_pairs_2 : decode cX6_pairs 2 = .ok (.iconst 0, 1) := by decide +kernel
theorem dX6_pairs_3 : decode cX6_pairs 3 = .ok (.istore_n 2, 1) := by decide +kernel
theorem dX6_pairs_4 : decode cX6_pairs 4 = .ok (.iload_n 2, 1) := by decide +kernel
theorem dX6_pairs_5 : decode cX6_pairs 5 = .ok (.aload_n 0, 1) := by decide +kernel
theorem dX6_pairs_6 : decode cX6_pairs 6 = .ok (.getfield 72, 3) := by decide +kernel
theorem dX6_pairs_9 : decode cX6_pairs 9 = .ok (.if_icmp .ge 20, 3) := by decide +kernel
theorem dX6_pairs_12 : decode cX6_pairs 12 = .ok (.iload_n 1, 1) := by decide +kernel
theorem dX6_pairs_13 : decode cX6_pairs 13 = .ok (.aload_n 0, 1) := by decide +kernel
theorem dX6_pairs_14 : decode cX6_pairs 14 = .ok (.iload_n 2, 1) := by decide +kernel
theorem dX6_pairs_15 : decode cX6_pairs 15 = .ok (.invokevirtual 106, 3) := by decide +kernel
theorem dX6_pairs_18 : decode cX6_pairs 18 = .ok (.invokestatic 219, 3) := by decide +kernel
theorem dX6_pairs_21 : decode cX6_pairs 21 = .ok (.iadd, 1) := by decide +kernel
theorem dX6_pairs_22 : decode cX6_pairs 22 = .ok (.istore_n 1, 1) := by decide +kernel
theorem dX6_pairs_23 : decode cX6_pairs 23 = .ok (.iinc 2 1, 3) := by decide +kernel
theorem dX6_pairs_26 : decode cX6_pairs 26 = .ok (.goto (-22), 3) := by decide +kernel
theorem dX6_pairs_29 : decode cX6_pairs 29 = .ok (.iload_n 1, 1) := by decide +kernel
theorem dX6_pairs_30 : decode cX6_pairs 30 = .ok (.ireturn, 1) := by decide +kernel
theorem dX6_ward_0 : decode cX6_ward 0 = .ok (.aload_n 0, 1) := by decide +kernel
theorem dX6_ward_1 : decode cX6_ward 1 = .ok (.iload_n 1, 1) := by decide +kernel
theorem dX6_ward_2 : decode cX6_ward 2 = .ok (.invokevirtual 120, 3) := by decide +kernel
theorem dX6_ward_5 : decode cX6_ward 5 = .ok (.ifCond .ne 10, 3) := by decide +kernel
theorem dX6_ward_8 : decode cX6_ward 8 = .ok (.aload_n 0, 1) := by decide +kernel
theorem dX6_ward_9 : decode cX6_ward 9 = .ok (.bipush (-2), 2) := by decide +kernel
theorem dX6_ward_11 : decode cX6_ward 11 = .ok (.invokevirtual 82, 3) := by decide +kernel
theorem dX6_ward_14 : decode cX6_ward 14 = .ok (.ireturn, 1) := by decide +kernel
theorem dX6_ward_15 : decode cX6_ward 15 = .ok (.aload_n 0, 1) := by decide +kernel
theorem dX6_ward_16 : decode cX6_ward 16 = .ok (.getfield 32, 3) := by decide +kernel
theorem dX6_ward_19 : decode cX6_ward 19 = .ok (.iload_n 1, 1) := by decide +kernel
theorem dX6_ward_20 : decode cX6_ward 20 = .ok (.iaload, 1) := by decide +kernel
theorem dX6_ward_21 : decode cX6_ward 21 = .ok (.iconst 1, 1) := by decide +kernel
theorem dX6_ward_22 : decode cX6_ward 22 = .ok (.if_icmp .ne 10, 3) := by decide +kernel
theorem dX6_ward_25 : decode cX6_ward 25 = .ok (.aload_n 0, 1) := by decide +kernel
theorem dX6_ward_26 : decode cX6_ward 26 = .ok (.bipush (-5), 2) := by decide +kernel
theorem dX6_ward_28 : decode cX6_ward 28 = .ok (.invokevirtual 82, 3) := by decide +kernel
theorem dX6_ward_31 : decode cX6_ward 31 = .ok (.ireturn, 1) := by decide +kernel
theorem dX6_ward_32 : decode cX6_ward 32 = .ok (.aload_n 0, 1) := by decide +kernel
theorem dX6_ward_33 : decode cX6_ward 33 = .ok (.invokevirtual 257, 3) := by decide +kernel
theorem dX6_ward_36 : decode cX6_ward 36 = .ok (.istore_n 2, 1) := by decide +kernel
theorem dX6_ward_37 : decode cX6_ward 37 = .ok (.aload_n 0, 1) := by decide +kernel
theorem dX6_ward_38 : decode cX6_ward 38 = .ok (.getfield 32, 3) := by decide +kernel
theorem dX6_ward_41 : decode cX6_ward 41 = .ok (.iload_n 1, 1) := by decide +kernel
theorem dX6_ward_42 : decode cX6_ward 42 = .ok (.iconst 1, 1) := by decide +kernel
theorem dX6_ward_43 : decode cX6_ward 43 = .ok (.iastore, 1) := by decide +kernel
theorem dX6_ward_44 : decode cX6_ward 44 = .ok (.aload_n 0, 1) := by decide +kernel
theorem dX6_ward_45 : decode cX6_ward 45 = .ok (.invokevirtual 257, 3) := by decide +kernel
theorem dX6_ward_48 : decode cX6_ward 48 = .ok (.istore_n 3, 1) := by decide +kernel
theorem dX6_ward_49 : decode cX6_ward 49 = .ok (.aload_n 0, 1) := by decide +kernel
theorem dX6_ward_50 : decode cX6_ward 50 = .ok (.getfield 32, 3) := by decide +kernel
theorem dX6_ward_53 : decode cX6_ward 53 = .ok (.iload_n 1, 1) := by decide +kernel
theorem dX6_ward_54 : decode cX6_ward 54 = .ok (.iconst 0, 1) := by decide +kernel
theorem dX6_ward_55 : decode cX6_ward 55 = .ok (.iastore, 1) := by decide +kernel
theorem dX6_ward_56 : decode cX6_ward 56 = .ok (.iload_n 2, 1) := by decide +kernel
theorem dX6_ward_57 : decode cX6_ward 57 = .ok (.iload_n 3, 1) := by decide +kernel
theorem dX6_ward_58 : decode cX6_ward 58 = .ok (.isub, 1) := by decide +kernel
theorem dX6_ward_59 : decode cX6_ward 59 = .ok (.ireturn, 1) := by decide +kernel
theorem dX6_found_0 : decode cX6_found 0 = .ok (.iload_n 1, 1) := by decide +kernel
theorem dX6_found_1 : decode cX6_found 1 = .ok (.iconst 0, 1) := by decide +kernel
theorem dX6_found_2 : decode cX6_found 2 = .ok (.bipush 7, 2) := by decide +kernel
theorem dX6_found_4 : decode cX6_found 4 = .ok (.invokestatic 75, 3) := by decide +kernel
theorem dX6_found_7 : decode cX6_found 7 = .ok (.ifCond .eq 19, 3) := by decide +kernel
theorem dX6_found_10 : decode cX6_found 10 = .ok (.iload_n 2, 1) := by decide +kernel
theorem dX6_found_11 : decode cX6_found 11 = .ok (.iconst 0, 1) := by decide +kernel
theorem dX6_found_12 : decode cX6_found 12 = .ok (.iconst 1, 1) := by decide +kernel
theorem dX6_found_13 : decode cX6_found 13 = .ok (.aload_n 0, 1) := by decide +kernel
theorem dX6_found_14 : decode cX6_found 14 = .ok (.getfield 79, 3) := by decide +kernel
theorem dX6_found_17 : decode cX6_found 17 = .ok (.ishl, 1) := by decide +kernel
theorem dX6_found_18 : decode cX6_found 18 = .ok (.iconst 1, 1) := by decide +kernel
theorem dX6_found_19 : decode cX6_found 19 = .ok (.isub, 1) := by decide +kernel
theorem dX6_found_20 : decode cX6_found 20 = .ok (.invokestatic 75, 3) := by decide +kernel
theorem dX6_found_23 : decode cX6_found 23 = .ok (.ifCond .ne 10, 3) := by decide +kernel
theorem dX6_found_26 : decode cX6_found 26 = .ok (.aload_n 0, 1) := by decide +kernel
theorem dX6_found_27 : decode cX6_found 27 = .ok (.bipush (-2), 2) := by decide +kernel
theorem dX6_found_29 : decode cX6_found 29 = .ok (.invokevirtual 82, 3) := by decide +kernel
theorem dX6_found_32 : decode cX6_found 32 = .ok (.ireturn, 1) := by decide +kernel
theorem dX6_found_33 : decode cX6_found 33 = .ok (.aload_n 0, 1) := by decide +kernel
theorem dX6_found_34 : decode cX6_found 34 = .ok (.iload_n 1, 1) := by decide +kernel
theorem dX6_found_35 : decode cX6_found 35 = .ok (.invokevirtual 86, 3) := by decide +kernel
theorem dX6_found_38 : decode cX6_found 38 = .ok (.istore_n 3, 1) := by decide +kernel
theorem dX6_found_39 : decode cX6_found 39 = .ok (.iload_n 3, 1) := by decide +kernel
theorem dX6_found_40 : decode cX6_found 40 = .ok (.ifCond .ge 9, 3) := by decide +kernel
theorem dX6_found_43 : decode cX6_found 43 = .ok (.aload_n 0, 1) := by decide +kernel
theorem dX6_found_44 : decode cX6_found 44 = .ok (.iload_n 3, 1) := by decide +kernel
theorem dX6_found_45 : decode cX6_found 45 = .ok (.invokevirtual 82, 3) := by decide +kernel
theorem dX6_found_48 : decode cX6_found 48 = .ok (.ireturn, 1) := by decide +kernel
theorem dX6_found_49 : decode cX6_found 49 = .ok (.aload_n 0, 1) := by decide +kernel
theorem dX6_found_50 : decode cX6_found 50 = .ok (.getfield 13, 3) := by decide +kernel
theorem dX6_found_53 : decode cX6_found 53 = .ok (.iload_n 1, 1) := by decide +kernel
theorem dX6_found_54 : decode cX6_found 54 = .ok (.iaload, 1) := by decide +kernel
theorem dX6_found_55 : decode cX6_found 55 = .ok (.aload_n 0, 1) := by decide +kernel
theorem dX6_found_56 : decode cX6_found 56 = .ok (.getfield 59, 3) := by decide +kernel
theorem dX6_found_59 : decode cX6_found 59 = .ok (.if_icmp .ge 10, 3) := by decide +kernel
theorem dX6_found_62 : decode cX6_found 62 = .ok (.aload_n 0, 1) := by decide +kernel
theorem dX6_found_63 : decode cX6_found 63 = .ok (.bipush (-2), 2) := by decide +kernel
theorem dX6_found_65 : decode cX6_found 65 = .ok (.invokevirtual 82, 3) := by decide +kernel
theorem dX6_found_68 : decode cX6_found 68 = .ok (.ireturn, 1) := by decide +kernel
theorem dX6_found_69 : decode cX6_found 69 = .ok (.iconst 0, 1) := by decide +kernel
theorem dX6_found_70 : decode cX6_found 70 = .ok (.istore 4, 2) := by decide +kernel
theorem dX6_found_72 : decode cX6_found 72 = .ok (.iload 4, 2) := by decide +kernel
theorem dX6_found_74 : decode cX6_found 74 = .ok (.aload_n 0, 1) := by decide +kernel
theorem dX6_found_75 : decode cX6_found 75 = .ok (.getfield 59, 3) := by decide +kernel
theorem dX6_found_78 : decode cX6_found 78 = .ok (.if_icmp .ge 54, 3) := by decide +kernel
theorem dX6_found_81 : decode cX6_found 81 = .ok (.aload_n 0, 1) := by decide +kernel
theorem dX6_found_82 : decode cX6_found 82 = .ok (.getfield 16, 3) := by decide +kernel
theorem dX6_found_85 : decode cX6_found 85 = .ok (.bipush 40, 2) := by decide +kernel
theorem dX6_found_87 : decode cX6_found 87 = .ok (.iload_n 1, 1) := by decide +kernel
theorem dX6_found_88 : decode cX6_found 88 = .ok (.imul, 1) := by decide +kernel
theorem dX6_found_89 : decode cX6_found 89 = .ok (.iload 4, 2) := by decide +kernel
theorem dX6_found_91 : decode cX6_found 91 = .ok (.iadd, 1) := by decide +kernel
theorem dX6_found_92 : decode cX6_found 92 = .ok (.laload, 1) := by decide +kernel
theorem dX6_found_93 : decode cX6_found 93 = .ok (.lconst 0, 1) := by decide +kernel
theorem dX6_found_94 : decode cX6_found 94 = .ok (.lcmp, 1) := by decide +kernel
theorem dX6_found_95 : decode cX6_found 95 = .ok (.ifCond .lt 24, 3) := by decide +kernel
theorem dX6_found_98 : decode cX6_found 98 = .ok (.aload_n 0, 1) := by decide +kernel
theorem dX6_found_99 : decode cX6_found 99 = .ok (.getfield 16, 3) := by decide +kernel
theorem dX6_found_102 : decode cX6_found 102 = .ok (.bipush 40, 2) := by decide +kernel
theorem dX6_found_104 : decode cX6_found 104 = .ok (.iload_n 1, 1) := by decide +kernel
theorem dX6_found_105 : decode cX6_found 105 = .ok (.imul, 1) := by decide +kernel
theorem dX6_found_106 : decode cX6_found 106 = .ok (.iload 4, 2) := by decide +kernel
theorem dX6_found_108 : decode cX6_found 108 = .ok (.iadd, 1) := by decide +kernel
theorem dX6_found_109 : decode cX6_found 109 = .ok (.laload, 1) := by decide +kernel
theorem dX6_found_110 : decode cX6_found 110 = .ok (.aload_n 0, 1) := by decide +kernel
theorem dX6_found_111 : decode cX6_found 111 = .ok (.getfield 63, 3) := by decide +kernel
theorem dX6_found_114 : decode cX6_found 114 = .ok (.i2l, 1) := by decide +kernel
theorem dX6_found_115 : decode cX6_found 115 = .ok (.lcmp, 1) := by decide +kernel
theorem dX6_found_116 : decode cX6_found 116 = .ok (.ifCond .le 10, 3) := by decide +kernel
theorem dX6_found_119 : decode cX6_found 119 = .ok (.aload_n 0, 1) := by decide +kernel
theorem dX6_found_120 : decode cX6_found 120 = .ok (.bipush (-2), 2) := by decide +kernel
theorem dX6_found_122 : decode cX6_found 122 = .ok (.invokevirtual 82, 3) := by decide +kernel
theorem dX6_found_125 : decode cX6_found 125 = .ok (.ireturn, 1) := by decide +kernel
theorem dX6_found_126 : decode cX6_found 126 = .ok (.iinc 4 1, 3) := by decide +kernel
theorem dX6_found_129 : decode cX6_found 129 = .ok (.goto (-57), 3) := by decide +kernel
theorem dX6_found_132 : decode cX6_found 132 = .ok (.iconst 0, 1) := by decide +kernel
theorem dX6_found_133 : decode cX6_found 133 = .ok (.istore 4, 2) := by decide +kernel
theorem dX6_found_135 : decode cX6_found 135 = .ok (.iconst 0, 1) := by decide +kernel
theorem dX6_found_136 : decode cX6_found 136 = .ok (.istore 5, 2) := by decide +kernel
theorem dX6_found_138 : decode cX6_found 138 = .ok (.iload 5, 2) := by decide +kernel
theorem dX6_found_140 : decode cX6_found 140 = .ok (.aload_n 0, 1) := by decide +kernel
theorem dX6_found_141 : decode cX6_found 141 = .ok (.getfield 72, 3) := by decide +kernel
theorem dX6_found_144 : decode cX6_found 144 = .ok (.if_icmp .ge 212, 3) := by decide +kernel
theorem dX6_found_147 : decode cX6_found 147 = .ok (.iconst 1, 1) := by decide +kernel
theorem dX6_found_148 : decode cX6_found 148 = .ok (.istore 6, 2) := by decide +kernel
theorem dX6_found_150 : decode cX6_found 150 = .ok (.iconst 0, 1) := by decide +kernel
theorem dX6_found_151 : decode cX6_found 151 = .ok (.istore 7, 2) := by decide +kernel
theorem dX6_found_153 : decode cX6_found 153 = .ok (.iload 7, 2) := by decide +kernel
theorem dX6_found_155 : decode cX6_found 155 = .ok (.aload_n 0, 1) := by decide +kernel
theorem dX6_found_156 : decode cX6_found 156 = .ok (.getfield 59, 3) := by decide +kernel
theorem dX6_found_159 : decode cX6_found 159 = .ok (.if_icmp .ge 81, 3) := by decide +kernel
theorem dX6_found_162 : decode cX6_found 162 = .ok (.aload_n 0, 1) := by decide +kernel
theorem dX6_found_163 : decode cX6_found 163 = .ok (.getfield 50, 3) := by decide +kernel
theorem dX6_found_166 : decode cX6_found 166 = .ok (.iload 7, 2) := by decide +kernel
theorem dX6_found_168 : decode cX6_found 168 = .ok (.aload_n 0, 1) := by decide +kernel
theorem dX6_found_169 : decode cX6_found 169 = .ok (.getfield 29, 3) := by decide +kernel
theorem dX6_found_172 : decode cX6_found 172 = .ok (.iconst 5, 1) := by decide +kernel
theorem dX6_found_173 : decode cX6_found 173 = .ok (.iload 5, 2) := by decide +kernel
theorem dX6_found_175 : decode cX6_found 175 = .ok (.imul, 1) := by decide +kernel
theorem dX6_found_176 : decode cX6_found 176 = .ok (.iload 7, 2) := by decide +kernel
theorem dX6_found_178 : decode cX6_found 178 = .ok (.iadd, 1) := by decide +kernel
theorem dX6_found_179 : decode cX6_found 179 = .ok (.iaload, 1) := by decide +kernel
theorem dX6_found_180 : decode cX6_found 180 = .ok (.iastore, 1) := by decide +kernel
theorem dX6_found_181 : decode cX6_found 181 = .ok (.aload_n 0, 1) := by decide +kernel
theorem dX6_found_182 : decode cX6_found 182 = .ok (.getfield 16, 3) := by decide +kernel
theorem dX6_found_185 : decode cX6_found 185 = .ok (.bipush 40, 2) := by decide +kernel
theorem dX6_found_187 : decode cX6_found 187 = .ok (.iload_n 1, 1) := by decide +kernel
theorem dX6_found_188 : decode cX6_found 188 = .ok (.imul, 1) := by decide +kernel
theorem dX6_found_189 : decode cX6_found 189 = .ok (.iload 7, 2) := by decide +kernel
theorem dX6_found_191 : decode cX6_found 191 = .ok (.iadd, 1) := by decide +kernel
theorem dX6_found_192 : decode cX6_found 192 = .ok (.laload, 1) := by decide +kernel
theorem dX6_found_193 : decode cX6_found 193 = .ok (.l2i, 1) := by decide +kernel
theorem dX6_found_194 : decode cX6_found 194 = .ok (.istore 8, 2) := by decide +kernel
theorem dX6_found_196 : decode cX6_found 196 = .ok (.aload_n 0, 1) := by decide +kernel
theorem dX6_found_197 : decode cX6_found 197 = .ok (.getfield 50, 3) := by decide +kernel
theorem dX6_found_200 : decode cX6_found 200 = .ok (.iload 7, 2) := by decide +kernel
theorem dX6_found_202 : decode cX6_found 202 = .ok (.iaload, 1) := by decide +kernel
theorem dX6_found_203 : decode cX6_found 203 = .ok (.iload 8, 2) := by decide +kernel
theorem dX6_found_205 : decode cX6_found 205 = .ok (.if_icmp .gt 26, 3) := by decide +kernel
theorem dX6_found_208 : decode cX6_found 208 = .ok (.aload_n 0, 1) := by decide +kernel
theorem dX6_found_209 : decode cX6_found 209 = .ok (.getfield 50, 3) := by decide +kernel
theorem dX6_found_212 : decode cX6_found 212 = .ok (.iload 7, 2) := by decide +kernel
theorem dX6_found_214 : decode cX6_found 214 = .ok (.iaload, 1) := by decide +kernel
theorem dX6_found_215 : decode cX6_found 215 = .ok (.iload 8, 2) := by decide +kernel
theorem dX6_found_217 : decode cX6_found 217 = .ok (.if_icmp .ge 17, 3) := by decide +kernel
theorem dX6_found_220 : decode cX6_found 220 = .ok (.aload_n 0, 1) := by decide +kernel
theorem dX6_found_221 : decode cX6_found 221 = .ok (.getfield 20, 3) := by decide +kernel
theorem dX6_found_224 : decode cX6_found 224 = .ok (.iload 5, 2) := by decide +kernel
theorem dX6_found_226 : decode cX6_found 226 = .ok (.iaload, 1) := by decide +kernel
theorem dX6_found_227 : decode cX6_found 227 = .ok (.iconst 4, 1) := by decide +kernel
theorem dX6_found_228 : decode cX6_found 228 = .ok (.if_icmp .ne 6, 3) := by decide +kernel
theorem dX6_found_231 : decode cX6_found 231 = .ok (.iconst 0, 1) := by decide +kernel
theorem dX6_found_232 : decode cX6_found 232 = .ok (.istore 6, 2) := by decide +kernel
theorem dX6_found_234 : decode cX6_found 234 = .ok (.iinc 7 1, 3) := by decide +kernel
theorem dX6_found_237 : decode cX6_found 237 = .ok (.goto (-84), 3) := by decide +kernel
theorem dX6_found_240 : decode cX6_found 240 = .ok (.iload 6, 2) := by decide +kernel
theorem dX6_found_242 : decode cX6_found 242 = .ok (.ifCond .ne 6, 3) := by decide +kernel
theorem dX6_found_245 : decode cX6_found 245 = .ok (.goto 105, 3) := by decide +kernel
theorem dX6_found_248 : decode cX6_found 248 = .ok (.iconst 0, 1) := by decide +kernel
theorem dX6_found_249 : decode cX6_found 249 = .ok (.istore 7, 2) := by decide +kernel
theorem dX6_found_251 : decode cX6_found 251 = .ok (.iload 7, 2) := by decide +kernel
theorem dX6_found_253 : decode cX6_found 253 = .ok (.aload_n 0, 1) := by decide +kernel
theorem dX6_found_254 : decode cX6_found 254 = .ok (.getfield 59, 3) := by decide +kernel
theorem dX6_found_257 : decode cX6_found 257 = .ok (.if_icmp .ge 34, 3) := by decide +kernel
theorem dX6_found_260 : decode cX6_found 260 = .ok (.aload_n 0, 1) := by decide +kernel
theorem dX6_found_261 : decode cX6_found 261 = .ok (.getfield 29, 3) := by decide +kernel
theorem dX6_found_264 : decode cX6_found 264 = .ok (.iconst 5, 1) := by decide +kernel
theorem dX6_found_265 : decode cX6_found 265 = .ok (.iload 5, 2) := by decide +kernel
theorem dX6_found_267 : decode cX6_found 267 = .ok (.imul, 1) := by decide +kernel
theorem dX6_found_268 : decode cX6_found 268 = .ok (.iload 7, 2) := by decide +kernel
theorem dX6_found_270 : decode cX6_found 270 = .ok (.iadd, 1) := by decide +kernel
theorem dX6_found_271 : decode cX6_found 271 = .ok (.aload_n 0, 1) := by decide +kernel
theorem dX6_found_272 : decode cX6_found 272 = .ok (.getfield 16, 3) := by decide +kernel
theorem dX6_found_275 : decode cX6_found 275 = .ok (.bipush 40, 2) := by decide +kernel
theorem dX6_found_277 : decode cX6_found 277 = .ok (.iload_n 1, 1) := by decide +kernel
theorem dX6_found_278 : decode cX6_found 278 = .ok (.imul, 1) := by decide +kernel
theorem dX6_found_279 : decode cX6_found 279 = .ok (.iload 7, 2) := by decide +kernel
theorem dX6_found_281 : decode cX6_found 281 = .ok (.iadd, 1) := by decide +kernel
theorem dX6_found_282 : decode cX6_found 282 = .ok (.laload, 1) := by decide +kernel
theorem dX6_found_283 : decode cX6_found 283 = .ok (.l2i, 1) := by decide +kernel
theorem dX6_found_284 : decode cX6_found 284 = .ok (.iastore, 1) := by decide +kernel
theorem dX6_found_285 : decode cX6_found 285 = .ok (.iinc 7 1, 3) := by decide +kernel
theorem dX6_found_288 : decode cX6_found 288 = .ok (.goto (-37), 3) := by decide +kernel
theorem dX6_found_291 : decode cX6_found 291 = .ok (.iload_n 2, 1) := by decide +kernel
theorem dX6_found_292 : decode cX6_found 292 = .ok (.aload_n 0, 1) := by decide +kernel
theorem dX6_found_293 : decode cX6_found 293 = .ok (.iload 5, 2) := by decide +kernel
theorem dX6_found_295 : decode cX6_found 295 = .ok (.invokevirtual 106, 3) := by decide +kernel
theorem dX6_found_298 : decode cX6_found 298 = .ok (.iconst (-1), 1) := by decide +kernel
theorem dX6_found_299 : decode cX6_found 299 = .ok (.ixor, 1) := by decide +kernel
theorem dX6_found_300 : decode cX6_found 300 = .ok (.iand, 1) := by decide +kernel
theorem dX6_found_301 : decode cX6_found 301 = .ok (.ifCond .ne 12, 3) := by decide +kernel
theorem dX6_found_304 : decode cX6_found 304 = .ok (.iload 4, 2) := by decide +kernel
theorem dX6_found_306 : decode cX6_found 306 = .ok (.iconst 1, 1) := by decide +kernel
theorem dX6_found_307 : decode cX6_found 307 = .ok (.iload 5, 2) := by decide +kernel
theorem dX6_found_309 : decode cX6_found 309 = .ok (.ishl, 1) := by decide +kernel
theorem dX6_found_310 : decode cX6_found 310 = .ok (.ior, 1) := by decide +kernel
theorem dX6_found_311 : decode cX6_found 311 = .ok (.istore 4, 2) := by decide +kernel
theorem dX6_found_313 : decode cX6_found 313 = .ok (.iconst 0, 1) := by decide +kernel
theorem dX6_found_314 : decode cX6_found 314 = .ok (.istore 7, 2) := by decide +kernel
theorem dX6_found_316 : decode cX6_found 316 = .ok (.iload 7, 2) := by decide +kernel
theorem dX6_found_318 : decode cX6_found 318 = .ok (.aload_n 0, 1) := by decide +kernel
theorem dX6_found_319 : decode cX6_found 319 = .ok (.getfield 59, 3) := by decide +kernel
theorem dX6_found_322 : decode cX6_found 322 = .ok (.if_icmp .ge 28, 3) := by decide +kernel
theorem dX6_found_325 : decode cX6_found 325 = .ok (.aload_n 0, 1) := by decide +kernel
theorem dX6_found_326 : decode cX6_found 326 = .ok (.getfield 29, 3) := by decide +kernel
theorem dX6_found_329 : decode cX6_found 329 = .ok (.iconst 5, 1) := by decide +kernel
theorem dX6_found_330 : decode cX6_found 330 = .ok (.iload 5, 2) := by decide +kernel
theorem dX6_found_332 : decode cX6_found 332 = .ok (.imul, 1) := by decide +kernel
theorem dX6_found_333 : decode cX6_found 333 = .ok (.iload 7, 2) := by decide +kernel
theorem dX6_found_335 : decode cX6_found 335 = .ok (.iadd, 1) := by decide +kernel
theorem dX6_found_336 : decode cX6_found 336 = .ok (.aload_n 0, 1) := by decide +kernel
theorem dX6_found_337 : decode cX6_found 337 = .ok (.getfield 50, 3) := by decide +kernel
theorem dX6_found_340 : decode cX6_found 340 = .ok (.iload 7, 2) := by decide +kernel
theorem dX6_found_342 : decode cX6_found 342 = .ok (.iaload, 1) := by decide +kernel
theorem dX6_found_343 : decode cX6_found 343 = .ok (.iastore, 1) := by decide +kernel
theorem dX6_found_344 : decode cX6_found 344 = .ok (.iinc 7 1, 3) := by decide +kernel
theorem dX6_found_347 : decode cX6_found 347 = .ok (.goto (-31), 3) := by decide +kernel
theorem dX6_found_350 : decode cX6_found 350 = .ok (.iinc 5 1, 3) := by decide +kernel
theorem dX6_found_353 : decode cX6_found 353 = .ok (.goto (-215), 3) := by decide +kernel
theorem dX6_found_356 : decode cX6_found 356 = .ok (.iload 4, 2) := by decide +kernel
theorem dX6_found_358 : decode cX6_found 358 = .ok (.ireturn, 1) := by decide +kernel
theorem dX6_draw_0 : decode cX6_draw 0 = .ok (.aload_n 0, 1) := by decide +kernel
theorem dX6_draw_1 : decode cX6_draw 1 = .ok (.aload_n 0, 1) := by decide +kernel
theorem dX6_draw_2 : decode cX6_draw 2 = .ok (.getfield 69, 3) := by decide +kernel
theorem dX6_draw_5 : decode cX6_draw 5 = .ok (.ldc_w 260, 3) := by decide +kernel
theorem dX6_draw_8 : decode cX6_draw 8 = .ok (.imul, 1) := by decide +kernel
theorem dX6_draw_9 : decode cX6_draw 9 = .ok (.sipush 12345, 3) := by decide +kernel
theorem dX6_draw_12 : decode cX6_draw 12 = .ok (.iadd, 1) := by decide +kernel
theorem dX6_draw_13 : decode cX6_draw 13 = .ok (.putfield 69, 3) := by decide +kernel
theorem dX6_draw_16 : decode cX6_draw 16 = .ok (.aload_n 0, 1) := by decide +kernel
theorem dX6_draw_17 : decode cX6_draw 17 = .ok (.getfield 69, 3) := by decide +kernel
theorem dX6_draw_20 : decode cX6_draw 20 = .ok (.bipush 16, 2) := by decide +kernel
theorem dX6_draw_22 : decode cX6_draw 22 = .ok (.iushr, 1) := by decide +kernel
theorem dX6_draw_23 : decode cX6_draw 23 = .ok (.iload_n 1, 1) := by decide +kernel
theorem dX6_draw_24 : decode cX6_draw 24 = .ok (.irem, 1) := by decide +kernel
theorem dX6_draw_25 : decode cX6_draw 25 = .ok (.ireturn, 1) := by decide +kernel
theorem dX6_wears_0 : decode cX6_wears 0 = .ok (.aload_n 0, 1) := by decide +kernel
theorem dX6_wears_1 : decode cX6_wears 1 = .ok (.iconst 4, 1) := by decide +kernel
theorem dX6_wears_2 : decode cX6_wears 2 = .ok (.invokevirtual 261, 3) := by decide +kernel
theorem dX6_wears_5 : decode cX6_wears 5 = .ok (.ifCond .eq 5, 3) := by decide +kernel
theorem dX6_wears_8 : decode cX6_wears 8 = .ok (.iconst 0, 1) := by decide +kernel
theorem dX6_wears_9 : decode cX6_wears 9 = .ok (.ireturn, 1) := by decide +kernel
theorem dX6_wears_10 : decode cX6_wears 10 = .ok (.aload_n 0, 1) := by decide +kernel
theorem dX6_wears_11 : decode cX6_wears 11 = .ok (.aload_n 0, 1) := by decide +kernel
theorem dX6_wears_12 : decode cX6_wears 12 = .ok (.getfield 59, 3) := by decide +kernel
theorem dX6_wears_15 : decode cX6_wears 15 = .ok (.invokevirtual 261, 3) := by decide +kernel
theorem dX6_wears_18 : decode cX6_wears 18 = .ok (.istore_n 2, 1) := by decide +kernel
theorem dX6_wears_19 : decode cX6_wears 19 = .ok (.aload_n 0, 1) := by decide +kernel
theorem dX6_wears_20 : decode cX6_wears 20 = .ok (.getfield 29, 3) := by decide +kernel
theorem dX6_wears_23 : decode cX6_wears 23 = .ok (.iconst 5, 1) := by decide +kernel
theorem dX6_wears_24 : decode cX6_wears 24 = .ok (.iload_n 1, 1) := by decide +kernel
theorem dX6_wears_25 : decode cX6_wears 25 = .ok (.imul, 1) := by decide +kernel
theorem dX6_wears_26 : decode cX6_wears 26 = .ok (.iload_n 2, 1) := by decide +kernel
theorem dX6_wears_27 : decode cX6_wears 27 = .ok (.iadd, 1) := by decide +kernel
theorem dX6_wears_28 : decode cX6_wears 28 = .ok (.iaload, 1) := by decide +kernel
theorem dX6_wears_29 : decode cX6_wears 29 = .ok (.aload_n 0, 1) := by decide +kernel
theorem dX6_wears_30 : decode cX6_wears 30 = .ok (.getfield 63, 3) := by decide +kernel
theorem dX6_wears_33 : decode cX6_wears 33 = .ok (.if_icmp .ne 5, 3) := by decide +kernel
theorem dX6_wears_36 : decode cX6_wears 36 = .ok (.iconst 0, 1) := by decide +kernel
theorem dX6_wears_37 : decode cX6_wears 37 = .ok (.ireturn, 1) := by decide +kernel
theorem dX6_wears_38 : decode cX6_wears 38 = .ok (.aload_n 0, 1) := by decide +kernel
theorem dX6_wears_39 : decode cX6_wears 39 = .ok (.getfield 29, 3) := by decide +kernel
theorem dX6_wears_42 : decode cX6_wears 42 = .ok (.iconst 5, 1) := by decide +kernel
theorem dX6_wears_43 : decode cX6_wears 43 = .ok (.iload_n 1, 1) := by decide +kernel
theorem dX6_wears_44 : decode cX6_wears 44 = .ok (.imul, 1) := by decide +kernel
theorem dX6_wears_45 : decode cX6_wears 45 = .ok (.iload_n 2, 1) := by decide +kernel
theorem dX6_wears_46 : decode cX6_wears 46 = .ok (.iadd, 1) := by decide +kernel
theorem dX6_wears_47 : decode cX6_wears 47 = .ok (.dup2, 1) := by decide +kernel
theorem dX6_wears_48 : decode cX6_wears 48 = .ok (.iaload, 1) := by decide +kernel
theorem dX6_wears_49 : decode cX6_wears 49 = .ok (.iconst 1, 1) := by decide +kernel
theorem dX6_wears_50 : decode cX6_wears 50 = .ok (.iadd, 1) := by decide +kernel
theorem dX6_wears_51 : decode cX6_wears 51 = .ok (.iastore, 1) := by decide +kernel
theorem dX6_wears_52 : decode cX6_wears 52 = .ok (.iconst 1, 1) := by decide +kernel
theorem dX6_wears_53 : decode cX6_wears 53 = .ok (.ireturn, 1) := by decide +kernel
theorem dX6_use_0 : decode cX6_use 0 = .ok (.aload_n 0, 1) := by decide +kernel
theorem dX6_use_1 : decode cX6_use 1 = .ok (.iload_n 1, 1) := by decide +kernel
theorem dX6_use_2 : decode cX6_use 2 = .ok (.invokevirtual 93, 3) := by decide +kernel
theorem dX6_use_5 : decode cX6_use 5 = .ok (.ifCond .eq 11, 3) := by decide +kernel
theorem dX6_use_8 : decode cX6_use 8 = .ok (.aload_n 0, 1) := by decide +kernel
theorem dX6_use_9 : decode cX6_use 9 = .ok (.iload_n 2, 1) := by decide +kernel
theorem dX6_use_10 : decode cX6_use 10 = .ok (.invokevirtual 120, 3) := by decide +kernel
theorem dX6_use_13 : decode cX6_use 13 = .ok (.ifCond .ne 10, 3) := by decide +kernel
theorem dX6_use_16 : decode cX6_use 16 = .ok (.aload_n 0, 1) := by decide +kernel
theorem dX6_use_17 : decode cX6_use 17 = .ok (.bipush (-2), 2) := by decide +kernel
theorem dX6_use_19 : decode cX6_use 19 = .ok (.invokevirtual 82, 3) := by decide +kernel
theorem dX6_use_22 : decode cX6_use 22 = .ok (.ireturn, 1) := by decide +kernel
theorem dX6_use_23 : decode cX6_use 23 = .ok (.aload_n 0, 1) := by decide +kernel
theorem dX6_use_24 : decode cX6_use 24 = .ok (.iload_n 1, 1) := by decide +kernel
theorem dX6_use_25 : decode cX6_use 25 = .ok (.iload_n 2, 1) := by decide +kernel
theorem dX6_use_26 : decode cX6_use 26 = .ok (.invokevirtual 103, 3) := by decide +kernel
theorem dX6_use_29 : decode cX6_use 29 = .ok (.ifCond .eq 11, 3) := by decide +kernel
theorem dX6_use_32 : decode cX6_use 32 = .ok (.aload_n 0, 1) := by decide +kernel
theorem dX6_use_33 : decode cX6_use 33 = .ok (.iload_n 1, 1) := by decide +kernel
theorem dX6_use_34 : decode cX6_use 34 = .ok (.invokevirtual 264, 3) := by decide +kernel
theorem dX6_use_37 : decode cX6_use 37 = .ok (.goto 9, 3) := by decide +kernel
theorem dX6_use_40 : decode cX6_use 40 = .ok (.aload_n 0, 1) := by decide +kernel
theorem dX6_use_41 : decode cX6_use 41 = .ok (.bipush (-5), 2) := by decide +kernel
theorem dX6_use_43 : decode cX6_use 43 = .ok (.invokevirtual 82, 3) := by decide +kernel
theorem dX6_use_46 : decode cX6_use 46 = .ok (.ireturn, 1) := by decide +kernel
theorem dX6_days_0 : decode cX6_days 0 = .ok (.iload_n 1, 1) := by decide +kernel
theorem dX6_days_1 : decode cX6_days 1 = .ok (.iconst 1, 1) := by decide +kernel
theorem dX6_days_2 : decode cX6_days 2 = .ok (.bipush 40, 2) := by decide +kernel
theorem dX6_days_4 : decode cX6_days 4 = .ok (.invokestatic 75, 3) := by decide +kernel
theorem dX6_days_7 : decode cX6_days 7 = .ok (.ifCond .ne 10, 3) := by decide +kernel
theorem dX6_days_10 : decode cX6_days 10 = .ok (.aload_n 0, 1) := by decide +kernel
theorem dX6_days_11 : decode cX6_days 11 = .ok (.bipush (-2), 2) := by decide +kernel
theorem dX6_days_13 : decode cX6_days 13 = .ok (.invokevirtual 82, 3) := by decide +kernel
theorem dX6_days_16 : decode cX6_days 16 = .ok (.ireturn, 1) := by decide +kernel
theorem dX6_days_17 : decode cX6_days 17 = .ok (.aload_n 0, 1) := by decide +kernel
theorem dX6_days_18 : decode cX6_days 18 = .ok (.getfield 72, 3) := by decide +kernel
theorem dX6_days_21 : decode cX6_days 21 = .ok (.ifCond .eq 10, 3) := by decide +kernel
theorem dX6_days_24 : decode cX6_days 24 = .ok (.aload_n 0, 1) := by decide +kernel
theorem dX6_days_25 : decode cX6_days 25 = .ok (.getfield 79, 3) := by decide +kernel
theorem dX6_days_28 : decode cX6_days 28 = .ok (.ifCond .ne 10, 3) := by decide +kernel
theorem dX6_days_31 : decode cX6_days 31 = .ok (.aload_n 0, 1) := by decide +kernel
theorem dX6_days_32 : decode cX6_days 32 = .ok (.bipush (-5), 2) := by decide +kernel
theorem dX6_days_34 : decode cX6_days 34 = .ok (.invokevirtual 82, 3) := by decide +kernel
theorem dX6_days_37 : decode cX6_days 37 = .ok (.ireturn, 1) := by decide +kernel
theorem dX6_days_38 : decode cX6_days 38 = .ok (.iconst 0, 1) := by decide +kernel
theorem dX6_days_39 : decode cX6_days 39 = .ok (.istore_n 2, 1) := by decide +kernel
theorem dX6_days_40 : decode cX6_days 40 = .ok (.iconst 0, 1) := by decide +kernel
theorem dX6_days_41 : decode cX6_days 41 = .ok (.istore_n 3, 1) := by decide +kernel
theorem dX6_days_42 : decode cX6_days 42 = .ok (.iload_n 3, 1) := by decide +kernel
theorem dX6_days_43 : decode cX6_days 43 = .ok (.iload_n 1, 1) := by decide +kernel
theorem dX6_days_44 : decode cX6_days 44 = .ok (.if_icmp .ge 53, 3) := by decide +kernel
theorem dX6_days_47 : decode cX6_days 47 = .ok (.aload_n 0, 1) := by decide +kernel
theorem dX6_days_48 : decode cX6_days 48 = .ok (.aload_n 0, 1) := by decide +kernel
theorem dX6_days_49 : decode cX6_days 49 = .ok (.getfield 72, 3) := by decide +kernel
theorem dX6_days_52 : decode cX6_days 52 = .ok (.invokevirtual 261, 3) := by decide +kernel
theorem dX6_days_55 : decode cX6_days 55 = .ok (.istore 4, 2) := by decide +kernel
theorem dX6_days_57 : decode cX6_days 57 = .ok (.aload_n 0, 1) := by decide +kernel
theorem dX6_days_58 : decode cX6_days 58 = .ok (.aload_n 0, 1) := by decide +kernel
theorem dX6_days_59 : decode cX6_days 59 = .ok (.getfield 79, 3) := by decide +kernel
theorem dX6_days_62 : decode cX6_days 62 = .ok (.invokevirtual 261, 3) := by decide +kernel
theorem dX6_days_65 : decode cX6_days 65 = .ok (.istore 5, 2) := by decide +kernel
theorem dX6_days_67 : decode cX6_days 67 = .ok (.aload_n 0, 1) := by decide +kernel
theorem dX6_days_68 : decode cX6_days 68 = .ok (.iload 4, 2) := by decide +kernel
theorem dX6_days_70 : decode cX6_days 70 = .ok (.iload 5, 2) := by decide +kernel
theorem dX6_days_72 : decode cX6_days 72 = .ok (.invokevirtual 103, 3) := by decide +kernel
theorem dX6_days_75 : decode cX6_days 75 = .ok (.ifCond .ne 6, 3) := by decide +kernel
theorem dX6_days_78 : decode cX6_days 78 = .ok (.goto 13, 3) := by decide +kernel
theorem dX6_days_81 : decode cX6_days 81 = .ok (.iinc 2 1, 3) := by decide +kernel
theorem dX6_days_84 : decode cX6_days 84 = .ok (.aload_n 0, 1) := by decide +kernel
theorem dX6_days_85 : decode cX6_days 85 = .ok (.iload 4, 2) := by decide +kernel
theorem dX6_days_87 : decode cX6_days 87 = .ok (.invokevirtual 264, 3) := by decide +kernel
theorem dX6_days_90 : decode cX6_days 90 = .ok (.pop, 1) := by decide +kernel
theorem dX6_days_91 : decode cX6_days 91 = .ok (.iinc 3 1, 3) := by decide +kernel
theorem dX6_days_94 : decode cX6_days 94 = .ok (.goto (-52), 3) := by decide +kernel
theorem dX6_days_97 : decode cX6_days 97 = .ok (.iload_n 2, 1) := by decide +kernel
theorem dX6_days_98 : decode cX6_days 98 = .ok (.ireturn, 1) := by decide +kernel
theorem dX6_renew_0 : decode cX6_renew 0 = .ok (.aload_n 0, 1) := by decide +kernel
theorem dX6_renew_1 : decode cX6_renew 1 = .ok (.iload_n 1, 1) := by decide +kernel
theorem dX6_renew_2 : decode cX6_renew 2 = .ok (.invokevirtual 93, 3) := by decide +kernel
theorem dX6_renew_5 : decode cX6_renew 5 = .ok (.ifCond .ne 10, 3) := by decide +kernel
theorem dX6_renew_8 : decode cX6_renew 8 = .ok (.aload_n 0, 1) := by decide +kernel
theorem dX6_renew_9 : decode cX6_renew 9 = .ok (.bipush (-2), 2) := by decide +kernel
theorem dX6_renew_11 : decode cX6_renew 11 = .ok (.invokevirtual 82, 3) := by decide +kernel
theorem dX6_renew_14 : decode cX6_renew 14 = .ok (.ireturn, 1) := by decide +kernel
theorem dX6_renew_15 : decode cX6_renew 15 = .ok (.aload_n 0, 1) := by decide +kernel
theorem dX6_renew_16 : decode cX6_renew 16 = .ok (.iload_n 1, 1) := by decide +kernel
theorem dX6_renew_17 : decode cX6_renew 17 = .ok (.invokevirtual 210, 3) := by decide +kernel
theorem dX6_renew_20 : decode cX6_renew 20 = .ok (.ifCond .ne 10, 3) := by decide +kernel
theorem dX6_renew_23 : decode cX6_renew 23 = .ok (.aload_n 0, 1) := by decide +kernel
theorem dX6_renew_24 : decode cX6_renew 24 = .ok (.bipush (-5), 2) := by decide +kernel
theorem dX6_renew_26 : decode cX6_renew 26 = .ok (.invokevirtual 82, 3) := by decide +kernel
theorem dX6_renew_29 : decode cX6_renew 29 = .ok (.ireturn, 1) := by decide +kernel
theorem dX6_renew_30 : decode cX6_renew 30 = .ok (.aload_n 0, 1) := by decide +kernel
theorem dX6_renew_31 : decode cX6_renew 31 = .ok (.getfield 20, 3) := by decide +kernel
theorem dX6_renew_34 : decode cX6_renew 34 = .ok (.iload_n 1, 1) := by decide +kernel
theorem dX6_renew_35 : decode cX6_renew 35 = .ok (.iaload, 1) := by decide +kernel
theorem dX6_renew_36 : decode cX6_renew 36 = .ok (.istore_n 2, 1) := by decide +kernel
theorem dX6_renew_37 : decode cX6_renew 37 = .ok (.aload_n 0, 1) := by decide +kernel
theorem dX6_renew_38 : decode cX6_renew 38 = .ok (.getfield 20, 3) := by decide +kernel
theorem dX6_renew_41 : decode cX6_renew 41 = .ok (.iload_n 1, 1) := by decide +kernel
theorem dX6_renew_42 : decode cX6_renew 42 = .ok (.iconst 0, 1) := by decide +kernel
theorem dX6_renew_43 : decode cX6_renew 43 = .ok (.iastore, 1) := by decide +kernel
theorem dX6_renew_44 : decode cX6_renew 44 = .ok (.iconst 0, 1) := by decide +kernel
theorem dX6_renew_45 : decode cX6_renew 45 = .ok (.istore_n 3, 1) := by decide +kernel
theorem dX6_renew_46 : decode cX6_renew 46 = .ok (.iload_n 3, 1) := by decide +kernel
theorem dX6_renew_47 : decode cX6_renew 47 = .ok (.iconst 5, 1) := by decide +kernel
theorem dX6_renew_48 : decode cX6_renew 48 = .ok (.if_icmp .ge 20, 3) := by decide +kernel
theorem dX6_renew_51 : decode cX6_renew 51 = .ok (.aload_n 0, 1) := by decide +kernel
theorem dX6_renew_52 : decode cX6_renew 52 = .ok (.getfield 29, 3) := by decide +kernel
theorem dX6_renew_55 : decode cX6_renew 55 = .ok (.iconst 5, 1) := by decide +kernel
theorem dX6_renew_56 : decode cX6_renew 56 = .ok (.iload_n 1, 1) := by decide +kernel
theorem dX6_renew_57 : decode cX6_renew 57 = .ok (.imul, 1) := by decide +kernel
theorem dX6_renew_58 : decode cX6_renew 58 = .ok (.iload_n 3, 1) := by decide +kernel
theorem dX6_renew_59 : decode cX6_renew 59 = .ok (.iadd, 1) := by decide +kernel
theorem dX6_renew_60 : decode cX6_renew 60 = .ok (.iconst 0, 1) := by decide +kernel
theorem dX6_renew_61 : decode cX6_renew 61 = .ok (.iastore, 1) := by decide +kernel
theorem dX6_renew_62 : decode cX6_renew 62 = .ok (.iinc 3 1, 3) := by decide +kernel
theorem dX6_renew_65 : decode cX6_renew 65 = .ok (.goto (-19), 3) := by decide +kernel
theorem dX6_renew_68 : decode cX6_renew 68 = .ok (.iload_n 2, 1) := by decide +kernel
theorem dX6_renew_69 : decode cX6_renew 69 = .ok (.ireturn, 1) := by decide +kernel
theorem dX6_seed_0 : decode cX6_seed 0 = .ok (.aload_n 0, 1) := by decide +kernel
theorem dX6_seed_1 : decode cX6_seed 1 = .ok (.getfield 69, 3) := by decide +kernel
theorem dX6_seed_4 : decode cX6_seed 4 = .ok (.istore_n 2, 1) := by decide +kernel
theorem dX6_seed_5 : decode cX6_seed 5 = .ok (.aload_n 0, 1) := by decide +kernel
theorem dX6_seed_6 : decode cX6_seed 6 = .ok (.iload_n 1, 1) := by decide +kernel
theorem dX6_seed_7 : decode cX6_seed 7 = .ok (.putfield 69, 3) := by decide +kernel
theorem dX6_seed_10 : decode cX6_seed 10 = .ok (.iload_n 2, 1) := by decide +kernel
theorem dX6_seed_11 : decode cX6_seed 11 = .ok (.ireturn, 1) := by decide +kernel
theorem dX6_keep_0 : decode cX6_keep 0 = .ok (.iconst 0, 1) := by decide +kernel
theorem dX6_keep_1 : decode cX6_keep 1 = .ok (.istore_n 2, 1) := by decide +kernel
theorem dX6_keep_2 : decode cX6_keep 2 = .ok (.iload_n 2, 1) := by decide +kernel
theorem dX6_keep_3 : decode cX6_keep 3 = .ok (.bipush 6, 2) := by decide +kernel
theorem dX6_keep_5 : decode cX6_keep 5 = .ok (.if_icmp .ge 42, 3) := by decide +kernel
theorem dX6_keep_8 : decode cX6_keep 8 = .ok (.aload_n 1, 1) := by decide +kernel
theorem dX6_keep_9 : decode cX6_keep 9 = .ok (.iload_n 2, 1) := by decide +kernel
theorem dX6_keep_10 : decode cX6_keep 10 = .ok (.aload_n 0, 1) := by decide +kernel
theorem dX6_keep_11 : decode cX6_keep 11 = .ok (.getfield 20, 3) := by decide +kernel
theorem dX6_keep_14 : decode cX6_keep 14 = .ok (.iload_n 2, 1) := by decide +kernel
theorem dX6_keep_15 : decode cX6_keep 15 = .ok (.iaload, 1) := by decide +kernel
theorem dX6_keep_16 : decode cX6_keep 16 = .ok (.iastore, 1) := by decide +kernel
theorem dX6_keep_17 : decode cX6_keep 17 = .ok (.aload_n 1, 1) := by decide +kernel
theorem dX6_keep_18 : decode cX6_keep 18 = .ok (.bipush 6, 2) := by decide +kernel
theorem dX6_keep_20 : decode cX6_keep 20 = .ok (.iload_n 2, 1) := by decide +kernel
theorem dX6_keep_21 : decode cX6_keep 21 = .ok (.iadd, 1) := by decide +kernel
theorem dX6_keep_22 : decode cX6_keep 22 = .ok (.aload_n 0, 1) := by decide +kernel
theorem dX6_keep_23 : decode cX6_keep 23 = .ok (.getfield 23, 3) := by decide +kernel
theorem dX6_keep_26 : decode cX6_keep 26 = .ok (.iload_n 2, 1) := by decide +kernel
theorem dX6_keep_27 : decode cX6_keep 27 = .ok (.iaload, 1) := by decide +kernel
theorem dX6_keep_28 : decode cX6_keep 28 = .ok (.iastore, 1) := by decide +kernel
theorem dX6_keep_29 : decode cX6_keep 29 = .ok (.aload_n 1, 1) := by decide +kernel
theorem dX6_keep_30 : decode cX6_keep 30 = .ok (.bipush 12, 2) := by decide +kernel
theorem dX6_keep_32 : decode cX6_keep 32 = .ok (.iload_n 2, 1) := by decide +kernel
theorem dX6_keep_33 : decode cX6_keep 33 = .ok (.iadd, 1) := by decide +kernel
theorem dX6_keep_34 : decode cX6_keep 34 = .ok (.aload_n 0, 1) := by decide +kernel
theorem dX6_keep_35 : decode cX6_keep 35 = .ok (.getfield 26, 3) := by decide +kernel
theorem dX6_keep_38 : decode cX6_keep 38 = .ok (.iload_n 2, 1) := by decide +kernel
theorem dX6_keep_39 : decode cX6_keep 39 = .ok (.iaload, 1) := by decide +kernel
theorem dX6_keep_40 : decode cX6_keep 40 = .ok (.iastore, 1) := by decide +kernel
theorem dX6_keep_41 : decode cX6_keep 41 = .ok (.iinc 2 1, 3) := by decide +kernel
theorem dX6_keep_44 : decode cX6_keep 44 = .ok (.goto (-42), 3) := by decide +kernel
theorem dX6_keep_47 : decode cX6_keep 47 = .ok (.iconst 0, 1) := by decide +kernel
theorem dX6_keep_48 : decode cX6_keep 48 = .ok (.istore_n 2, 1) := by decide +kernel
theorem dX6_keep_49 : decode cX6_keep 49 = .ok (.iload_n 2, 1) := by decide +kernel
theorem dX6_keep_50 : decode cX6_keep 50 = .ok (.bipush 30, 2) := by decide +kernel
theorem dX6_keep_52 : decode cX6_keep 52 = .ok (.if_icmp .ge 21, 3) := by decide +kernel
theorem dX6_keep_55 : decode cX6_keep 55 = .ok (.aload_n 1, 1) := by decide +kernel
theorem dX6_keep_56 : decode cX6_keep 56 = .ok (.bipush 18, 2) := by decide +kernel
theorem dX6_keep_58 : decode cX6_keep 58 = .ok (.iload_n 2, 1) := by decide +kernel
theorem dX6_keep_59 : decode cX6_keep 59 = .ok (.iadd, 1) := by decide +kernel
theorem dX6_keep_60 : decode cX6_keep 60 = .ok (.aload_n 0, 1) := by decide +kernel
theorem dX6_keep_61 : decode cX6_keep 61 = .ok (.getfield 29, 3) := by decide +kernel
theorem dX6_keep_64 : decode cX6_keep 64 = .ok (.iload_n 2, 1) := by decide +kernel
theorem dX6_keep_65 : decode cX6_keep 65 = .ok (.iaload, 1) := by decide +kernel
theorem dX6_keep_66 : decode cX6_keep 66 = .ok (.iastore, 1) := by decide +kernel
theorem dX6_keep_67 : decode cX6_keep 67 = .ok (.iinc 2 1, 3) := by decide +kernel
theorem dX6_keep_70 : decode cX6_keep 70 = .ok (.goto (-21), 3) := by decide +kernel
theorem dX6_keep_73 : decode cX6_keep 73 = .ok (.iconst 0, 1) := by decide +kernel
theorem dX6_keep_74 : decode cX6_keep 74 = .ok (.istore_n 2, 1) := by decide +kernel
theorem dX6_keep_75 : decode cX6_keep 75 = .ok (.iload_n 2, 1) := by decide +kernel
theorem dX6_keep_76 : decode cX6_keep 76 = .ok (.bipush 8, 2) := by decide +kernel
theorem dX6_keep_78 : decode cX6_keep 78 = .ok (.if_icmp .ge 21, 3) := by decide +kernel
theorem dX6_keep_81 : decode cX6_keep 81 = .ok (.aload_n 1, 1) := by decide +kernel
theorem dX6_keep_82 : decode cX6_keep 82 = .ok (.bipush 48, 2) := by decide +kernel
theorem dX6_keep_84 : decode cX6_keep 84 = .ok (.iload_n 2, 1) := by decide +kernel
theorem dX6_keep_85 : decode cX6_keep 85 = .ok (.iadd, 1) := by decide +kernel
theorem dX6_keep_86 : decode cX6_keep 86 = .ok (.aload_n 0, 1) := by decide +kernel
theorem dX6_keep_87 : decode cX6_keep 87 = .ok (.getfield 32, 3) := by decide +kernel
theorem dX6_keep_90 : decode cX6_keep 90 = .ok (.iload_n 2, 1) := by decide +kernel
theorem dX6_keep_91 : decode cX6_keep 91 = .ok (.iaload, 1) := by decide +kernel
theorem dX6_keep_92 : decode cX6_keep 92 = .ok (.iastore, 1) := by decide +kernel
theorem dX6_keep_93 : decode cX6_keep 93 = .ok (.iinc 2 1, 3) := by decide +kernel
theorem dX6_keep_96 : decode cX6_keep 96 = .ok (.goto (-21), 3) := by decide +kernel
theorem dX6_keep_99 : decode cX6_keep 99 = .ok (.iconst 0, 1) := by decide +kernel
theorem dX6_keep_100 : decode cX6_keep 100 = .ok (.istore_n 2, 1) := by decide +kernel
theorem dX6_keep_101 : decode cX6_keep 101 = .ok (.iload_n 2, 1) := by decide +kernel
theorem dX6_keep_102 : decode cX6_keep 102 = .ok (.bipush 40, 2) := by decide +kernel
theorem dX6_keep_104 : decode cX6_keep 104 = .ok (.if_icmp .ge 21, 3) := by decide +kernel
theorem dX6_keep_107 : decode cX6_keep 107 = .ok (.aload_n 1, 1) := by decide +kernel
theorem dX6_keep_108 : decode cX6_keep 108 = .ok (.bipush 56, 2) := by decide +kernel
theorem dX6_keep_110 : decode cX6_keep 110 = .ok (.iload_n 2, 1) := by decide +kernel
theorem dX6_keep_111 : decode cX6_keep 111 = .ok (.iadd, 1) := by decide +kernel
theorem dX6_keep_112 : decode cX6_keep 112 = .ok (.aload_n 0, 1) := by decide +kernel
theorem dX6_keep_113 : decode cX6_keep 113 = .ok (.getfield 35, 3) := by decide +kernel
theorem dX6_keep_116 : decode cX6_keep 116 = .ok (.iload_n 2, 1) := by decide +kernel
theorem dX6_keep_117 : decode cX6_keep 117 = .ok (.iaload, 1) := by decide +kernel
theorem dX6_keep_118 : decode cX6_keep 118 = .ok (.iastore, 1) := by decide +kernel
theorem dX6_keep_119 : decode cX6_keep 119 = .ok (.iinc 2 1, 3) := by decide +kernel
theorem dX6_keep_122 : decode cX6_keep 122 = .ok (.goto (-21), 3) := by decide +kernel
theorem dX6_keep_125 : decode cX6_keep 125 = .ok (.aload_n 1, 1) := by decide +kernel
theorem dX6_keep_126 : decode cX6_keep 126 = .ok (.bipush 96, 2) := by decide +kernel
theorem dX6_keep_128 : decode cX6_keep 128 = .ok (.aload_n 0, 1) := by decide +kernel
theorem dX6_keep_129 : decode cX6_keep 129 = .ok (.getfield 72, 3) := by decide +kernel
theorem dX6_keep_132 : decode cX6_keep 132 = .ok (.iastore, 1) := by decide +kernel
theorem dX6_keep_133 : decode cX6_keep 133 = .ok (.aload_n 1, 1) := by decide +kernel
theorem dX6_keep_134 : decode cX6_keep 134 = .ok (.bipush 97, 2) := by decide +kernel
theorem dX6_keep_136 : decode cX6_keep 136 = .ok (.aload_n 0, 1) := by decide +kernel
theorem dX6_keep_137 : decode cX6_keep 137 = .ok (.getfield 79, 3) := by decide +kernel
theorem dX6_keep_140 : decode cX6_keep 140 = .ok (.iastore, 1) := by decide +kernel
theorem dX6_keep_141 : decode cX6_keep 141 = .ok (.aload_n 1, 1) := by decide +kernel
theorem dX6_keep_142 : decode cX6_keep 142 = .ok (.bipush 98, 2) := by decide +kernel
theorem dX6_keep_144 : decode cX6_keep 144 = .ok (.aload_n 0, 1) := by decide +kernel
theorem dX6_keep_145 : decode cX6_keep 145 = .ok (.getfield 59, 3) := by decide +kernel
theorem dX6_keep_148 : decode cX6_keep 148 = .ok (.iastore, 1) := by decide +kernel
theorem dX6_keep_149 : decode cX6_keep 149 = .ok (.aload_n 1, 1) := by decide +kernel
theorem dX6_keep_150 : decode cX6_keep 150 = .ok (.bipush 99, 2) := by decide +kernel
theorem dX6_keep_152 : decode cX6_keep 152 = .ok (.aload_n 0, 1) := by decide +kernel
theorem dX6_keep_153 : decode cX6_keep 153 = .ok (.getfield 63, 3) := by decide +kernel
theorem dX6_keep_156 : decode cX6_keep 156 = .ok (.iastore, 1) := by decide +kernel
theorem dX6_keep_157 : decode cX6_keep 157 = .ok (.aload_n 1, 1) := by decide +kernel
theorem dX6_keep_158 : decode cX6_keep 158 = .ok (.bipush 100, 2) := by decide +kernel
theorem dX6_keep_160 : decode cX6_keep 160 = .ok (.aload_n 0, 1) := by decide +kernel
theorem dX6_keep_161 : decode cX6_keep 161 = .ok (.getfield 66, 3) := by decide +kernel
theorem dX6_keep_164 : decode cX6_keep 164 = .ok (.iastore, 1) := by decide +kernel
theorem dX6_keep_165 : decode cX6_keep 165 = .ok (.aload_n 1, 1) := by decide +kernel
theorem dX6_keep_166 : decode cX6_keep 166 = .ok (.bipush 101, 2) := by decide +kernel
theorem dX6_keep_168 : decode cX6_keep 168 = .ok (.aload_n 0, 1) := by decide +kernel
theorem dX6_keep_169 : decode cX6_keep 169 = .ok (.getfield 129, 3) := by decide +kernel
theorem dX6_keep_172 : decode cX6_keep 172 = .ok (.iastore, 1) := by decide +kernel
theorem dX6_keep_173 : decode cX6_keep 173 = .ok (.aload_n 1, 1) := by decide +kernel
theorem dX6_keep_174 : decode cX6_keep 174 = .ok (.bipush 102, 2) := by decide +kernel
theorem dX6_keep_176 : decode cX6_keep 176 = .ok (.aload_n 0, 1) := by decide +kernel
theorem dX6_keep_177 : decode cX6_keep 177 = .ok (.getfield 69, 3) := by decide +kernel
theorem dX6_keep_180 : decode cX6_keep 180 = .ok (.iastore, 1) := by decide +kernel
theorem dX6_keep_181 : decode cX6_keep 181 = .ok (.return_, 1) := by decide +kernel
theorem dX6_again_0 : decode cX6_again 0 = .ok (.iconst 0, 1) := by decide +kernel
theorem dX6_again_1 : decode cX6_again 1 = .ok (.istore_n 2, 1) := by decide +kernel
theorem dX6_again_2 : decode cX6_again 2 = .ok (.iload_n 2, 1) := by decide +kernel
theorem dX6_again_3 : decode cX6_again 3 = .ok (.bipush 6, 2) := by decide +kernel
theorem dX6_again_5 : decode cX6_again 5 = .ok (.if_icmp .ge 42, 3) := by decide +kernel
theorem dX6_again_8 : decode cX6_again 8 = .ok (.aload_n 0, 1) := by decide +kernel
theorem dX6_again_9 : decode cX6_again 9 = .ok (.getfield 20, 3) := by decide +kernel
theorem dX6_again_12 : decode cX6_again 12 = .ok (.iload_n 2, 1) := by decide +kernel
theorem dX6_again_13 : decode cX6_again 13 = .ok (.aload_n 1, 1) := by decide +kernel
theorem dX6_again_14 : decode cX6_again 14 = .ok (.iload_n 2, 1) := by decide +kernel
theorem dX6_again_15 : decode cX6_again 15 = .ok (.iaload, 1) := by decide +kernel
theorem dX6_again_16 : decode cX6_again 16 = .ok (.iastore, 1) := by decide +kernel
theorem dX6_again_17 : decode cX6_again 17 = .ok (.aload_n 0, 1) := by decide +kernel
theorem dX6_again_18 : decode cX6_again 18 = .ok (.getfield 23, 3) := by decide +kernel
theorem dX6_again_21 : decode cX6_again 21 = .ok (.iload_n 2, 1) := by decide +kernel
theorem dX6_again_22 : decode cX6_again 22 = .ok (.aload_n 1, 1) := by decide +kernel
theorem dX6_again_23 : decode cX6_again 23 = .ok (.bipush 6, 2) := by decide +kernel
theorem dX6_again_25 : decode cX6_again 25 = .ok (.iload_n 2, 1) := by decide +kernel
theorem dX6_again_26 : decode cX6_again 26 = .ok (.iadd, 1) := by decide +kernel
theorem dX6_again_27 : decode cX6_again 27 = .ok (.iaload, 1) := by decide +kernel
theorem dX6_again_28 : decode cX6_again 28 = .ok (.iastore, 1) := by decide +kernel
theorem dX6_again_29 : decode cX6_again 29 = .ok (.aload_n 0, 1) := by decide +kernel
theorem dX6_again_30 : decode cX6_again 30 = .ok (.getfield 26, 3) := by decide +kernel
theorem dX6_again_33 : decode cX6_again 33 = .ok (.iload_n 2, 1) := by decide +kernel
theorem dX6_again_34 : decode cX6_again 34 = .ok (.aload_n 1, 1) := by decide +kernel
theorem dX6_again_35 : decode cX6_again 35 = .ok (.bipush 12, 2) := by decide +kernel
theorem dX6_again_37 : decode cX6_again 37 = .ok (.iload_n 2, 1) := by decide +kernel
theorem dX6_again_38 : decode cX6_again 38 = .ok (.iadd, 1) := by decide +kernel
theorem dX6_again_39 : decode cX6_again 39 = .ok (.iaload, 1) := by decide +kernel
theorem dX6_again_40 : decode cX6_again 40 = .ok (.iastore, 1) := by decide +kernel
theorem dX6_again_41 : decode cX6_again 41 = .ok (.iinc 2 1, 3) := by decide +kernel
theorem dX6_again_44 : decode cX6_again 44 = .ok (.goto (-42), 3) := by decide +kernel
theorem dX6_again_47 : decode cX6_again 47 = .ok (.iconst 0, 1) := by decide +kernel
theorem dX6_again_48 : decode cX6_again 48 = .ok (.istore_n 2, 1) := by decide +kernel
theorem dX6_again_49 : decode cX6_again 49 = .ok (.iload_n 2, 1) := by decide +kernel
theorem dX6_again_50 : decode cX6_again 50 = .ok (.bipush 30, 2) := by decide +kernel
theorem dX6_again_52 : decode cX6_again 52 = .ok (.if_icmp .ge 21, 3) := by decide +kernel
theorem dX6_again_55 : decode cX6_again 55 = .ok (.aload_n 0, 1) := by decide +kernel
theorem dX6_again_56 : decode cX6_again 56 = .ok (.getfield 29, 3) := by decide +kernel
theorem dX6_again_59 : decode cX6_again 59 = .ok (.iload_n 2, 1) := by decide +kernel
theorem dX6_again_60 : decode cX6_again 60 = .ok (.aload_n 1, 1) := by decide +kernel
theorem dX6_again_61 : decode cX6_again 61 = .ok (.bipush 18, 2) := by decide +kernel
theorem dX6_again_63 : decode cX6_again 63 = .ok (.iload_n 2, 1) := by decide +kernel
theorem dX6_again_64 : decode cX6_again 64 = .ok (.iadd, 1) := by decide +kernel
theorem dX6_again_65 : decode cX6_again 65 = .ok (.iaload, 1) := by decide +kernel
theorem dX6_again_66 : decode cX6_again 66 = .ok (.iastore, 1) := by decide +kernel
theorem dX6_again_67 : decode cX6_again 67 = .ok (.iinc 2 1, 3) := by decide +kernel
theorem dX6_again_70 : decode cX6_again 70 = .ok (.goto (-21), 3) := by decide +kernel
theorem dX6_again_73 : decode cX6_again 73 = .ok (.iconst 0, 1) := by decide +kernel
theorem dX6_again_74 : decode cX6_again 74 = .ok (.istore_n 2, 1) := by decide +kernel
theorem dX6_again_75 : decode cX6_again 75 = .ok (.iload_n 2, 1) := by decide +kernel
theorem dX6_again_76 : decode cX6_again 76 = .ok (.bipush 8, 2) := by decide +kernel
theorem dX6_again_78 : decode cX6_again 78 = .ok (.if_icmp .ge 21, 3) := by decide +kernel
theorem dX6_again_81 : decode cX6_again 81 = .ok (.aload_n 0, 1) := by decide +kernel
theorem dX6_again_82 : decode cX6_again 82 = .ok (.getfield 32, 3) := by decide +kernel
theorem dX6_again_85 : decode cX6_again 85 = .ok (.iload_n 2, 1) := by decide +kernel
theorem dX6_again_86 : decode cX6_again 86 = .ok (.aload_n 1, 1) := by decide +kernel
theorem dX6_again_87 : decode cX6_again 87 = .ok (.bipush 48, 2) := by decide +kernel
theorem dX6_again_89 : decode cX6_again 89 = .ok (.iload_n 2, 1) := by decide +kernel
theorem dX6_again_90 : decode cX6_again 90 = .ok (.iadd, 1) := by decide +kernel
theorem dX6_again_91 : decode cX6_again 91 = .ok (.iaload, 1) := by decide +kernel
theorem dX6_again_92 : decode cX6_again 92 = .ok (.iastore, 1) := by decide +kernel
theorem dX6_again_93 : decode cX6_again 93 = .ok (.iinc 2 1, 3) := by decide +kernel
theorem dX6_again_96 : decode cX6_again 96 = .ok (.goto (-21), 3) := by decide +kernel
theorem dX6_again_99 : decode cX6_again 99 = .ok (.iconst 0, 1) := by decide +kernel
theorem dX6_again_100 : decode cX6_again 100 = .ok (.istore_n 2, 1) := by decide +kernel
theorem dX6_again_101 : decode cX6_again 101 = .ok (.iload_n 2, 1) := by decide +kernel
theorem dX6_again_102 : decode cX6_again 102 = .ok (.bipush 40, 2) := by decide +kernel
theorem dX6_again_104 : decode cX6_again 104 = .ok (.if_icmp .ge 21, 3) := by decide +kernel
theorem dX6_again_107 : decode cX6_again 107 = .ok (.aload_n 0, 1) := by decide +kernel
theorem dX6_again_108 : decode cX6_again 108 = .ok (.getfield 35, 3) := by decide +kernel
theorem dX6_again_111 : decode cX6_again 111 = .ok (.iload_n 2, 1) := by decide +kernel
theorem dX6_again_112 : decode cX6_again 112 = .ok (.aload_n 1, 1) := by decide +kernel
theorem dX6_again_113 : decode cX6_again 113 = .ok (.bipush 56, 2) := by decide +kernel
theorem dX6_again_115 : decode cX6_again 115 = .ok (.iload_n 2, 1) := by decide +kernel
theorem dX6_again_116 : decode cX6_again 116 = .ok (.iadd, 1) := by decide +kernel
theorem dX6_again_117 : decode cX6_again 117 = .ok (.iaload, 1) := by decide +kernel
theorem dX6_again_118 : decode cX6_again 118 = .ok (.iastore, 1) := by decide +kernel
theorem dX6_again_119 : decode cX6_again 119 = .ok (.iinc 2 1, 3) := by decide +kernel
theorem dX6_again_122 : decode cX6_again 122 = .ok (.goto (-21), 3) := by decide +kernel
theorem dX6_again_125 : decode cX6_again 125 = .ok (.aload_n 0, 1) := by decide +kernel
theorem dX6_again_126 : decode cX6_again 126 = .ok (.aload_n 1, 1) := by decide +kernel
theorem dX6_again_127 : decode cX6_again 127 = .ok (.bipush 96, 2) := by decide +kernel
theorem dX6_again_129 : decode cX6_again 129 = .ok (.iaload, 1) := by decide +kernel
theorem dX6_again_130 : decode cX6_again 130 = .ok (.putfield 72, 3) := by decide +kernel
theorem dX6_again_133 : decode cX6_again 133 = .ok (.aload_n 0, 1) := by decide +kernel
theorem dX6_again_134 : decode cX6_again 134 = .ok (.aload_n 1, 1) := by decide +kernel
theorem dX6_again_135 : decode cX6_again 135 = .ok (.bipush 97, 2) := by decide +kernel
theorem dX6_again_137 : decode cX6_again 137 = .ok (.iaload, 1) := by decide +kernel
theorem dX6_again_138 : decode cX6_again 138 = .ok (.putfield 79, 3) := by decide +kernel
theorem dX6_again_141 : decode cX6_again 141 = .ok (.aload_n 0, 1) := by decide +kernel
theorem dX6_again_142 : decode cX6_again 142 = .ok (.aload_n 1, 1) := by decide +kernel
theorem dX6_again_143 : decode cX6_again 143 = .ok (.bipush 98, 2) := by decide +kernel
theorem dX6_again_145 : decode cX6_again 145 = .ok (.iaload, 1) := by decide +kernel
theorem dX6_again_146 : decode cX6_again 146 = .ok (.putfield 59, 3) := by decide +kernel
theorem dX6_again_149 : decode cX6_again 149 = .ok (.aload_n 0, 1) := by decide +kernel
theorem dX6_again_150 : decode cX6_again 150 = .ok (.aload_n 1, 1) := by decide +kernel
theorem dX6_again_151 : decode cX6_again 151 = .ok (.bipush 99, 2) := by decide +kernel
theorem dX6_again_153 : decode cX6_again 153 = .ok (.iaload, 1) := by decide +kernel
theorem dX6_again_154 : decode cX6_again 154 = .ok (.putfield 63, 3) := by decide +kernel
theorem dX6_again_157 : decode cX6_again 157 = .ok (.aload_n 0, 1) := by decide +kernel
theorem dX6_again_158 : decode cX6_again 158 = .ok (.aload_n 1, 1) := by decide +kernel
theorem dX6_again_159 : decode cX6_again 159 = .ok (.bipush 100, 2) := by decide +kernel
theorem dX6_again_161 : decode cX6_again 161 = .ok (.iaload, 1) := by decide +kernel
theorem dX6_again_162 : decode cX6_again 162 = .ok (.putfield 66, 3) := by decide +kernel
theorem dX6_again_165 : decode cX6_again 165 = .ok (.aload_n 0, 1) := by decide +kernel
theorem dX6_again_166 : decode cX6_again 166 = .ok (.aload_n 1, 1) := by decide +kernel
theorem dX6_again_167 : decode cX6_again 167 = .ok (.bipush 101, 2) := by decide +kernel
theorem dX6_again_169 : decode cX6_again 169 = .ok (.iaload, 1) := by decide +kernel
theorem dX6_again_170 : decode cX6_again 170 = .ok (.putfield 129, 3) := by decide +kernel
theorem dX6_again_173 : decode cX6_again 173 = .ok (.aload_n 0, 1) := by decide +kernel
theorem dX6_again_174 : decode cX6_again 174 = .ok (.aload_n 1, 1) := by decide +kernel
theorem dX6_again_175 : decode cX6_again 175 = .ok (.bipush 102, 2) := by decide +kernel
theorem dX6_again_177 : decode cX6_again 177 = .ok (.iaload, 1) := by decide +kernel
theorem dX6_again_178 : decode cX6_again 178 = .ok (.putfield 69, 3) := by decide +kernel
theorem dX6_again_181 : decode cX6_again 181 = .ok (.return_, 1) := by decide +kernel
theorem dX6_image_0 : decode cX6_image 0 = .ok (.aload_n 0, 1) := by decide +kernel
theorem dX6_image_1 : decode cX6_image 1 = .ok (.iconst 1, 1) := by decide +kernel
theorem dX6_image_2 : decode cX6_image 2 = .ok (.putfield 267, 3) := by decide +kernel
theorem dX6_image_5 : decode cX6_image 5 = .ok (.aload_n 0, 1) := by decide +kernel
theorem dX6_image_6 : decode cX6_image 6 = .ok (.aload_n 0, 1) := by decide +kernel
theorem dX6_image_7 : decode cX6_image 7 = .ok (.getfield 44, 3) := by decide +kernel
theorem dX6_image_10 : decode cX6_image 10 = .ok (.invokevirtual 185, 3) := by decide +kernel
theorem dX6_image_13 : decode cX6_image 13 = .ok (.iconst 1, 1) := by decide +kernel
theorem dX6_image_14 : decode cX6_image 14 = .ok (.ireturn, 1) := by decide +kernel
theorem dX6_back_0 : decode cX6_back 0 = .ok (.aload_n 0, 1) := by decide +kernel
theorem dX6_back_1 : decode cX6_back 1 = .ok (.getfield 267, 3) := by decide +kernel
theorem dX6_back_4 : decode cX6_back 4 = .ok (.ifCond .ne 10, 3) := by decide +kernel
theorem dX6_back_7 : decode cX6_back 7 = .ok (.aload_n 0, 1) := by decide +kernel
theorem dX6_back_8 : decode cX6_back 8 = .ok (.bipush (-5), 2) := by decide +kernel
theorem dX6_back_10 : decode cX6_back 10 = .ok (.invokevirtual 82, 3) := by decide +kernel
theorem dX6_back_13 : decode cX6_back 13 = .ok (.ireturn, 1) := by decide +kernel
theorem dX6_back_14 : decode cX6_back 14 = .ok (.aload_n 0, 1) := by decide +kernel
theorem dX6_back_15 : decode cX6_back 15 = .ok (.aload_n 0, 1) := by decide +kernel
theorem dX6_back_16 : decode cX6_back 16 = .ok (.getfield 44, 3) := by decide +kernel
theorem dX6_back_19 : decode cX6_back 19 = .ok (.invokevirtual 193, 3) := by decide +kernel
theorem dX6_back_22 : decode cX6_back 22 = .ok (.iconst 0, 1) := by decide +kernel
theorem dX6_back_23 : decode cX6_back 23 = .ok (.istore_n 1, 1) := by decide +kernel
theorem dX6_back_24 : decode cX6_back 24 = .ok (.iload_n 1, 1) := by decide +kernel
theorem dX6_back_25 : decode cX6_back 25 = .ok (.bipush 8, 2) := by decide +kernel
theorem dX6_back_27 : decode cX6_back 27 = .ok (.if_icmp .ge 32, 3) := by decide +kernel
theorem dX6_back_30 : decode cX6_back 30 = .ok (.aload_n 0, 1) := by decide +kernel
theorem dX6_back_31 : decode cX6_back 31 = .ok (.getfield 7, 3) := by decide +kernel
theorem dX6_back_34 : decode cX6_back 34 = .ok (.iload_n 1, 1) := by decide +kernel
theorem dX6_back_35 : decode cX6_back 35 = .ok (.iaload, 1) := by decide +kernel
theorem dX6_back_36 : decode cX6_back 36 = .ok (.bipush 10, 2) := by decide +kernel
theorem dX6_back_38 : decode cX6_back 38 = .ok (.aload_n 0, 1) := by decide +kernel
theorem dX6_back_39 : decode cX6_back 39 = .ok (.getfield 72, 3) := by decide +kernel
theorem dX6_back_42 : decode cX6_back 42 = .ok (.iadd, 1) := by decide +kernel
theorem dX6_back_43 : decode cX6_back 43 = .ok (.if_icmp .lt 10, 3) := by decide +kernel
theorem dX6_back_46 : decode cX6_back 46 = .ok (.aload_n 0, 1) := by decide +kernel
theorem dX6_back_47 : decode cX6_back 47 = .ok (.getfield 7, 3) := by decide +kernel
theorem dX6_back_50 : decode cX6_back 50 = .ok (.iload_n 1, 1) := by decide +kernel
theorem dX6_back_51 : decode cX6_back 51 = .ok (.iconst (-1), 1) := by decide +kernel
theorem dX6_back_52 : decode cX6_back 52 = .ok (.iastore, 1) := by decide +kernel
theorem dX6_back_53 : decode cX6_back 53 = .ok (.iinc 1 1, 3) := by decide +kernel
theorem dX6_back_56 : decode cX6_back 56 = .ok (.goto (-32), 3) := by decide +kernel
theorem dX6_back_59 : decode cX6_back 59 = .ok (.iconst 1, 1) := by decide +kernel
theorem dX6_back_60 : decode cX6_back 60 = .ok (.ireturn, 1) := by decide +kernel
theorem dX6_status_0 : decode cX6_status 0 = .ok (.iconst 0, 1) := by decide +kernel
theorem dX6_status_1 : decode cX6_status 1 = .ok (.istore_n 2, 1) := by decide +kernel
theorem dX6_status_2 : decode cX6_status 2 = .ok (.iload_n 1, 1) := by decide +kernel
theorem dX6_status_3 : decode cX6_status 3 = .ok (.tableswitch 187 0 10 #[57, 62, 67, 72, 77, 82, 87, 119, 148, 153, 158], 57) := by decide +kernel
theorem dX6_status_60 : decode cX6_status 60 = .ok (.aload_n 0, 1) := by decide +kernel
theorem dX6_status_61 : decode cX6_status 61 = .ok (.getfield 72, 3) := by decide +kernel
theorem dX6_status_64 : decode cX6_status 64 = .ok (.ireturn, 1) := by decide +kernel
theorem dX6_status_65 : decode cX6_status 65 = .ok (.aload_n 0, 1) := by decide +kernel
theorem dX6_status_66 : decode cX6_status 66 = .ok (.getfield 79, 3) := by decide +kernel
theorem dX6_status_69 : decode cX6_status 69 = .ok (.ireturn, 1) := by decide +kernel
theorem dX6_status_70 : decode cX6_status 70 = .ok (.aload_n 0, 1) := by decide +kernel
theorem dX6_status_71 : decode cX6_status 71 = .ok (.getfield 59, 3) := by decide +kernel
theorem dX6_status_74 : decode cX6_status 74 = .ok (.ireturn, 1) := by decide +kernel
theorem dX6_status_75 : decode cX6_status 75 = .ok (.aload_n 0, 1) := by decide +kernel
theorem dX6_status_76 : decode cX6_status 76 = .ok (.getfield 63, 3) := by decide +kernel
theorem dX6_status_79 : decode cX6_status 79 = .ok (.ireturn, 1) := by decide +kernel
theorem dX6_status_80 : decode cX6_status 80 = .ok (.aload_n 0, 1) := by decide +kernel
theorem dX6_status_81 : decode cX6_status 81 = .ok (.getfield 66, 3) := by decide +kernel
theorem dX6_status_84 : decode cX6_status 84 = .ok (.ireturn, 1) := by decide +kernel
theorem dX6_status_85 : decode cX6_status 85 = .ok (.aload_n 0, 1) := by decide +kernel
theorem dX6_status_86 : decode cX6_status 86 = .ok (.getfield 129, 3) := by decide +kernel
theorem dX6_status_89 : decode cX6_status 89 = .ok (.ireturn, 1) := by decide +kernel
theorem dX6_status_90 : decode cX6_status 90 = .ok (.iconst 0, 1) := by decide +kernel
theorem dX6_status_91 : decode cX6_status 91 = .ok (.istore_n 3, 1) := by decide +kernel
theorem dX6_status_92 : decode cX6_status 92 = .ok (.iload_n 3, 1) := by decide +kernel
theorem dX6_status_93 : decode cX6_status 93 = .ok (.aload_n 0, 1) := by decide +kernel
theorem dX6_status_94 : decode cX6_status 94 = .ok (.getfield 72, 3) := by decide +kernel
theorem dX6_status_97 : decode cX6_status 97 = .ok (.if_icmp .ge 23, 3) := by decide +kernel
theorem dX6_status_100 : decode cX6_status 100 = .ok (.aload_n 0, 1) := by decide +kernel
theorem dX6_status_101 : decode cX6_status 101 = .ok (.iload_n 3, 1) := by decide +kernel
theorem dX6_status_102 : decode cX6_status 102 = .ok (.invokevirtual 210, 3) := by decide +kernel
theorem dX6_status_105 : decode cX6_status 105 = .ok (.ifCond .eq 9, 3) := by decide +kernel
theorem dX6_status_108 : decode cX6_status 108 = .ok (.iload_n 2, 1) := by decide +kernel
theorem dX6_status_109 : decode cX6_status 109 = .ok (.iconst 1, 1) := by decide +kernel
theorem dX6_status_110 : decode cX6_status 110 = .ok (.iload_n 3, 1) := by decide +kernel
theorem dX6_status_111 : decode cX6_status 111 = .ok (.ishl, 1) := by decide +kernel
theorem dX6_status_112 : decode cX6_status 112 = .ok (.ior, 1) := by decide +kernel
theorem dX6_status_113 : decode cX6_status 113 = .ok (.istore_n 2, 1) := by decide +kernel
theorem dX6_status_114 : decode cX6_status 114 = .ok (.iinc 3 1, 3) := by decide +kernel
theorem dX6_status_117 : decode cX6_status 117 = .ok (.goto (-25), 3) := by decide +kernel
theorem dX6_status_120 : decode cX6_status 120 = .ok (.iload_n 2, 1) := by decide +kernel
theorem dX6_status_121 : decode cX6_status 121 = .ok (.ireturn, 1) := by decide +kernel
theorem dX6_status_122 : decode cX6_status 122 = .ok (.iconst 0, 1) := by decide +kernel
theorem dX6_status_123 : decode cX6_status 123 = .ok (.istore_n 3, 1) := by decide +kernel
theorem dX6_status_124 : decode cX6_status 124 = .ok (.iload_n 3, 1) := by decide +kernel
theorem dX6_status_125 : decode cX6_status 125 = .ok (.aload_n 0, 1) := by decide +kernel
theorem dX6_status_126 : decode cX6_status 126 = .ok (.getfield 79, 3) := by decide +kernel
theorem dX6_status_129 : decode cX6_status 129 = .ok (.if_icmp .ge 20, 3) := by decide +kernel
theorem dX6_status_132 : decode cX6_status 132 = .ok (.iload_n 2, 1) := by decide +kernel
theorem dX6_status_133 : decode cX6_status 133 = .ok (.aload_n 0, 1) := by decide +kernel
theorem dX6_status_134 : decode cX6_status 134 = .ok (.getfield 32, 3) := by decide +kernel
theorem dX6_status_137 : decode cX6_status 137 = .ok (.iload_n 3, 1) := by decide +kernel
theorem dX6_status_138 : decode cX6_status 138 = .ok (.iaload, 1) := by decide +kernel
theorem dX6_status_139 : decode cX6_status 139 = .ok (.iload_n 3, 1) := by decide +kernel
theorem dX6_status_140 : decode cX6_status 140 = .ok (.ishl, 1) := by decide +kernel
theorem dX6_status_141 : decode cX6_status 141 = .ok (.ior, 1) := by decide +kernel
theorem dX6_status_142 : decode cX6_status 142 = .ok (.istore_n 2, 1) := by decide +kernel
theorem dX6_status_143 : decode cX6_status 143 = .ok (.iinc 3 1, 3) := by decide +kernel
theorem dX6_status_146 : decode cX6_status 146 = .ok (.goto (-22), 3) := by decide +kernel
theorem dX6_status_149 : decode cX6_status 149 = .ok (.iload_n 2, 1) := by decide +kernel
theorem dX6_status_150 : decode cX6_status 150 = .ok (.ireturn, 1) := by decide +kernel
theorem dX6_status_151 : decode cX6_status 151 = .ok (.aload_n 0, 1) := by decide +kernel
theorem dX6_status_152 : decode cX6_status 152 = .ok (.getfield 132, 3) := by decide +kernel
theorem dX6_status_155 : decode cX6_status 155 = .ok (.ireturn, 1) := by decide +kernel
theorem dX6_status_156 : decode cX6_status 156 = .ok (.aload_n 0, 1) := by decide +kernel
theorem dX6_status_157 : decode cX6_status 157 = .ok (.getfield 69, 3) := by decide +kernel
theorem dX6_status_160 : decode cX6_status 160 = .ok (.ireturn, 1) := by decide +kernel
theorem dX6_status_161 : decode cX6_status 161 = .ok (.iconst 0, 1) := by decide +kernel
theorem dX6_status_162 : decode cX6_status 162 = .ok (.istore_n 3, 1) := by decide +kernel
theorem dX6_status_163 : decode cX6_status 163 = .ok (.iload_n 3, 1) := by decide +kernel
theorem dX6_status_164 : decode cX6_status 164 = .ok (.bipush 8, 2) := by decide +kernel
theorem dX6_status_166 : decode cX6_status 166 = .ok (.if_icmp .ge 22, 3) := by decide +kernel
theorem dX6_status_169 : decode cX6_status 169 = .ok (.aload_n 0, 1) := by decide +kernel
theorem dX6_status_170 : decode cX6_status 170 = .ok (.getfield 7, 3) := by decide +kernel
theorem dX6_status_173 : decode cX6_status 173 = .ok (.iload_n 3, 1) := by decide +kernel
theorem dX6_status_174 : decode cX6_status 174 = .ok (.iaload, 1) := by decide +kernel
theorem dX6_status_175 : decode cX6_status 175 = .ok (.iconst (-1), 1) := by decide +kernel
theorem dX6_status_176 : decode cX6_status 176 = .ok (.if_icmp .eq 6, 3) := by decide +kernel
theorem dX6_status_179 : decode cX6_status 179 = .ok (.iinc 2 1, 3) := by decide +kernel
theorem dX6_status_182 : decode cX6_status 182 = .ok (.iinc 3 1, 3) := by decide +kernel
theorem dX6_status_185 : decode cX6_status 185 = .ok (.goto (-22), 3) := by decide +kernel
theorem dX6_status_188 : decode cX6_status 188 = .ok (.iload_n 2, 1) := by decide +kernel
theorem dX6_status_189 : decode cX6_status 189 = .ok (.ireturn, 1) := by decide +kernel
theorem dX6_status_190 : decode cX6_status 190 = .ok (.iload_n 1, 1) := by decide +kernel
theorem dX6_status_191 : decode cX6_status 191 = .ok (.bipush 12, 2) := by decide +kernel
theorem dX6_status_193 : decode cX6_status 193 = .ok (.bipush 16, 2) := by decide +kernel
theorem dX6_status_195 : decode cX6_status 195 = .ok (.invokestatic 75, 3) := by decide +kernel
theorem dX6_status_198 : decode cX6_status 198 = .ok (.ifCond .eq 15, 3) := by decide +kernel
theorem dX6_status_201 : decode cX6_status 201 = .ok (.aload_n 0, 1) := by decide +kernel
theorem dX6_status_202 : decode cX6_status 202 = .ok (.getfield 41, 3) := by decide +kernel
theorem dX6_status_205 : decode cX6_status 205 = .ok (.iload_n 1, 1) := by decide +kernel
theorem dX6_status_206 : decode cX6_status 206 = .ok (.bipush 10, 2) := by decide +kernel
theorem dX6_status_208 : decode cX6_status 208 = .ok (.isub, 1) := by decide +kernel
theorem dX6_status_209 : decode cX6_status 209 = .ok (.iaload, 1) := by decide +kernel
theorem dX6_status_210 : decode cX6_status 210 = .ok (.goto 4, 3) := by decide +kernel
theorem dX6_status_213 : decode cX6_status 213 = .ok (.iconst (-1), 1) := by decide +kernel
theorem dX6_status_214 : decode cX6_status 214 = .ok (.ireturn, 1) := by decide +kernel
theorem dJ6_bitCount_0f7a4_0 : decode cJ6_bitCount_0f7a4 0 = .ok (.iload_n 0, 1) := by decide +kernel
theorem dJ6_bitCount_0f7a4_1 : decode cJ6_bitCount_0f7a4 1 = .ok (.iload_n 0, 1) := by decide +kernel
theorem dJ6_bitCount_0f7a4_2 : decode cJ6_bitCount_0f7a4 2 = .ok (.iconst 1, 1) := by decide +kernel
theorem dJ6_bitCount_0f7a4_3 : decode cJ6_bitCount_0f7a4 3 = .ok (.iushr, 1) := by decide +kernel
theorem dJ6_bitCount_0f7a4_4 : decode cJ6_bitCount_0f7a4 4 = .ok (.ldc_w 265, 3) := by decide +kernel
theorem dJ6_bitCount_0f7a4_7 : decode cJ6_bitCount_0f7a4 7 = .ok (.iand, 1) := by decide +kernel
theorem dJ6_bitCount_0f7a4_8 : decode cJ6_bitCount_0f7a4 8 = .ok (.isub, 1) := by decide +kernel
theorem dJ6_bitCount_0f7a4_9 : decode cJ6_bitCount_0f7a4 9 = .ok (.istore_n 0, 1) := by decide +kernel
theorem dJ6_bitCount_0f7a4_10 : decode cJ6_bitCount_0f7a4 10 = .ok (.iload_n 0, 1) := by decide +kernel
theorem dJ6_bitCount_0f7a4_11 : decode cJ6_bitCount_0f7a4 11 = .ok (.ldc_w 266, 3) := by decide +kernel
theorem dJ6_bitCount_0f7a4_14 : decode cJ6_bitCount_0f7a4 14 = .ok (.iand, 1) := by decide +kernel
theorem dJ6_bitCount_0f7a4_15 : decode cJ6_bitCount_0f7a4 15 = .ok (.iload_n 0, 1) := by decide +kernel
theorem dJ6_bitCount_0f7a4_16 : decode cJ6_bitCount_0f7a4 16 = .ok (.iconst 2, 1) := by decide +kernel
theorem dJ6_bitCount_0f7a4_17 : decode cJ6_bitCount_0f7a4 17 = .ok (.iushr, 1) := by decide +kernel
theorem dJ6_bitCount_0f7a4_18 : decode cJ6_bitCount_0f7a4 18 = .ok (.ldc_w 266, 3) := by decide +kernel
theorem dJ6_bitCount_0f7a4_21 : decode cJ6_bitCount_0f7a4 21 = .ok (.iand, 1) := by decide +kernel
theorem dJ6_bitCount_0f7a4_22 : decode cJ6_bitCount_0f7a4 22 = .ok (.iadd, 1) := by decide +kernel
theorem dJ6_bitCount_0f7a4_23 : decode cJ6_bitCount_0f7a4 23 = .ok (.istore_n 0, 1) := by decide +kernel
theorem dJ6_bitCount_0f7a4_24 : decode cJ6_bitCount_0f7a4 24 = .ok (.iload_n 0, 1) := by decide +kernel
theorem dJ6_bitCount_0f7a4_25 : decode cJ6_bitCount_0f7a4 25 = .ok (.iload_n 0, 1) := by decide +kernel
theorem dJ6_bitCount_0f7a4_26 : decode cJ6_bitCount_0f7a4 26 = .ok (.iconst 4, 1) := by decide +kernel
theorem dJ6_bitCount_0f7a4_27 : decode cJ6_bitCount_0f7a4 27 = .ok (.iushr, 1) := by decide +kernel
theorem dJ6_bitCount_0f7a4_28 : decode cJ6_bitCount_0f7a4 28 = .ok (.iadd, 1) := by decide +kernel
theorem dJ6_bitCount_0f7a4_29 : decode cJ6_bitCount_0f7a4 29 = .ok (.ldc_w 267, 3) := by decide +kernel
theorem dJ6_bitCount_0f7a4_32 : decode cJ6_bitCount_0f7a4 32 = .ok (.iand, 1) := by decide +kernel
theorem dJ6_bitCount_0f7a4_33 : decode cJ6_bitCount_0f7a4 33 = .ok (.istore_n 0, 1) := by decide +kernel
theorem dJ6_bitCount_0f7a4_34 : decode cJ6_bitCount_0f7a4 34 = .ok (.iload_n 0, 1) := by decide +kernel
theorem dJ6_bitCount_0f7a4_35 : decode cJ6_bitCount_0f7a4 35 = .ok (.iload_n 0, 1) := by decide +kernel
theorem dJ6_bitCount_0f7a4_36 : decode cJ6_bitCount_0f7a4 36 = .ok (.bipush 8, 2) := by decide +kernel
theorem dJ6_bitCount_0f7a4_38 : decode cJ6_bitCount_0f7a4 38 = .ok (.iushr, 1) := by decide +kernel
theorem dJ6_bitCount_0f7a4_39 : decode cJ6_bitCount_0f7a4 39 = .ok (.iadd, 1) := by decide +kernel
theorem dJ6_bitCount_0f7a4_40 : decode cJ6_bitCount_0f7a4 40 = .ok (.istore_n 0, 1) := by decide +kernel
theorem dJ6_bitCount_0f7a4_41 : decode cJ6_bitCount_0f7a4 41 = .ok (.iload_n 0, 1) := by decide +kernel
theorem dJ6_bitCount_0f7a4_42 : decode cJ6_bitCount_0f7a4 42 = .ok (.iload_n 0, 1) := by decide +kernel
theorem dJ6_bitCount_0f7a4_43 : decode cJ6_bitCount_0f7a4 43 = .ok (.bipush 16, 2) := by decide +kernel
theorem dJ6_bitCount_0f7a4_45 : decode cJ6_bitCount_0f7a4 45 = .ok (.iushr, 1) := by decide +kernel
theorem dJ6_bitCount_0f7a4_46 : decode cJ6_bitCount_0f7a4 46 = .ok (.iadd, 1) := by decide +kernel
theorem dJ6_bitCount_0f7a4_47 : decode cJ6_bitCount_0f7a4 47 = .ok (.istore_n 0, 1) := by decide +kernel
theorem dJ6_bitCount_0f7a4_48 : decode cJ6_bitCount_0f7a4 48 = .ok (.iload_n 0, 1) := by decide +kernel
theorem dJ6_bitCount_0f7a4_49 : decode cJ6_bitCount_0f7a4 49 = .ok (.bipush 63, 2) := by decide +kernel
theorem dJ6_bitCount_0f7a4_51 : decode cJ6_bitCount_0f7a4 51 = .ok (.iand, 1) := by decide +kernel
theorem dJ6_bitCount_0f7a4_52 : decode cJ6_bitCount_0f7a4 52 = .ok (.ireturn, 1) := by decide +kernel
theorem dJ9_max_7cf53_0 : decode cJ9_max_7cf53 0 = .ok (.iload_n 0, 1) := by decide +kernel
theorem dJ9_max_7cf53_1 : decode cJ9_max_7cf53 1 = .ok (.iload_n 1, 1) := by decide +kernel
theorem dJ9_max_7cf53_2 : decode cJ9_max_7cf53 2 = .ok (.if_icmp .lt 7, 3) := by decide +kernel
theorem dJ9_max_7cf53_5 : decode cJ9_max_7cf53 5 = .ok (.iload_n 0, 1) := by decide +kernel
theorem dJ9_max_7cf53_6 : decode cJ9_max_7cf53 6 = .ok (.goto 4, 3) := by decide +kernel
theorem dJ9_max_7cf53_9 : decode cJ9_max_7cf53 9 = .ok (.iload_n 1, 1) := by decide +kernel
theorem dJ9_max_7cf53_10 : decode cJ9_max_7cf53 10 = .ok (.ireturn, 1) := by decide +kernel
theorem dJ9_min_7cf53_0 : decode cJ9_min_7cf53 0 = .ok (.iload_n 0, 1) := by decide +kernel
theorem dJ9_min_7cf53_1 : decode cJ9_min_7cf53 1 = .ok (.iload_n 1, 1) := by decide +kernel
theorem dJ9_min_7cf53_2 : decode cJ9_min_7cf53 2 = .ok (.if_icmp .gt 7, 3) := by decide +kernel
theorem dJ9_min_7cf53_5 : decode cJ9_min_7cf53 5 = .ok (.iload_n 0, 1) := by decide +kernel
theorem dJ9_min_7cf53_6 : decode cJ9_min_7cf53 6 = .ok (.goto 4, 3) := by decide +kernel
theorem dJ9_min_7cf53_9 : decode cJ9_min_7cf53 9 = .ok (.iload_n 1, 1) := by decide +kernel
theorem dJ9_min_7cf53_10 : decode cJ9_min_7cf53 10 = .ok (.ireturn, 1) := by decide +kernel
theorem dJ0_length_8abf5_0 : decode cJ0_length_8abf5 0 = .ok (.aload_n 0, 1) := by decide +kernel
theorem dJ0_length_8abf5_1 : decode cJ0_length_8abf5 1 = .ok (.getfield 9, 3) := by decide +kernel
theorem dJ0_length_8abf5_4 : decode cJ0_length_8abf5 4 = .ok (.arraylength, 1) := by decide +kernel
theorem dJ0_length_8abf5_5 : decode cJ0_length_8abf5 5 = .ok (.aload_n 0, 1) := by decide +kernel
theorem dJ0_length_8abf5_6 : decode cJ0_length_8abf5 6 = .ok (.invokevirtual 335, 3) := by decide +kernel
theorem dJ0_length_8abf5_9 : decode cJ0_length_8abf5 9 = .ok (.ishr, 1) := by decide +kernel
theorem dJ0_length_8abf5_10 : decode cJ0_length_8abf5 10 = .ok (.ireturn, 1) := by decide +kernel
theorem dJ0_charAt_5068e_0 : decode cJ0_charAt_5068e 0 = .ok (.aload_n 0, 1) := by decide +kernel
theorem dJ0_charAt_5068e_1 : decode cJ0_charAt_5068e 1 = .ok (.invokevirtual 492, 3) := by decide +kernel
theorem dJ0_charAt_5068e_4 : decode cJ0_charAt_5068e 4 = .ok (.ifCond .eq 12, 3) := by decide +kernel
theorem dJ0_charAt_5068e_7 : decode cJ0_charAt_5068e 7 = .ok (.aload_n 0, 1) := by decide +kernel
theorem dJ0_charAt_5068e_8 : decode cJ0_charAt_5068e 8 = .ok (.getfield 9, 3) := by decide +kernel
theorem dJ0_charAt_5068e_11 : decode cJ0_charAt_5068e 11 = .ok (.iload_n 1, 1) := by decide +kernel
theorem dJ0_charAt_5068e_12 : decode cJ0_charAt_5068e 12 = .ok (.invokestatic 495, 3) := by decide +kernel
theorem dJ0_charAt_5068e_15 : decode cJ0_charAt_5068e 15 = .ok (.ireturn, 1) := by decide +kernel
theorem dJ0_charAt_5068e_16 : decode cJ0_charAt_5068e 16 = .ok (.aload_n 0, 1) := by decide +kernel
theorem dJ0_charAt_5068e_17 : decode cJ0_charAt_5068e 17 = .ok (.getfield 9, 3) := by decide +kernel
theorem dJ0_charAt_5068e_20 : decode cJ0_charAt_5068e 20 = .ok (.iload_n 1, 1) := by decide +kernel
theorem dJ0_charAt_5068e_21 : decode cJ0_charAt_5068e 21 = .ok (.invokestatic 498, 3) := by decide +kernel
theorem dJ0_charAt_5068e_24 : decode cJ0_charAt_5068e 24 = .ok (.ireturn, 1) := by decide +kernel
theorem dJ0_coder_7d493_0 : decode cJ0_coder_7d493 0 = .ok (.getstatic 38, 3) := by decide +kernel
theorem dJ0_coder_7d493_3 : decode cJ0_coder_7d493 3 = .ok (.ifCond .eq 10, 3) := by decide +kernel
theorem dJ0_coder_7d493_6 : decode cJ0_coder_7d493 6 = .ok (.aload_n 0, 1) := by decide +kernel
theorem dJ0_coder_7d493_7 : decode cJ0_coder_7d493 7 = .ok (.getfield 15, 3) := by decide +kernel
theorem dJ0_coder_7d493_10 : decode cJ0_coder_7d493 10 = .ok (.goto 4, 3) := by decide +kernel
theorem dJ0_coder_7d493_13 : decode cJ0_coder_7d493 13 = .ok (.iconst 1, 1) := by decide +kernel
theorem dJ0_coder_7d493_14 : decode cJ0_coder_7d493 14 = .ok (.ireturn, 1) := by decide +kernel
theorem dJ0_isLatin1_aae02_0 : decode cJ0_isLatin1_aae02 0 = .ok (.getstatic 38, 3) := by decide +kernel
theorem dJ0_isLatin1_aae02_3 : decode cJ0_isLatin1_aae02 3 = .ok (.ifCond .eq 14, 3) := by decide +kernel
theorem dJ0_isLatin1_aae02_6 : decode cJ0_isLatin1_aae02 6 = .ok (.aload_n 0, 1) := by decide +kernel
theorem dJ0_isLatin1_aae02_7 : decode cJ0_isLatin1_aae02 7 = .ok (.getfield 15, 3) := by decide +kernel
theorem dJ0_isLatin1_aae02_10 : decode cJ0_isLatin1_aae02 10 = .ok (.ifCond .ne 7, 3) := by decide +kernel
theorem dJ0_isLatin1_aae02_13 : decode cJ0_isLatin1_aae02 13 = .ok (.iconst 1, 1) := by decide +kernel
theorem dJ0_isLatin1_aae02_14 : decode cJ0_isLatin1_aae02 14 = .ok (.goto 4, 3) := by decide +kernel
theorem dJ0_isLatin1_aae02_17 : decode cJ0_isLatin1_aae02 17 = .ok (.iconst 0, 1) := by decide +kernel
theorem dJ0_isLatin1_aae02_18 : decode cJ0_isLatin1_aae02 18 = .ok (.ireturn, 1) := by decide +kernel
theorem dJ0_checkIndex_df160_0 : decode cJ0_checkIndex_df160 0 = .ok (.iload_n 0, 1) := by decide +kernel
theorem dJ0_checkIndex_df160_1 : decode cJ0_checkIndex_df160 1 = .ok (.iload_n 1, 1) := by decide +kernel
theorem dJ0_checkIndex_df160_2 : decode cJ0_checkIndex_df160 2 = .ok (.getstatic 1053, 3) := by decide +kernel
theorem dJ0_checkIndex_df160_5 : decode cJ0_checkIndex_df160 5 = .ok (.invokestatic 1059, 3) := by decide +kernel
theorem dJ0_checkIndex_df160_8 : decode cJ0_checkIndex_df160 8 = .ok (.pop, 1) := by decide +kernel
theorem dJ0_checkIndex_df160_9 : decode cJ0_checkIndex_df160 9 = .ok (.return_, 1) := by decide +kernel
theorem dJ1_charAt_3b067_0 : decode cJ1_charAt_3b067 0 = .ok (.iload_n 1, 1) := by decide +kernel
theorem dJ1_charAt_3b067_1 : decode cJ1_charAt_3b067 1 = .ok (.aload_n 0, 1) := by decide +kernel
theorem dJ1_charAt_3b067_2 : decode cJ1_charAt_3b067 2 = .ok (.arraylength, 1) := by decide +kernel
theorem dJ1_charAt_3b067_3 : decode cJ1_charAt_3b067 3 = .ok (.invokestatic 9, 3) := by decide +kernel
theorem dJ1_charAt_3b067_6 : decode cJ1_charAt_3b067 6 = .ok (.aload_n 0, 1) := by decide +kernel
theorem dJ1_charAt_3b067_7 : decode cJ1_charAt_3b067 7 = .ok (.iload_n 1, 1) := by decide +kernel
theorem dJ1_charAt_3b067_8 : decode cJ1_charAt_3b067 8 = .ok (.baload, 1) := by decide +kernel
theorem dJ1_charAt_3b067_9 : decode cJ1_charAt_3b067 9 = .ok (.sipush 255, 3) := by decide +kernel
theorem dJ1_charAt_3b067_12 : decode cJ1_charAt_3b067 12 = .ok (.iand, 1) := by decide +kernel
theorem dJ1_charAt_3b067_13 : decode cJ1_charAt_3b067 13 = .ok (.i2c, 1) := by decide +kernel
theorem dJ1_charAt_3b067_14 : decode cJ1_charAt_3b067 14 = .ok (.ireturn, 1) := by decide +kernel
theorem dJ2_getChar_3b067_0 : decode cJ2_getChar_3b067 0 = .ok (.getstatic 44, 3) := by decide +kernel
theorem dJ2_getChar_3b067_3 : decode cJ2_getChar_3b067 3 = .ok (.ifCond .ne 25, 3) := by decide +kernel
theorem dJ2_getChar_3b067_6 : decode cJ2_getChar_3b067 6 = .ok (.iload_n 1, 1) := by decide +kernel
theorem dJ2_getChar_3b067_7 : decode cJ2_getChar_3b067 7 = .ok (.ifCond .lt 11, 3) := by decide +kernel
theorem dJ2_getChar_3b067_10 : decode cJ2_getChar_3b067 10 = .ok (.iload_n 1, 1) := by decide +kernel
theorem dJ2_getChar_3b067_11 : decode cJ2_getChar_3b067 11 = .ok (.aload_n 0, 1) := by decide +kernel
theorem dJ2_getChar_3b067_12 : decode cJ2_getChar_3b067 12 = .ok (.invokestatic 48, 3) := by decide +kernel
theorem dJ2_getChar_3b067_15 : decode cJ2_getChar_3b067 15 = .ok (.if_icmp .lt 13, 3) := by decide +kernel
theorem dJ2_getChar_3b067_18 : decode cJ2_getChar_3b067 18 = .ok (.new 52, 3) := by decide +kernel
theorem dJ2_getChar_3b067_21 : decode cJ2_getChar_3b067 21 = .ok (.dup, 1) := by decide +kernel
theorem dJ2_getChar_3b067_22 : decode cJ2_getChar_3b067 22 = .ok (.ldc 54, 2) := by decide +kernel
theorem dJ2_getChar_3b067_24 : decode cJ2_getChar_3b067 24 = .ok (.invokespecial 56, 3) := by decide +kernel
theorem dJ2_getChar_3b067_27 : decode cJ2_getChar_3b067 27 = .ok (.athrow, 1) := by decide +kernel
theorem dJ2_getChar_3b067_28 : decode cJ2_getChar_3b067 28 = .ok (.iload_n 1, 1) := by decide +kernel
theorem dJ2_getChar_3b067_29 : decode cJ2_getChar_3b067 29 = .ok (.iconst 1, 1) := by decide +kernel
theorem dJ2_getChar_3b067_30 : decode cJ2_getChar_3b067 30 = .ok (.ishl, 1) := by decide +kernel
theorem dJ2_getChar_3b067_31 : decode cJ2_getChar_3b067 31 = .ok (.istore_n 1, 1) := by decide +kernel
theorem dJ2_getChar_3b067_32 : decode cJ2_getChar_3b067 32 = .ok (.aload_n 0, 1) := by decide +kernel
theorem dJ2_getChar_3b067_33 : decode cJ2_getChar_3b067 33 = .ok (.iload_n 1, 1) := by decide +kernel
theorem dJ2_getChar_3b067_34 : decode cJ2_getChar_3b067 34 = .ok (.iinc 1 1, 3) := by decide +kernel
theorem dJ2_getChar_3b067_37 : decode cJ2_getChar_3b067 37 = .ok (.baload, 1) := by decide +kernel
theorem dJ2_getChar_3b067_38 : decode cJ2_getChar_3b067 38 = .ok (.sipush 255, 3) := by decide +kernel
theorem dJ2_getChar_3b067_41 : decode cJ2_getChar_3b067 41 = .ok (.iand, 1) := by decide +kernel
theorem dJ2_getChar_3b067_42 : decode cJ2_getChar_3b067 42 = .ok (.getstatic 59, 3) := by decide +kernel
theorem dJ2_getChar_3b067_45 : decode cJ2_getChar_3b067 45 = .ok (.ishl, 1) := by decide +kernel
theorem dJ2_getChar_3b067_46 : decode cJ2_getChar_3b067 46 = .ok (.aload_n 0, 1) := by decide +kernel
theorem dJ2_getChar_3b067_47 : decode cJ2_getChar_3b067 47 = .ok (.iload_n 1, 1) := by decide +kernel
theorem dJ2_getChar_3b067_48 : decode cJ2_getChar_3b067 48 = .ok (.baload, 1) := by decide +kernel
theorem dJ2_getChar_3b067_49 : decode cJ2_getChar_3b067 49 = .ok (.sipush 255, 3) := by decide +kernel
theorem dJ2_getChar_3b067_52 : decode cJ2_getChar_3b067 52 = .ok (.iand, 1) := by decide +kernel
theorem dJ2_getChar_3b067_53 : decode cJ2_getChar_3b067 53 = .ok (.getstatic 63, 3) := by decide +kernel
theorem dJ2_getChar_3b067_56 : decode cJ2_getChar_3b067 56 = .ok (.ishl, 1) := by decide +kernel
theorem dJ2_getChar_3b067_57 : decode cJ2_getChar_3b067 57 = .ok (.ior, 1) := by decide +kernel
theorem dJ2_getChar_3b067_58 : decode cJ2_getChar_3b067 58 = .ok (.i2c, 1) := by decide +kernel
theorem dJ2_getChar_3b067_59 : decode cJ2_getChar_3b067 59 = .ok (.ireturn, 1) := by decide +kernel
theorem dJ2_length_9d52b_0 : decode cJ2_length_9d52b 0 = .ok (.aload_n 0, 1) := by decide +kernel
theorem dJ2_length_9d52b_1 : decode cJ2_length_9d52b 1 = .ok (.arraylength, 1) := by decide +kernel
theorem dJ2_length_9d52b_2 : decode cJ2_length_9d52b 2 = .ok (.iconst 1, 1) := by decide +kernel
theorem dJ2_length_9d52b_3 : decode cJ2_length_9d52b 3 = .ok (.ishr, 1) := by decide +kernel
theorem dJ2_length_9d52b_4 : decode cJ2_length_9d52b 4 = .ok (.ireturn, 1) := by decide +kernel
theorem dJ2_charAt_3b067_0 : decode cJ2_charAt_3b067 0 = .ok (.iload_n 1, 1) := by decide +kernel
theorem dJ2_charAt_3b067_1 : decode cJ2_charAt_3b067 1 = .ok (.aload_n 0, 1) := by decide +kernel
theorem dJ2_charAt_3b067_2 : decode cJ2_charAt_3b067 2 = .ok (.invokestatic 67, 3) := by decide +kernel
theorem dJ2_charAt_3b067_5 : decode cJ2_charAt_3b067 5 = .ok (.aload_n 0, 1) := by decide +kernel
theorem dJ2_charAt_3b067_6 : decode cJ2_charAt_3b067 6 = .ok (.iload_n 1, 1) := by decide +kernel
theorem dJ2_charAt_3b067_7 : decode cJ2_charAt_3b067 7 = .ok (.invokestatic 71, 3) := by decide +kernel
theorem dJ2_charAt_3b067_10 : decode cJ2_charAt_3b067 10 = .ok (.ireturn, 1) := by decide +kernel
theorem dJ2_checkIndex_2214a_0 : decode cJ2_checkIndex_2214a 0 = .ok (.iload_n 0, 1) := by decide +kernel
theorem dJ2_checkIndex_2214a_1 : decode cJ2_checkIndex_2214a 1 = .ok (.aload_n 1, 1) := by decide +kernel
theorem dJ2_checkIndex_2214a_2 : decode cJ2_checkIndex_2214a 2 = .ok (.invokestatic 48, 3) := by decide +kernel
theorem dJ2_checkIndex_2214a_5 : decode cJ2_checkIndex_2214a 5 = .ok (.invokestatic 414, 3) := by decide +kernel
theorem dJ2_checkIndex_2214a_8 : decode cJ2_checkIndex_2214a 8 = .ok (.return_, 1) := by decide +kernel
theorem dJ7_fill_d0a16_0 : decode cJ7_fill_d0a16 0 = .ok (.iconst 0, 1) := by decide +kernel
theorem dJ7_fill_d0a16_1 : decode cJ7_fill_d0a16 1 = .ok (.istore_n 3, 1) := by decide +kernel
theorem dJ7_fill_d0a16_2 : decode cJ7_fill_d0a16 2 = .ok (.aload_n 0, 1) := by decide +kernel
theorem dJ7_fill_d0a16_3 : decode cJ7_fill_d0a16 3 = .ok (.arraylength, 1) := by decide +kernel
theorem dJ7_fill_d0a16_4 : decode cJ7_fill_d0a16 4 = .ok (.istore 4, 2) := by decide +kernel
theorem dJ7_fill_d0a16_6 : decode cJ7_fill_d0a16 6 = .ok (.iload_n 3, 1) := by decide +kernel
theorem dJ7_fill_d0a16_7 : decode cJ7_fill_d0a16 7 = .ok (.iload 4, 2) := by decide +kernel
theorem dJ7_fill_d0a16_9 : decode cJ7_fill_d0a16 9 = .ok (.if_icmp .ge 13, 3) := by decide +kernel
theorem dJ7_fill_d0a16_12 : decode cJ7_fill_d0a16 12 = .ok (.aload_n 0, 1) := by decide +kernel
theorem dJ7_fill_d0a16_13 : decode cJ7_fill_d0a16 13 = .ok (.iload_n 3, 1) := by decide +kernel
theorem dJ7_fill_d0a16_14 : decode cJ7_fill_d0a16 14 = .ok (.lload_n 1, 1) := by decide +kernel
theorem dJ7_fill_d0a16_15 : decode cJ7_fill_d0a16 15 = .ok (.lastore, 1) := by decide +kernel
theorem dJ7_fill_d0a16_16 : decode cJ7_fill_d0a16 16 = .ok (.iinc 3 1, 3) := by decide +kernel
theorem dJ7_fill_d0a16_19 : decode cJ7_fill_d0a16 19 = .ok (.goto (-13), 3) := by decide +kernel
theorem dJ7_fill_d0a16_22 : decode cJ7_fill_d0a16 22 = .ok (.return_, 1) := by decide +kernel
theorem dJ7_fill_53178_0 : decode cJ7_fill_53178 0 = .ok (.iconst 0, 1) := by decide +kernel
theorem dJ7_fill_53178_1 : decode cJ7_fill_53178 1 = .ok (.istore_n 2, 1) := by decide +kernel
theorem dJ7_fill_53178_2 : decode cJ7_fill_53178 2 = .ok (.aload_n 0, 1) := by decide +kernel
theorem dJ7_fill_53178_3 : decode cJ7_fill_53178 3 = .ok (.arraylength, 1) := by decide +kernel
theorem dJ7_fill_53178_4 : decode cJ7_fill_53178 4 = .ok (.istore_n 3, 1) := by decide +kernel
theorem dJ7_fill_53178_5 : decode cJ7_fill_53178 5 = .ok (.iload_n 2, 1) := by decide +kernel
theorem dJ7_fill_53178_6 : decode cJ7_fill_53178 6 = .ok (.iload_n 3, 1) := by decide +kernel
theorem dJ7_fill_53178_7 : decode cJ7_fill_53178 7 = .ok (.if_icmp .ge 13, 3) := by decide +kernel
theorem dJ7_fill_53178_10 : decode cJ7_fill_53178 10 = .ok (.aload_n 0, 1) := by decide +kernel
theorem dJ7_fill_53178_11 : decode cJ7_fill_53178 11 = .ok (.iload_n 2, 1) := by decide +kernel
theorem dJ7_fill_53178_12 : decode cJ7_fill_53178 12 = .ok (.iload_n 1, 1) := by decide +kernel
theorem dJ7_fill_53178_13 : decode cJ7_fill_53178 13 = .ok (.iastore, 1) := by decide +kernel
theorem dJ7_fill_53178_14 : decode cJ7_fill_53178 14 = .ok (.iinc 2 1, 3) := by decide +kernel
theorem dJ7_fill_53178_17 : decode cJ7_fill_53178 17 = .ok (.goto (-12), 3) := by decide +kernel
theorem dJ7_fill_53178_20 : decode cJ7_fill_53178 20 = .ok (.return_, 1) := by decide +kernel
theorem dJ3_checkIndex_8e157_0 : decode cJ3_checkIndex_8e157 0 = .ok (.iload_n 0, 1) := by decide +kernel
theorem dJ3_checkIndex_8e157_1 : decode cJ3_checkIndex_8e157 1 = .ok (.ifCond .lt 8, 3) := by decide +kernel
theorem dJ3_checkIndex_8e157_4 : decode cJ3_checkIndex_8e157 4 = .ok (.iload_n 0, 1) := by decide +kernel
theorem dJ3_checkIndex_8e157_5 : decode cJ3_checkIndex_8e157 5 = .ok (.iload_n 1, 1) := by decide +kernel
theorem dJ3_checkIndex_8e157_6 : decode cJ3_checkIndex_8e157 6 = .ok (.if_icmp .lt 10, 3) := by decide +kernel
theorem dJ3_checkIndex_8e157_9 : decode cJ3_checkIndex_8e157 9 = .ok (.aload_n 2, 1) := by decide +kernel
theorem dJ3_checkIndex_8e157_10 : decode cJ3_checkIndex_8e157 10 = .ok (.iload_n 0, 1) := by decide +kernel
theorem dJ3_checkIndex_8e157_11 : decode cJ3_checkIndex_8e157 11 = .ok (.iload_n 1, 1) := by decide +kernel
theorem dJ3_checkIndex_8e157_12 : decode cJ3_checkIndex_8e157 12 = .ok (.invokestatic 95, 3) := by decide +kernel
theorem dJ3_checkIndex_8e157_15 : decode cJ3_checkIndex_8e157 15 = .ok (.athrow, 1) := by decide +kernel
theorem dJ3_checkIndex_8e157_16 : decode cJ3_checkIndex_8e157 16 = .ok (.iload_n 0, 1) := by decide +kernel
theorem dJ3_checkIndex_8e157_17 : decode cJ3_checkIndex_8e157 17 = .ok (.ireturn, 1) := by decide +kernel
theorem dL_law_0 : decode cL_law 0 = .ok (.new 7, 3) := by decide +kernel
theorem dL_law_3 : decode cL_law 3 = .ok (.dup, 1) := by decide +kernel
theorem dL_law_4 : decode cL_law 4 = .ok (.invokespecial 9, 3) := by decide +kernel
theorem dL_law_7 : decode cL_law 7 = .ok (.astore_n 1, 1) := by decide +kernel
theorem dL_law_8 : decode cL_law 8 = .ok (.new 10, 3) := by decide +kernel
theorem dL_law_11 : decode cL_law 11 = .ok (.dup, 1) := by decide +kernel
theorem dL_law_12 : decode cL_law 12 = .ok (.invokespecial 12, 3) := by decide +kernel
theorem dL_law_15 : decode cL_law 15 = .ok (.astore_n 2, 1) := by decide +kernel
theorem dL_law_16 : decode cL_law 16 = .ok (.iconst 0, 1) := by decide +kernel
theorem dL_law_17 : decode cL_law 17 = .ok (.istore_n 3, 1) := by decide +kernel
theorem dL_law_18 : decode cL_law 18 = .ok (.iload_n 3, 1) := by decide +kernel
theorem dL_law_19 : decode cL_law 19 = .ok (.aload_n 0, 1) := by decide +kernel
theorem dL_law_20 : decode cL_law 20 = .ok (.arraylength, 1) := by decide +kernel
theorem dL_law_21 : decode cL_law 21 = .ok (.bipush 6, 2) := by decide +kernel
theorem dL_law_23 : decode cL_law 23 = .ok (.isub, 1) := by decide +kernel
theorem dL_law_24 : decode cL_law 24 = .ok (.if_icmp .gt 1603, 3) := by decide +kernel
theorem dL_law_27 : decode cL_law 27 = .ok (.aload_n 0, 1) := by decide +kernel
theorem dL_law_28 : decode cL_law 28 = .ok (.iload_n 3, 1) := by decide +kernel
theorem dL_law_29 : decode cL_law 29 = .ok (.iaload, 1) := by decide +kernel
theorem dL_law_30 : decode cL_law 30 = .ok (.bipush 63, 2) := by decide +kernel
theorem dL_law_32 : decode cL_law 32 = .ok (.iand, 1) := by decide +kernel
theorem dL_law_33 : decode cL_law 33 = .ok (.tableswitch 1588 0 49 #[215, 258, 331, 394, 428, 451, 484, 517, 550, 583, 622, 665, 724, 757, 780, 793, 806, 839, 872, 915, 938, 961, 974, 987, 1010, 1033, 1066, 1099, 1132, 1155, 1168, 1191, 1214, 1237, 1270, 1283, 1296, 1309, 1332, 1345, 1368, 1401, 1424, 1457, 1480, 1503, 1516, 1539, 1552, 1565], 215) := by decide +kernel
theorem dL_law_248 : decode cL_law 248 = .ok (.aload_n 1, 1) := by decide +kernel
theorem dL_law_249 : decode cL_law 249 = .ok (.aload_n 0, 1) := by decide +kernel
theorem dL_law_250 : decode cL_law 250 = .ok (.iload_n 3, 1) := by decide +kernel
theorem dL_law_251 : decode cL_law 251 = .ok (.iconst 1, 1) := by decide +kernel
theorem dL_law_252 : decode cL_law 252 = .ok (.iadd, 1) := by decide +kernel
theorem dL_law_253 : decode cL_law 253 = .ok (.iaload, 1) := by decide +kernel
theorem dL_law_254 : decode cL_law 254 = .ok (.aload_n 0, 1) := by decide +kernel
theorem dL_law_255 : decode cL_law 255 = .ok (.iload_n 3, 1) := by decide +kernel
theorem dL_law_256 : decode cL_law 256 = .ok (.iconst 2, 1) := by decide +kernel
theorem dL_law_257 : decode cL_law 257 = .ok (.iadd, 1) := by decide +kernel
theorem dL_law_258 : decode cL_law 258 = .ok (.iaload, 1) := by decide +kernel
theorem dL_law_259 : decode cL_law 259 = .ok (.aload_n 0, 1) := by decide +kernel
theorem dL_law_260 : decode cL_law 260 = .ok (.iload_n 3, 1) := by decide +kernel
theorem dL_law_261 : decode cL_law 261 = .ok (.iconst 3, 1) := by decide +kernel
theorem dL_law_262 : decode cL_law 262 = .ok (.iadd, 1) := by decide +kernel
theorem dL_law_263 : decode cL_law 263 = .ok (.iaload, 1) := by decide +kernel
theorem dL_law_264 : decode cL_law 264 = .ok (.invokevirtual 13, 3) := by decide +kernel
theorem dL_law_267 : decode cL_law 267 = .ok (.aload_n 2, 1) := by decide +kernel
theorem dL_law_268 : decode cL_law 268 = .ok (.aload_n 0, 1) := by decide +kernel
theorem dL_law_269 : decode cL_law 269 = .ok (.iload_n 3, 1) := by decide +kernel
theorem dL_law_270 : decode cL_law 270 = .ok (.iconst 1, 1) := by decide +kernel
theorem dL_law_271 : decode cL_law 271 = .ok (.iadd, 1) := by decide +kernel
theorem dL_law_272 : decode cL_law 272 = .ok (.iaload, 1) := by decide +kernel
theorem dL_law_273 : decode cL_law 273 = .ok (.aload_n 0, 1) := by decide +kernel
theorem dL_law_274 : decode cL_law 274 = .ok (.iload_n 3, 1) := by decide +kernel
theorem dL_law_275 : decode cL_law 275 = .ok (.iconst 2, 1) := by decide +kernel
theorem dL_law_276 : decode cL_law 276 = .ok (.iadd, 1) := by decide +kernel
theorem dL_law_277 : decode cL_law 277 = .ok (.iaload, 1) := by decide +kernel
theorem dL_law_278 : decode cL_law 278 = .ok (.aload_n 0, 1) := by decide +kernel
theorem dL_law_279 : decode cL_law 279 = .ok (.iload_n 3, 1) := by decide +kernel
theorem dL_law_280 : decode cL_law 280 = .ok (.iconst 3, 1) := by decide +kernel
theorem dL_law_281 : decode cL_law 281 = .ok (.iadd, 1) := by decide +kernel
theorem dL_law_282 : decode cL_law 282 = .ok (.iaload, 1) := by decide +kernel
theorem dL_law_283 : decode cL_law 283 = .ok (.invokevirtual 17, 3) := by decide +kernel
theorem dL_law_286 : decode cL_law 286 = .ok (.if_icmp .eq 1335, 3) := by decide +kernel
theorem dL_law_289 : decode cL_law 289 = .ok (.iconst 0, 1) := by decide +kernel
theorem dL_law_290 : decode cL_law 290 = .ok (.ireturn, 1) := by decide +kernel
theorem dL_law_291 : decode cL_law 291 = .ok (.aload_n 1, 1) := by decide +kernel
theorem dL_law_292 : decode cL_law 292 = .ok (.aload_n 0, 1) := by decide +kernel
theorem dL_law_293 : decode cL_law 293 = .ok (.iload_n 3, 1) := by decide +kernel
theorem dL_law_294 : decode cL_law 294 = .ok (.iconst 1, 1) := by decide +kernel
theorem dL_law_295 : decode cL_law 295 = .ok (.iadd, 1) := by decide +kernel
theorem dL_law_296 : decode cL_law 296 = .ok (.iaload, 1) := by decide +kernel
theorem dL_law_297 : decode cL_law 297 = .ok (.aload_n 0, 1) := by decide +kernel
theorem dL_law_298 : decode cL_law 298 = .ok (.iload_n 3, 1) := by decide +kernel
theorem dL_law_299 : decode cL_law 299 = .ok (.iconst 2, 1) := by decide +kernel
theorem dL_law_300 : decode cL_law 300 = .ok (.iadd, 1) := by decide +kernel
theorem dL_law_301 : decode cL_law 301 = .ok (.iaload, 1) := by decide +kernel
theorem dL_law_302 : decode cL_law 302 = .ok (.aload_n 0, 1) := by decide +kernel
theorem dL_law_303 : decode cL_law 303 = .ok (.iload_n 3, 1) := by decide +kernel
theorem dL_law_304 : decode cL_law 304 = .ok (.iconst 3, 1) := by decide +kernel
theorem dL_law_305 : decode cL_law 305 = .ok (.iadd, 1) := by decide +kernel
theorem dL_law_306 : decode cL_law 306 = .ok (.iaload, 1) := by decide +kernel
theorem dL_law_307 : decode cL_law 307 = .ok (.i2l, 1) := by decide +kernel
theorem dL_law_308 : decode cL_law 308 = .ok (.bipush 32, 2) := by decide +kernel
theorem dL_law_310 : decode cL_law 310 = .ok (.lshl, 1) := by decide +kernel
theorem dL_law_311 : decode cL_law 311 = .ok (.aload_n 0, 1) := by decide +kernel
theorem dL_law_312 : decode cL_law 312 = .ok (.iload_n 3, 1) := by decide +kernel
theorem dL_law_313 : decode cL_law 313 = .ok (.iconst 4, 1) := by decide +kernel
theorem dL_law_314 : decode cL_law 314 = .ok (.iadd, 1) := by decide +kernel
theorem dL_law_315 : decode cL_law 315 = .ok (.iaload, 1) := by decide +kernel
theorem dL_law_316 : decode cL_law 316 = .ok (.i2l, 1) := by decide +kernel
theorem dL_law_317 : decode cL_law 317 = .ok (.ldc2_w 18, 3) := by decide +kernel
theorem dL_law_320 : decode cL_law 320 = .ok (.land, 1) := by decide +kernel
theorem dL_law_321 : decode cL_law 321 = .ok (.lor, 1) := by decide +kernel
theorem dL_law_322 : decode cL_law 322 = .ok (.invokevirtual 20, 3) := by decide +kernel
theorem dL_law_325 : decode cL_law 325 = .ok (.aload_n 2, 1) := by decide +kernel
theorem dL_law_326 : decode cL_law 326 = .ok (.aload_n 0, 1) := by decide +kernel
theorem dL_law_327 : decode cL_law 327 = .ok (.iload_n 3, 1) := by decide +kernel
theorem dL_law_328 : decode cL_law 328 = .ok (.iconst 1, 1) := by decide +kernel
theorem dL_law_329 : decode cL_law 329 = .ok (.iadd, 1) := by decide +kernel
theorem dL_law_330 : decode cL_law 330 = .ok (.iaload, 1) := by decide +kernel
theorem dL_law_331 : decode cL_law 331 = .ok (.aload_n 0, 1) := by decide +kernel
theorem dL_law_332 : decode cL_law 332 = .ok (.iload_n 3, 1) := by decide +kernel
theorem dL_law_333 : decode cL_law 333 = .ok (.iconst 2, 1) := by decide +kernel
theorem dL_law_334 : decode cL_law 334 = .ok (.iadd, 1) := by decide +kernel
theorem dL_law_335 : decode cL_law 335 = .ok (.iaload, 1) := by decide +kernel
theorem dL_law_336 : decode cL_law 336 = .ok (.aload_n 0, 1) := by decide +kernel
theorem dL_law_337 : decode cL_law 337 = .ok (.iload_n 3, 1) := by decide +kernel
theorem dL_law_338 : decode cL_law 338 = .ok (.iconst 3, 1) := by decide +kernel
theorem dL_law_339 : decode cL_law 339 = .ok (.iadd, 1) := by decide +kernel
theorem dL_law_340 : decode cL_law 340 = .ok (.iaload, 1) := by decide +kernel
theorem dL_law_341 : decode cL_law 341 = .ok (.i2l, 1) := by decide +kernel
theorem dL_law_342 : decode cL_law 342 = .ok (.bipush 32, 2) := by decide +kernel
theorem dL_law_344 : decode cL_law 344 = .ok (.lshl, 1) := by decide +kernel
theorem dL_law_345 : decode cL_law 345 = .ok (.aload_n 0, 1) := by decide +kernel
theorem dL_law_346 : decode cL_law 346 = .ok (.iload_n 3, 1) := by decide +kernel
theorem dL_law_347 : decode cL_law 347 = .ok (.iconst 4, 1) := by decide +kernel
theorem dL_law_348 : decode cL_law 348 = .ok (.iadd, 1) := by decide +kernel
theorem dL_law_349 : decode cL_law 349 = .ok (.iaload, 1) := by decide +kernel
theorem dL_law_350 : decode cL_law 350 = .ok (.i2l, 1) := by decide +kernel
theorem dL_law_351 : decode cL_law 351 = .ok (.ldc2_w 18, 3) := by decide +kernel
theorem dL_law_354 : decode cL_law 354 = .ok (.land, 1) := by decide +kernel
theorem dL_law_355 : decode cL_law 355 = .ok (.lor, 1) := by decide +kernel
theorem dL_law_356 : decode cL_law 356 = .ok (.invokevirtual 24, 3) := by decide +kernel
theorem dL_law_359 : decode cL_law 359 = .ok (.if_icmp .eq 1262, 3) := by decide +kernel
theorem dL_law_362 : decode cL_law 362 = .ok (.iconst 0, 1) := by decide +kernel
theorem dL_law_363 : decode cL_law 363 = .ok (.ireturn, 1) := by decide +kernel
theorem dL_law_364 : decode cL_law 364 = .ok (.aload_n 1, 1) := by decide +kernel
theorem dL_law_365 : decode cL_law 365 = .ok (.aload_n 0, 1) := by decide +kernel
theorem dL_law_366 : decode cL_law 366 = .ok (.iload_n 3, 1) := by decide +kernel
theorem dL_law_367 : decode cL_law 367 = .ok (.iconst 1, 1) := by decide +kernel
theorem dL_law_368 : decode cL_law 368 = .ok (.iadd, 1) := by decide +kernel
theorem dL_law_369 : decode cL_law 369 = .ok (.iaload, 1) := by decide +kernel
theorem dL_law_370 : decode cL_law 370 = .ok (.aload_n 0, 1) := by decide +kernel
theorem dL_law_371 : decode cL_law 371 = .ok (.iload_n 3, 1) := by decide +kernel
theorem dL_law_372 : decode cL_law 372 = .ok (.iconst 2, 1) := by decide +kernel
theorem dL_law_373 : decode cL_law 373 = .ok (.iadd, 1) := by decide +kernel
theorem dL_law_374 : decode cL_law 374 = .ok (.iaload, 1) := by decide +kernel
theorem dL_law_375 : decode cL_law 375 = .ok (.aload_n 0, 1) := by decide +kernel
theorem dL_law_376 : decode cL_law 376 = .ok (.iload_n 3, 1) := by decide +kernel
theorem dL_law_377 : decode cL_law 377 = .ok (.iconst 3, 1) := by decide +kernel
theorem dL_law_378 : decode cL_law 378 = .ok (.iadd, 1) := by decide +kernel
theorem dL_law_379 : decode cL_law 379 = .ok (.iaload, 1) := by decide +kernel
theorem dL_law_380 : decode cL_law 380 = .ok (.aload_n 0, 1) := by decide +kernel
theorem dL_law_381 : decode cL_law 381 = .ok (.iload_n 3, 1) := by decide +kernel
theorem dL_law_382 : decode cL_law 382 = .ok (.iconst 4, 1) := by decide +kernel
theorem dL_law_383 : decode cL_law 383 = .ok (.iadd, 1) := by decide +kernel
theorem dL_law_384 : decode cL_law 384 = .ok (.iaload, 1) := by decide +kernel
theorem dL_law_385 : decode cL_law 385 = .ok (.aload_n 0, 1) := by decide +kernel
theorem dL_law_386 : decode cL_law 386 = .ok (.iload_n 3, 1) := by decide +kernel
theorem dL_law_387 : decode cL_law 387 = .ok (.iconst 5, 1) := by decide +kernel
theorem dL_law_388 : decode cL_law 388 = .ok (.iadd, 1) := by decide +kernel
theorem dL_law_389 : decode cL_law 389 = .ok (.iaload, 1) := by decide +kernel
theorem dL_law_390 : decode cL_law 390 = .ok (.invokevirtual 25, 3) := by decide +kernel
theorem dL_law_393 : decode cL_law 393 = .ok (.aload_n 2, 1) := by decide +kernel
theorem dL_law_394 : decode cL_law 394 = .ok (.aload_n 0, 1) := by decide +kernel
theorem dL_law_395 : decode cL_law 395 = .ok (.iload_n 3, 1) := by decide +kernel
theorem dL_law_396 : decode cL_law 396 = .ok (.iconst 1, 1) := by decide +kernel
theorem dL_law_397 : decode cL_law 397 = .ok (.iadd, 1) := by decide +kernel
theorem dL_law_398 : decode cL_law 398 = .ok (.iaload, 1) := by decide +kernel
theorem dL_law_399 : decode cL_law 399 = .ok (.aload_n 0, 1) := by decide +kernel
theorem dL_law_400 : decode cL_law 400 = .ok (.iload_n 3, 1) := by decide +kernel
theorem dL_law_401 : decode cL_law 401 = .ok (.iconst 2, 1) := by decide +kernel
theorem dL_law_402 : decode cL_law 402 = .ok (.iadd, 1) := by decide +kernel
theorem dL_law_403 : decode cL_law 403 = .ok (.iaload, 1) := by decide +kernel
theorem dL_law_404 : decode cL_law 404 = .ok (.aload_n 0, 1) := by decide +kernel
theorem dL_law_405 : decode cL_law 405 = .ok (.iload_n 3, 1) := by decide +kernel
theorem dL_law_406 : decode cL_law 406 = .ok (.iconst 3, 1) := by decide +kernel
theorem dL_law_407 : decode cL_law 407 = .ok (.iadd, 1) := by decide +kernel
theorem dL_law_408 : decode cL_law 408 = .ok (.iaload, 1) := by decide +kernel
theorem dL_law_409 : decode cL_law 409 = .ok (.aload_n 0, 1) := by decide +kernel
theorem dL_law_410 : decode cL_law 410 = .ok (.iload_n 3, 1) := by decide +kernel
theorem dL_law_411 : decode cL_law 411 = .ok (.iconst 4, 1) := by decide +kernel
theorem dL_law_412 : decode cL_law 412 = .ok (.iadd, 1) := by decide +kernel
theorem dL_law_413 : decode cL_law 413 = .ok (.iaload, 1) := by decide +kernel
theorem dL_law_414 : decode cL_law 414 = .ok (.aload_n 0, 1) := by decide +kernel
theorem dL_law_415 : decode cL_law 415 = .ok (.iload_n 3, 1) := by decide +kernel
theorem dL_law_416 : decode cL_law 416 = .ok (.iconst 5, 1) := by decide +kernel
theorem dL_law_417 : decode cL_law 417 = .ok (.iadd, 1) := by decide +kernel
theorem dL_law_418 : decode cL_law 418 = .ok (.iaload, 1) := by decide +kernel
theorem dL_law_419 : decode cL_law 419 = .ok (.invokevirtual 29, 3) := by decide +kernel
theorem dL_law_422 : decode cL_law 422 = .ok (.if_icmp .eq 1199, 3) := by decide +kernel
theorem dL_law_425 : decode cL_law 425 = .ok (.iconst 0, 1) := by decide +kernel
theorem dL_law_426 : decode cL_law 426 = .ok (.ireturn, 1) := by decide +kernel
theorem dL_law_427 : decode cL_law 427 = .ok (.aload_n 1, 1) := by decide +kernel
theorem dL_law_428 : decode cL_law 428 = .ok (.aload_n 0, 1) := by decide +kernel
theorem dL_law_429 : decode cL_law 429 = .ok (.iload_n 3, 1) := by decide +kernel
theorem dL_law_430 : decode cL_law 430 = .ok (.iconst 1, 1) := by decide +kernel
theorem dL_law_431 : decode cL_law 431 = .ok (.iadd, 1) := by decide +kernel
theorem dL_law_432 : decode cL_law 432 = .ok (.iaload, 1) := by decide +kernel
theorem dL_law_433 : decode cL_law 433 = .ok (.aload_n 0, 1) := by decide +kernel
theorem dL_law_434 : decode cL_law 434 = .ok (.iload_n 3, 1) := by decide +kernel
theorem dL_law_435 : decode cL_law 435 = .ok (.iconst 2, 1) := by decide +kernel
theorem dL_law_436 : decode cL_law 436 = .ok (.iadd, 1) := by decide +kernel
theorem dL_law_437 : decode cL_law 437 = .ok (.iaload, 1) := by decide +kernel
theorem dL_law_438 : decode cL_law 438 = .ok (.invokevirtual 30, 3) := by decide +kernel
theorem dL_law_441 : decode cL_law 441 = .ok (.aload_n 2, 1) := by decide +kernel
theorem dL_law_442 : decode cL_law 442 = .ok (.aload_n 0, 1) := by decide +kernel
theorem dL_law_443 : decode cL_law 443 = .ok (.iload_n 3, 1) := by decide +kernel
theorem dL_law_444 : decode cL_law 444 = .ok (.iconst 1, 1) := by decide +kernel
theorem dL_law_445 : decode cL_law 445 = .ok (.iadd, 1) := by decide +kernel
theorem dL_law_446 : decode cL_law 446 = .ok (.iaload, 1) := by decide +kernel
theorem dL_law_447 : decode cL_law 447 = .ok (.aload_n 0, 1) := by decide +kernel
theorem dL_law_448 : decode cL_law 448 = .ok (.iload_n 3, 1) := by decide +kernel
theorem dL_law_449 : decode cL_law 449 = .ok (.iconst 2, 1) := by decide +kernel
theorem dL_law_450 : decode cL_law 450 = .ok (.iadd, 1) := by decide +kernel
theorem dL_law_451 : decode cL_law 451 = .ok (.iaload, 1) := by decide +kernel
theorem dL_law_452 : decode cL_law 452 = .ok (.invokevirtual 34, 3) := by decide +kernel
theorem dL_law_455 : decode cL_law 455 = .ok (.lcmp, 1) := by decide +kernel
theorem dL_law_456 : decode cL_law 456 = .ok (.ifCond .eq 1165, 3) := by decide +kernel
theorem dL_law_459 : decode cL_law 459 = .ok (.iconst 0, 1) := by decide +kernel
theorem dL_law_460 : decode cL_law 460 = .ok (.ireturn, 1) := by decide +kernel
theorem dL_law_461 : decode cL_law 461 = .ok (.aload_n 1, 1) := by decide +kernel
theorem dL_law_462 : decode cL_law 462 = .ok (.aload_n 0, 1) := by decide +kernel
theorem dL_law_463 : decode cL_law 463 = .ok (.iload_n 3, 1) := by decide +kernel
theorem dL_law_464 : decode cL_law 464 = .ok (.iconst 1, 1) := by decide +kernel
theorem dL_law_465 : decode cL_law 465 = .ok (.iadd, 1) := by decide +kernel
theorem dL_law_466 : decode cL_law 466 = .ok (.iaload, 1) := by decide +kernel
theorem dL_law_467 : decode cL_law 467 = .ok (.invokevirtual 35, 3) := by decide +kernel
theorem dL_law_470 : decode cL_law 470 = .ok (.aload_n 2, 1) := by decide +kernel
theorem dL_law_471 : decode cL_law 471 = .ok (.aload_n 0, 1) := by decide +kernel
theorem dL_law_472 : decode cL_law 472 = .ok (.iload_n 3, 1) := by decide +kernel
theorem dL_law_473 : decode cL_law 473 = .ok (.iconst 1, 1) := by decide +kernel
theorem dL_law_474 : decode cL_law 474 = .ok (.iadd, 1) := by decide +kernel
theorem dL_law_475 : decode cL_law 475 = .ok (.iaload, 1) := by decide +kernel
theorem dL_law_476 : decode cL_law 476 = .ok (.invokevirtual 39, 3) := by decide +kernel
theorem dL_law_479 : decode cL_law 479 = .ok (.if_icmp .eq 1142, 3) := by decide +kernel
theorem dL_law_482 : decode cL_law 482 = .ok (.iconst 0, 1) := by decide +kernel
theorem dL_law_483 : decode cL_law 483 = .ok (.ireturn, 1) := by decide +kernel
theorem dL_law_484 : decode cL_law 484 = .ok (.aload_n 1, 1) := by decide +kernel
theorem dL_law_485 : decode cL_law 485 = .ok (.aload_n 0, 1) := by decide +kernel
theorem dL_law_486 : decode cL_law 486 = .ok (.iload_n 3, 1) := by decide +kernel
theorem dL_law_487 : decode cL_law 487 = .ok (.iconst 1, 1) := by decide +kernel
theorem dL_law_488 : decode cL_law 488 = .ok (.iadd, 1) := by decide +kernel
theorem dL_law_489 : decode cL_law 489 = .ok (.iaload, 1) := by decide +kernel
theorem dL_law_490 : decode cL_law 490 = .ok (.aload_n 0, 1) := by decide +kernel
theorem dL_law_491 : decode cL_law 491 = .ok (.iload_n 3, 1) := by decide +kernel
theorem dL_law_492 : decode cL_law 492 = .ok (.iconst 2, 1) := by decide +kernel
theorem dL_law_493 : decode cL_law 493 = .ok (.iadd, 1) := by decide +kernel
theorem dL_law_494 : decode cL_law 494 = .ok (.iaload, 1) := by decide +kernel
theorem dL_law_495 : decode cL_law 495 = .ok (.invokevirtual 40, 3) := by decide +kernel
theorem dL_law_498 : decode cL_law 498 = .ok (.aload_n 2, 1) := by decide +kernel
theorem dL_law_499 : decode cL_law 499 = .ok (.aload_n 0, 1) := by decide +kernel
theorem dL_law_500 : decode cL_law 500 = .ok (.iload_n 3, 1) := by decide +kernel
theorem dL_law_501 : decode cL_law 501 = .ok (.iconst 1, 1) := by decide +kernel
theorem dL_law_502 : decode cL_law 502 = .ok (.iadd, 1) := by decide +kernel
theorem dL_law_503 : decode cL_law 503 = .ok (.iaload, 1) := by decide +kernel
theorem dL_law_504 : decode cL_law 504 = .ok (.aload_n 0, 1) := by decide +kernel
theorem dL_law_505 : decode cL_law 505 = .ok (.iload_n 3, 1) := by decide +kernel
theorem dL_law_506 : decode cL_law 506 = .ok (.iconst 2, 1) := by decide +kernel
theorem dL_law_507 : decode cL_law 507 = .ok (.iadd, 1) := by decide +kernel
theorem dL_law_508 : decode cL_law 508 = .ok (.iaload, 1) := by decide +kernel
theorem dL_law_509 : decode cL_law 509 = .ok (.invokevirtual 44, 3) := by decide +kernel
theorem dL_law_512 : decode cL_law 512 = .ok (.if_icmp .eq 1109, 3) := by decide +kernel
theorem dL_law_515 : decode cL_law 515 = .ok (.iconst 0, 1) := by decide +kernel
theorem dL_law_516 : decode cL_law 516 = .ok (.ireturn, 1) := by decide +kernel
theorem dL_law_517 : decode cL_law 517 = .ok (.aload_n 1, 1) := by decide +kernel
theorem dL_law_518 : decode cL_law 518 = .ok (.aload_n 0, 1) := by decide +kernel
theorem dL_law_519 : decode cL_law 519 = .ok (.iload_n 3, 1) := by decide +kernel
theorem dL_law_520 : decode cL_law 520 = .ok (.iconst 1, 1) := by decide +kernel
theorem dL_law_521 : decode cL_law 521 = .ok (.iadd, 1) := by decide +kernel
theorem dL_law_522 : decode cL_law 522 = .ok (.iaload, 1) := by decide +kernel
theorem dL_law_523 : decode cL_law 523 = .ok (.aload_n 0, 1) := by decide +kernel
theorem dL_law_524 : decode cL_law 524 = .ok (.iload_n 3, 1) := by decide +kernel
theorem dL_law_525 : decode cL_law 525 = .ok (.iconst 2, 1) := by decide +kernel
theorem dL_law_526 : decode cL_law 526 = .ok (.iadd, 1) := by decide +kernel
theorem dL_law_527 : decode cL_law 527 = .ok (.iaload, 1) := by decide +kernel
theorem dL_law_528 : decode cL_law 528 = .ok (.invokevirtual 45, 3) := by decide +kernel
theorem dL_law_531 : decode cL_law 531 = .ok (.aload_n 2, 1) := by decide +kernel
theorem dL_law_532 : decode cL_law 532 = .ok (.aload_n 0, 1) := by decide +kernel
theorem dL_law_533 : decode cL_law 533 = .ok (.iload_n 3, 1) := by decide +kernel
theorem dL_law_534 : decode cL_law 534 = .ok (.iconst 1, 1) := by decide +kernel
theorem dL_law_535 : decode cL_law 535 = .ok (.iadd, 1) := by decide +kernel
theorem dL_law_536 : decode cL_law 536 = .ok (.iaload, 1) := by decide +kernel
theorem dL_law_537 : decode cL_law 537 = .ok (.aload_n 0, 1) := by decide +kernel
theorem dL_law_538 : decode cL_law 538 = .ok (.iload_n 3, 1) := by decide +kernel
theorem dL_law_539 : decode cL_law 539 = .ok (.iconst 2, 1) := by decide +kernel
theorem dL_law_540 : decode cL_law 540 = .ok (.iadd, 1) := by decide +kernel
theorem dL_law_541 : decode cL_law 541 = .ok (.iaload, 1) := by decide +kernel
theorem dL_law_542 : decode cL_law 542 = .ok (.invokevirtual 48, 3) := by decide +kernel
theorem dL_law_545 : decode cL_law 545 = .ok (.if_icmp .eq 1076, 3) := by decide +kernel
theorem dL_law_548 : decode cL_law 548 = .ok (.iconst 0, 1) := by decide +kernel
theorem dL_law_549 : decode cL_law 549 = .ok (.ireturn, 1) := by decide +kernel
theorem dL_law_550 : decode cL_law 550 = .ok (.aload_n 1, 1) := by decide +kernel
theorem dL_law_551 : decode cL_law 551 = .ok (.aload_n 0, 1) := by decide +kernel
theorem dL_law_552 : decode cL_law 552 = .ok (.iload_n 3, 1) := by decide +kernel
theorem dL_law_553 : decode cL_law 553 = .ok (.iconst 1, 1) := by decide +kernel
theorem dL_law_554 : decode cL_law 554 = .ok (.iadd, 1) := by decide +kernel
theorem dL_law_555 : decode cL_law 555 = .ok (.iaload, 1) := by decide +kernel
theorem dL_law_556 : decode cL_law 556 = .ok (.aload_n 0, 1) := by decide +kernel
theorem dL_law_557 : decode cL_law 557 = .ok (.iload_n 3, 1) := by decide +kernel
theorem dL_law_558 : decode cL_law 558 = .ok (.iconst 2, 1) := by decide +kernel
theorem dL_law_559 : decode cL_law 559 = .ok (.iadd, 1) := by decide +kernel
theorem dL_law_560 : decode cL_law 560 = .ok (.iaload, 1) := by decide +kernel
theorem dL_law_561 : decode cL_law 561 = .ok (.invokevirtual 49, 3) := by decide +kernel
theorem dL_law_564 : decode cL_law 564 = .ok (.aload_n 2, 1) := by decide +kernel
theorem dL_law_565 : decode cL_law 565 = .ok (.aload_n 0, 1) := by decide +kernel
theorem dL_law_566 : decode cL_law 566 = .ok (.iload_n 3, 1) := by decide +kernel
theorem dL_law_567 : decode cL_law 567 = .ok (.iconst 1, 1) := by decide +kernel
theorem dL_law_568 : decode cL_law 568 = .ok (.iadd, 1) := by decide +kernel
theorem dL_law_569 : decode cL_law 569 = .ok (.iaload, 1) := by decide +kernel
theorem dL_law_570 : decode cL_law 570 = .ok (.aload_n 0, 1) := by decide +kernel
theorem dL_law_571 : decode cL_law 571 = .ok (.iload_n 3, 1) := by decide +kernel
theorem dL_law_572 : decode cL_law 572 = .ok (.iconst 2, 1) := by decide +kernel
theorem dL_law_573 : decode cL_law 573 = .ok (.iadd, 1) := by decide +kernel
theorem dL_law_574 : decode cL_law 574 = .ok (.iaload, 1) := by decide +kernel
theorem dL_law_575 : decode cL_law 575 = .ok (.invokevirtual 52, 3) := by decide +kernel
theorem dL_law_578 : decode cL_law 578 = .ok (.if_icmp .eq 1043, 3) := by decide +kernel
theorem dL_law_581 : decode cL_law 581 = .ok (.iconst 0, 1) := by decide +kernel
theorem dL_law_582 : decode cL_law 582 = .ok (.ireturn, 1) := by decide +kernel
theorem dL_law_583 : decode cL_law 583 = .ok (.aload_n 1, 1) := by decide +kernel
theorem dL_law_584 : decode cL_law 584 = .ok (.aload_n 0, 1) := by decide +kernel
theorem dL_law_585 : decode cL_law 585 = .ok (.iload_n 3, 1) := by decide +kernel
theorem dL_law_586 : decode cL_law 586 = .ok (.iconst 1, 1) := by decide +kernel
theorem dL_law_587 : decode cL_law 587 = .ok (.iadd, 1) := by decide +kernel
theorem dL_law_588 : decode cL_law 588 = .ok (.iaload, 1) := by decide +kernel
theorem dL_law_589 : decode cL_law 589 = .ok (.aload_n 0, 1) := by decide +kernel
theorem dL_law_590 : decode cL_law 590 = .ok (.iload_n 3, 1) := by decide +kernel
theorem dL_law_591 : decode cL_law 591 = .ok (.iconst 2, 1) := by decide +kernel
theorem dL_law_592 : decode cL_law 592 = .ok (.iadd, 1) := by decide +kernel
theorem dL_law_593 : decode cL_law 593 = .ok (.iaload, 1) := by decide +kernel
theorem dL_law_594 : decode cL_law 594 = .ok (.invokevirtual 53, 3) := by decide +kernel
theorem dL_law_597 : decode cL_law 597 = .ok (.aload_n 2, 1) := by decide +kernel
theorem dL_law_598 : decode cL_law 598 = .ok (.aload_n 0, 1) := by decide +kernel
theorem dL_law_599 : decode cL_law 599 = .ok (.iload_n 3, 1) := by decide +kernel
theorem dL_law_600 : decode cL_law 600 = .ok (.iconst 1, 1) := by decide +kernel
theorem dL_law_601 : decode cL_law 601 = .ok (.iadd, 1) := by decide +kernel
theorem dL_law_602 : decode cL_law 602 = .ok (.iaload, 1) := by decide +kernel
theorem dL_law_603 : decode cL_law 603 = .ok (.aload_n 0, 1) := by decide +kernel
theorem dL_law_604 : decode cL_law 604 = .ok (.iload_n 3, 1) := by decide +kernel
theorem dL_law_605 : decode cL_law 605 = .ok (.iconst 2, 1) := by decide +kernel
theorem dL_law_606 : decode cL_law 606 = .ok (.iadd, 1) := by decide +kernel
theorem dL_law_607 : decode cL_law 607 = .ok (.iaload, 1) := by decide +kernel
theorem dL_law_608 : decode cL_law 608 = .ok (.invokevirtual 56, 3) := by decide +kernel
theorem dL_law_611 : decode cL_law 611 = .ok (.if_icmp .eq 1010, 3) := by decide +kernel
theorem dL_law_614 : decode cL_law 614 = .ok (.iconst 0, 1) := by decide +kernel
theorem dL_law_615 : decode cL_law 615 = .ok (.ireturn, 1) := by decide +kernel
theorem dL_law_616 : decode cL_law 616 = .ok (.aload_n 1, 1) := by decide +kernel
theorem dL_law_617 : decode cL_law 617 = .ok (.aload_n 0, 1) := by decide +kernel
theorem dL_law_618 : decode cL_law 618 = .ok (.iload_n 3, 1) := by decide +kernel
theorem dL_law_619 : decode cL_law 619 = .ok (.iconst 1, 1) := by decide +kernel
theorem dL_law_620 : decode cL_law 620 = .ok (.iadd, 1) := by decide +kernel
theorem dL_law_621 : decode cL_law 621 = .ok (.iaload, 1) := by decide +kernel
theorem dL_law_622 : decode cL_law 622 = .ok (.ifCond .eq 7, 3) := by decide +kernel
theorem dL_law_625 : decode cL_law 625 = .ok (.iconst 1, 1) := by decide +kernel
theorem dL_law_626 : decode cL_law 626 = .ok (.goto 4, 3) := by decide +kernel
theorem dL_law_629 : decode cL_law 629 = .ok (.iconst 0, 1) := by decide +kernel
theorem dL_law_630 : decode cL_law 630 = .ok (.invokevirtual 57, 3) := by decide +kernel
theorem dL_law_633 : decode cL_law 633 = .ok (.aload_n 2, 1) := by decide +kernel
theorem dL_law_634 : decode cL_law 634 = .ok (.aload_n 0, 1) := by decide +kernel
theorem dL_law_635 : decode cL_law 635 = .ok (.iload_n 3, 1) := by decide +kernel
theorem dL_law_636 : decode cL_law 636 = .ok (.iconst 1, 1) := by decide +kernel
theorem dL_law_637 : decode cL_law 637 = .ok (.iadd, 1) := by decide +kernel
theorem dL_law_638 : decode cL_law 638 = .ok (.iaload, 1) := by decide +kernel
theorem dL_law_639 : decode cL_law 639 = .ok (.ifCond .eq 7, 3) := by decide +kernel
theorem dL_law_642 : decode cL_law 642 = .ok (.iconst 1, 1) := by decide +kernel
theorem dL_law_643 : decode cL_law 643 = .ok (.goto 4, 3) := by decide +kernel
theorem dL_law_646 : decode cL_law 646 = .ok (.iconst 0, 1) := by decide +kernel
theorem dL_law_647 : decode cL_law 647 = .ok (.invokevirtual 61, 3) := by decide +kernel
theorem dL_law_650 : decode cL_law 650 = .ok (.if_icmp .eq 971, 3) := by decide +kernel
theorem dL_law_653 : decode cL_law 653 = .ok (.iconst 0, 1) := by decide +kernel
theorem dL_law_654 : decode cL_law 654 = .ok (.ireturn, 1) := by decide +kernel
theorem dL_law_655 : decode cL_law 655 = .ok (.aload_n 1, 1) := by decide +kernel
theorem dL_law_656 : decode cL_law 656 = .ok (.aload_n 0, 1) := by decide +kernel
theorem dL_law_657 : decode cL_law 657 = .ok (.iload_n 3, 1) := by decide +kernel
theorem dL_law_658 : decode cL_law 658 = .ok (.iconst 1, 1) := by decide +kernel
theorem dL_law_659 : decode cL_law 659 = .ok (.iadd, 1) := by decide +kernel
theorem dL_law_660 : decode cL_law 660 = .ok (.iaload, 1) := by decide +kernel
theorem dL_law_661 : decode cL_law 661 = .ok (.aload_n 0, 1) := by decide +kernel
theorem dL_law_662 : decode cL_law 662 = .ok (.iload_n 3, 1) := by decide +kernel
theorem dL_law_663 : decode cL_law 663 = .ok (.iconst 2, 1) := by decide +kernel
theorem dL_law_664 : decode cL_law 664 = .ok (.iadd, 1) := by decide +kernel
theorem dL_law_665 : decode cL_law 665 = .ok (.iaload, 1) := by decide +kernel
theorem dL_law_666 : decode cL_law 666 = .ok (.aload_n 0, 1) := by decide +kernel
theorem dL_law_667 : decode cL_law 667 = .ok (.iload_n 3, 1) := by decide +kernel
theorem dL_law_668 : decode cL_law 668 = .ok (.iconst 3, 1) := by decide +kernel
theorem dL_law_669 : decode cL_law 669 = .ok (.iadd, 1) := by decide +kernel
theorem dL_law_670 : decode cL_law 670 = .ok (.iaload, 1) := by decide +kernel
theorem dL_law_671 : decode cL_law 671 = .ok (.invokevirtual 62, 3) := by decide +kernel
theorem dL_law_674 : decode cL_law 674 = .ok (.aload_n 2, 1) := by decide +kernel
theorem dL_law_675 : decode cL_law 675 = .ok (.aload_n 0, 1) := by decide +kernel
theorem dL_law_676 : decode cL_law 676 = .ok (.iload_n 3, 1) := by decide +kernel
theorem dL_law_677 : decode cL_law 677 = .ok (.iconst 1, 1) := by decide +kernel
theorem dL_law_678 : decode cL_law 678 = .ok (.iadd, 1) := by decide +kernel
theorem dL_law_679 : decode cL_law 679 = .ok (.iaload, 1) := by decide +kernel
theorem dL_law_680 : decode cL_law 680 = .ok (.aload_n 0, 1) := by decide +kernel
theorem dL_law_681 : decode cL_law 681 = .ok (.iload_n 3, 1) := by decide +kernel
theorem dL_law_682 : decode cL_law 682 = .ok (.iconst 2, 1) := by decide +kernel
theorem dL_law_683 : decode cL_law 683 = .ok (.iadd, 1) := by decide +kernel
theorem dL_law_684 : decode cL_law 684 = .ok (.iaload, 1) := by decide +kernel
theorem dL_law_685 : decode cL_law 685 = .ok (.aload_n 0, 1) := by decide +kernel
theorem dL_law_686 : decode cL_law 686 = .ok (.iload_n 3, 1) := by decide +kernel
theorem dL_law_687 : decode cL_law 687 = .ok (.iconst 3, 1) := by decide +kernel
theorem dL_law_688 : decode cL_law 688 = .ok (.iadd, 1) := by decide +kernel
theorem dL_law_689 : decode cL_law 689 = .ok (.iaload, 1) := by decide +kernel
theorem dL_law_690 : decode cL_law 690 = .ok (.invokevirtual 65, 3) := by decide +kernel
theorem dL_law_693 : decode cL_law 693 = .ok (.if_icmp .eq 928, 3) := by decide +kernel
theorem dL_law_696 : decode cL_law 696 = .ok (.iconst 0, 1) := by decide +kernel
theorem dL_law_697 : decode cL_law 697 = .ok (.ireturn, 1) := by decide +kernel
theorem dL_law_698 : decode cL_law 698 = .ok (.aload_n 1, 1) := by decide +kernel
theorem dL_law_699 : decode cL_law 699 = .ok (.aload_n 0, 1) := by decide +kernel
theorem dL_law_700 : decode cL_law 700 = .ok (.iload_n 3, 1) := by decide +kernel
theorem dL_law_701 : decode cL_law 701 = .ok (.iconst 1, 1) := by decide +kernel
theorem dL_law_702 : decode cL_law 702 = .ok (.iadd, 1) := by decide +kernel
theorem dL_law_703 : decode cL_law 703 = .ok (.iaload, 1) := by decide +kernel
theorem dL_law_704 : decode cL_law 704 = .ok (.aload_n 0, 1) := by decide +kernel
theorem dL_law_705 : decode cL_law 705 = .ok (.iload_n 3, 1) := by decide +kernel
theorem dL_law_706 : decode cL_law 706 = .ok (.iconst 2, 1) := by decide +kernel
theorem dL_law_707 : decode cL_law 707 = .ok (.iadd, 1) := by decide +kernel
theorem dL_law_708 : decode cL_law 708 = .ok (.iaload, 1) := by decide +kernel
theorem dL_law_709 : decode cL_law 709 = .ok (.aload_n 0, 1) := by decide +kernel
theorem dL_law_710 : decode cL_law 710 = .ok (.iload_n 3, 1) := by decide +kernel
theorem dL_law_711 : decode cL_law 711 = .ok (.iconst 3, 1) := by decide +kernel
theorem dL_law_712 : decode cL_law 712 = .ok (.iadd, 1) := by decide +kernel
theorem dL_law_713 : decode cL_law 713 = .ok (.iaload, 1) := by decide +kernel
theorem dL_law_714 : decode cL_law 714 = .ok (.ifCond .eq 7, 3) := by decide +kernel
theorem dL_law_717 : decode cL_law 717 = .ok (.iconst 1, 1) := by decide +kernel
theorem dL_law_718 : decode cL_law 718 = .ok (.goto 4, 3) := by decide +kernel
theorem dL_law_721 : decode cL_law 721 = .ok (.iconst 0, 1) := by decide +kernel
theorem dL_law_722 : decode cL_law 722 = .ok (.invokevirtual 66, 3) := by decide +kernel
theorem dL_law_725 : decode cL_law 725 = .ok (.aload_n 2, 1) := by decide +kernel
theorem dL_law_726 : decode cL_law 726 = .ok (.aload_n 0, 1) := by decide +kernel
theorem dL_law_727 : decode cL_law 727 = .ok (.iload_n 3, 1) := by decide +kernel
theorem dL_law_728 : decode cL_law 728 = .ok (.iconst 1, 1) := by decide +kernel
theorem dL_law_729 : decode cL_law 729 = .ok (.iadd, 1) := by decide +kernel
theorem dL_law_730 : decode cL_law 730 = .ok (.iaload, 1) := by decide +kernel
theorem dL_law_731 : decode cL_law 731 = .ok (.aload_n 0, 1) := by decide +kernel
theorem dL_law_732 : decode cL_law 732 = .ok (.iload_n 3, 1) := by decide +kernel
theorem dL_law_733 : decode cL_law 733 = .ok (.iconst 2, 1) := by decide +kernel
theorem dL_law_734 : decode cL_law 734 = .ok (.iadd, 1) := by decide +kernel
theorem dL_law_735 : decode cL_law 735 = .ok (.iaload, 1) := by decide +kernel
theorem dL_law_736 : decode cL_law 736 = .ok (.aload_n 0, 1) := by decide +kernel
theorem dL_law_737 : decode cL_law 737 = .ok (.iload_n 3, 1) := by decide +kernel
theorem dL_law_738 : decode cL_law 738 = .ok (.iconst 3, 1) := by decide +kernel
theorem dL_law_739 : decode cL_law 739 = .ok (.iadd, 1) := by decide +kernel
theorem dL_law_740 : decode cL_law 740 = .ok (.iaload, 1) := by decide +kernel
theorem dL_law_741 : decode cL_law 741 = .ok (.ifCond .eq 7, 3) := by decide +kernel
theorem dL_law_744 : decode cL_law 744 = .ok (.iconst 1, 1) := by decide +kernel
theorem dL_law_745 : decode cL_law 745 = .ok (.goto 4, 3) := by decide +kernel
theorem dL_law_748 : decode cL_law 748 = .ok (.iconst 0, 1) := by decide +kernel
theorem dL_law_749 : decode cL_law 749 = .ok (.invokevirtual 70, 3) := by decide +kernel
theorem dL_law_752 : decode cL_law 752 = .ok (.if_icmp .eq 869, 3) := by decide +kernel
theorem dL_law_755 : decode cL_law 755 = .ok (.iconst 0, 1) := by decide +kernel
theorem dL_law_756 : decode cL_law 756 = .ok (.ireturn, 1) := by decide +kernel
theorem dL_law_757 : decode cL_law 757 = .ok (.aload_n 1, 1) := by decide +kernel
theorem dL_law_758 : decode cL_law 758 = .ok (.aload_n 0, 1) := by decide +kernel
theorem dL_law_759 : decode cL_law 759 = .ok (.iload_n 3, 1) := by decide +kernel
theorem dL_law_760 : decode cL_law 760 = .ok (.iconst 1, 1) := by decide +kernel
theorem dL_law_761 : decode cL_law 761 = .ok (.iadd, 1) := by decide +kernel
theorem dL_law_762 : decode cL_law 762 = .ok (.iaload, 1) := by decide +kernel
theorem dL_law_763 : decode cL_law 763 = .ok (.aload_n 0, 1) := by decide +kernel
theorem dL_law_764 : decode cL_law 764 = .ok (.iload_n 3, 1) := by decide +kernel
theorem dL_law_765 : decode cL_law 765 = .ok (.iconst 2, 1) := by decide +kernel
theorem dL_law_766 : decode cL_law 766 = .ok (.iadd, 1) := by decide +kernel
theorem dL_law_767 : decode cL_law 767 = .ok (.iaload, 1) := by decide +kernel
theorem dL_law_768 : decode cL_law 768 = .ok (.invokevirtual 71, 3) := by decide +kernel
theorem dL_law_771 : decode cL_law 771 = .ok (.aload_n 2, 1) := by decide +kernel
theorem dL_law_772 : decode cL_law 772 = .ok (.aload_n 0, 1) := by decide +kernel
theorem dL_law_773 : decode cL_law 773 = .ok (.iload_n 3, 1) := by decide +kernel
theorem dL_law_774 : decode cL_law 774 = .ok (.iconst 1, 1) := by decide +kernel
theorem dL_law_775 : decode cL_law 775 = .ok (.iadd, 1) := by decide +kernel
theorem dL_law_776 : decode cL_law 776 = .ok (.iaload, 1) := by decide +kernel
theorem dL_law_777 : decode cL_law 777 = .ok (.aload_n 0, 1) := by decide +kernel
theorem dL_law_778 : decode cL_law 778 = .ok (.iload_n 3, 1) := by decide +kernel
theorem dL_law_779 : decode cL_law 779 = .ok (.iconst 2, 1) := by decide +kernel
theorem dL_law_780 : decode cL_law 780 = .ok (.iadd, 1) := by decide +kernel
theorem dL_law_781 : decode cL_law 781 = .ok (.iaload, 1) := by decide +kernel
theorem dL_law_782 : decode cL_law 782 = .ok (.invokevirtual 74, 3) := by decide +kernel
theorem dL_law_785 : decode cL_law 785 = .ok (.if_icmp .eq 836, 3) := by decide +kernel
theorem dL_law_788 : decode cL_law 788 = .ok (.iconst 0, 1) := by decide +kernel
theorem dL_law_789 : decode cL_law 789 = .ok (.ireturn, 1) := by decide +kernel
theorem dL_law_790 : decode cL_law 790 = .ok (.aload_n 1, 1) := by decide +kernel
theorem dL_law_791 : decode cL_law 791 = .ok (.aload_n 0, 1) := by decide +kernel
theorem dL_law_792 : decode cL_law 792 = .ok (.iload_n 3, 1) := by decide +kernel
theorem dL_law_793 : decode cL_law 793 = .ok (.iconst 1, 1) := by decide +kernel
theorem dL_law_794 : decode cL_law 794 = .ok (.iadd, 1) := by decide +kernel
theorem dL_law_795 : decode cL_law 795 = .ok (.iaload, 1) := by decide +kernel
theorem dL_law_796 : decode cL_law 796 = .ok (.invokevirtual 75, 3) := by decide +kernel
theorem dL_law_799 : decode cL_law 799 = .ok (.aload_n 2, 1) := by decide +kernel
theorem dL_law_800 : decode cL_law 800 = .ok (.aload_n 0, 1) := by decide +kernel
theorem dL_law_801 : decode cL_law 801 = .ok (.iload_n 3, 1) := by decide +kernel
theorem dL_law_802 : decode cL_law 802 = .ok (.iconst 1, 1) := by decide +kernel
theorem dL_law_803 : decode cL_law 803 = .ok (.iadd, 1) := by decide +kernel
theorem dL_law_804 : decode cL_law 804 = .ok (.iaload, 1) := by decide +kernel
theorem dL_law_805 : decode cL_law 805 = .ok (.invokevirtual 78, 3) := by decide +kernel
theorem dL_law_808 : decode cL_law 808 = .ok (.if_icmp .eq 813, 3) := by decide +kernel
theorem dL_law_811 : decode cL_law 811 = .ok (.iconst 0, 1) := by decide +kernel
theorem dL_law_812 : decode cL_law 812 = .ok (.ireturn, 1) := by decide +kernel
theorem dL_law_813 : decode cL_law 813 = .ok (.aload_n 1, 1) := by decide +kernel
theorem dL_law_814 : decode cL_law 814 = .ok (.invokevirtual 79, 3) := by decide +kernel
theorem dL_law_817 : decode cL_law 817 = .ok (.aload_n 2, 1) := by decide +kernel
theorem dL_law_818 : decode cL_law 818 = .ok (.invokevirtual 83, 3) := by decide +kernel
theorem dL_law_821 : decode cL_law 821 = .ok (.if_icmp .eq 800, 3) := by decide +kernel
theorem dL_law_824 : decode cL_law 824 = .ok (.iconst 0, 1) := by decide +kernel
theorem dL_law_825 : decode cL_law 825 = .ok (.ireturn, 1) := by decide +kernel
theorem dL_law_826 : decode cL_law 826 = .ok (.aload_n 1, 1) := by decide +kernel
theorem dL_law_827 : decode cL_law 827 = .ok (.invokevirtual 84, 3) := by decide +kernel
theorem dL_law_830 : decode cL_law 830 = .ok (.aload_n 2, 1) := by decide +kernel
theorem dL_law_831 : decode cL_law 831 = .ok (.invokevirtual 87, 3) := by decide +kernel
theorem dL_law_834 : decode cL_law 834 = .ok (.if_icmp .eq 787, 3) := by decide +kernel
theorem dL_law_837 : decode cL_law 837 = .ok (.iconst 0, 1) := by decide +kernel
theorem dL_law_838 : decode cL_law 838 = .ok (.ireturn, 1) := by decide +kernel
theorem dL_law_839 : decode cL_law 839 = .ok (.aload_n 1, 1) := by decide +kernel
theorem dL_law_840 : decode cL_law 840 = .ok (.aload_n 0, 1) := by decide +kernel
theorem dL_law_841 : decode cL_law 841 = .ok (.iload_n 3, 1) := by decide +kernel
theorem dL_law_842 : decode cL_law 842 = .ok (.iconst 1, 1) := by decide +kernel
theorem dL_law_843 : decode cL_law 843 = .ok (.iadd, 1) := by decide +kernel
theorem dL_law_844 : decode cL_law 844 = .ok (.iaload, 1) := by decide +kernel
theorem dL_law_845 : decode cL_law 845 = .ok (.aload_n 0, 1) := by decide +kernel
theorem dL_law_846 : decode cL_law 846 = .ok (.iload_n 3, 1) := by decide +kernel
theorem dL_law_847 : decode cL_law 847 = .ok (.iconst 2, 1) := by decide +kernel
theorem dL_law_848 : decode cL_law 848 = .ok (.iadd, 1) := by decide +kernel
theorem dL_law_849 : decode cL_law 849 = .ok (.iaload, 1) := by decide +kernel
theorem dL_law_850 : decode cL_law 850 = .ok (.invokevirtual 88, 3) := by decide +kernel
theorem dL_law_853 : decode cL_law 853 = .ok (.aload_n 2, 1) := by decide +kernel
theorem dL_law_854 : decode cL_law 854 = .ok (.aload_n 0, 1) := by decide +kernel
theorem dL_law_855 : decode cL_law 855 = .ok (.iload_n 3, 1) := by decide +kernel
theorem dL_law_856 : decode cL_law 856 = .ok (.iconst 1, 1) := by decide +kernel
theorem dL_law_857 : decode cL_law 857 = .ok (.iadd, 1) := by decide +kernel
theorem dL_law_858 : decode cL_law 858 = .ok (.iaload, 1) := by decide +kernel
theorem dL_law_859 : decode cL_law 859 = .ok (.aload_n 0, 1) := by decide +kernel
theorem dL_law_860 : decode cL_law 860 = .ok (.iload_n 3, 1) := by decide +kernel
theorem dL_law_861 : decode cL_law 861 = .ok (.iconst 2, 1) := by decide +kernel
theorem dL_law_862 : decode cL_law 862 = .ok (.iadd, 1) := by decide +kernel
theorem dL_law_863 : decode cL_law 863 = .ok (.iaload, 1) := by decide +kernel
theorem dL_law_864 : decode cL_law 864 = .ok (.invokevirtual 91, 3) := by decide +kernel
theorem dL_law_867 : decode cL_law 867 = .ok (.if_icmp .eq 754, 3) := by decide +kernel
theorem dL_law_870 : decode cL_law 870 = .ok (.iconst 0, 1) := by decide +kernel
theorem dL_law_871 : decode cL_law 871 = .ok (.ireturn, 1) := by decide +kernel
theorem dL_law_872 : decode cL_law 872 = .ok (.aload_n 1, 1) := by decide +kernel
theorem dL_law_873 : decode cL_law 873 = .ok (.aload_n 0, 1) := by decide +kernel
theorem dL_law_874 : decode cL_law 874 = .ok (.iload_n 3, 1) := by decide +kernel
theorem dL_law_875 : decode cL_law 875 = .ok (.iconst 1, 1) := by decide +kernel
theorem dL_law_876 : decode cL_law 876 = .ok (.iadd, 1) := by decide +kernel
theorem dL_law_877 : decode cL_law 877 = .ok (.iaload, 1) := by decide +kernel
theorem dL_law_878 : decode cL_law 878 = .ok (.aload_n 0, 1) := by decide +kernel
theorem dL_law_879 : decode cL_law 879 = .ok (.iload_n 3, 1) := by decide +kernel
theorem dL_law_880 : decode cL_law 880 = .ok (.iconst 2, 1) := by decide +kernel
theorem dL_law_881 : decode cL_law 881 = .ok (.iadd, 1) := by decide +kernel
theorem dL_law_882 : decode cL_law 882 = .ok (.iaload, 1) := by decide +kernel
theorem dL_law_883 : decode cL_law 883 = .ok (.invokevirtual 92, 3) := by decide +kernel
theorem dL_law_886 : decode cL_law 886 = .ok (.aload_n 2, 1) := by decide +kernel
theorem dL_law_887 : decode cL_law 887 = .ok (.aload_n 0, 1) := by decide +kernel
theorem dL_law_888 : decode cL_law 888 = .ok (.iload_n 3, 1) := by decide +kernel
theorem dL_law_889 : decode cL_law 889 = .ok (.iconst 1, 1) := by decide +kernel
theorem dL_law_890 : decode cL_law 890 = .ok (.iadd, 1) := by decide +kernel
theorem dL_law_891 : decode cL_law 891 = .ok (.iaload, 1) := by decide +kernel
theorem dL_law_892 : decode cL_law 892 = .ok (.aload_n 0, 1) := by decide +kernel
theorem dL_law_893 : decode cL_law 893 = .ok (.iload_n 3, 1) := by decide +kernel
theorem dL_law_894 : decode cL_law 894 = .ok (.iconst 2, 1) := by decide +kernel
theorem dL_law_895 : decode cL_law 895 = .ok (.iadd, 1) := by decide +kernel
theorem dL_law_896 : decode cL_law 896 = .ok (.iaload, 1) := by decide +kernel
theorem dL_law_897 : decode cL_law 897 = .ok (.invokevirtual 95, 3) := by decide +kernel
theorem dL_law_900 : decode cL_law 900 = .ok (.if_icmp .eq 721, 3) := by decide +kernel
theorem dL_law_903 : decode cL_law 903 = .ok (.iconst 0, 1) := by decide +kernel
theorem dL_law_904 : decode cL_law 904 = .ok (.ireturn, 1) := by decide +kernel
theorem dL_law_905 : decode cL_law 905 = .ok (.aload_n 1, 1) := by decide +kernel
theorem dL_law_906 : decode cL_law 906 = .ok (.aload_n 0, 1) := by decide +kernel
theorem dL_law_907 : decode cL_law 907 = .ok (.iload_n 3, 1) := by decide +kernel
theorem dL_law_908 : decode cL_law 908 = .ok (.iconst 1, 1) := by decide +kernel
theorem dL_law_909 : decode cL_law 909 = .ok (.iadd, 1) := by decide +kernel
theorem dL_law_910 : decode cL_law 910 = .ok (.iaload, 1) := by decide +kernel
theorem dL_law_911 : decode cL_law 911 = .ok (.aload_n 0, 1) := by decide +kernel
theorem dL_law_912 : decode cL_law 912 = .ok (.iload_n 3, 1) := by decide +kernel
theorem dL_law_913 : decode cL_law 913 = .ok (.iconst 2, 1) := by decide +kernel
theorem dL_law_914 : decode cL_law 914 = .ok (.iadd, 1) := by decide +kernel
theorem dL_law_915 : decode cL_law 915 = .ok (.iaload, 1) := by decide +kernel
theorem dL_law_916 : decode cL_law 916 = .ok (.aload_n 0, 1) := by decide +kernel
theorem dL_law_917 : decode cL_law 917 = .ok (.iload_n 3, 1) := by decide +kernel
theorem dL_law_918 : decode cL_law 918 = .ok (.iconst 3, 1) := by decide +kernel
theorem dL_law_919 : decode cL_law 919 = .ok (.iadd, 1) := by decide +kernel
theorem dL_law_920 : decode cL_law 920 = .ok (.iaload, 1) := by decide +kernel
theorem dL_law_921 : decode cL_law 921 = .ok (.invokevirtual 96, 3) := by decide +kernel
theorem dL_law_924 : decode cL_law 924 = .ok (.aload_n 2, 1) := by decide +kernel
theorem dL_law_925 : decode cL_law 925 = .ok (.aload_n 0, 1) := by decide +kernel
theorem dL_law_926 : decode cL_law 926 = .ok (.iload_n 3, 1) := by decide +kernel
theorem dL_law_927 : decode cL_law 927 = .ok (.iconst 1, 1) := by decide +kernel
theorem dL_law_928 : decode cL_law 928 = .ok (.iadd, 1) := by decide +kernel
theorem dL_law_929 : decode cL_law 929 = .ok (.iaload, 1) := by decide +kernel
theorem dL_law_930 : decode cL_law 930 = .ok (.aload_n 0, 1) := by decide +kernel
theorem dL_law_931 : decode cL_law 931 = .ok (.iload_n 3, 1) := by decide +kernel
theorem dL_law_932 : decode cL_law 932 = .ok (.iconst 2, 1) := by decide +kernel
theorem dL_law_933 : decode cL_law 933 = .ok (.iadd, 1) := by decide +kernel
theorem dL_law_934 : decode cL_law 934 = .ok (.iaload, 1) := by decide +kernel
theorem dL_law_935 : decode cL_law 935 = .ok (.aload_n 0, 1) := by decide +kernel
theorem dL_law_936 : decode cL_law 936 = .ok (.iload_n 3, 1) := by decide +kernel
theorem dL_law_937 : decode cL_law 937 = .ok (.iconst 3, 1) := by decide +kernel
theorem dL_law_938 : decode cL_law 938 = .ok (.iadd, 1) := by decide +kernel
theorem dL_law_939 : decode cL_law 939 = .ok (.iaload, 1) := by decide +kernel
theorem dL_law_940 : decode cL_law 940 = .ok (.invokevirtual 99, 3) := by decide +kernel
theorem dL_law_943 : decode cL_law 943 = .ok (.if_icmp .eq 678, 3) := by decide +kernel
theorem dL_law_946 : decode cL_law 946 = .ok (.iconst 0, 1) := by decide +kernel
theorem dL_law_947 : decode cL_law 947 = .ok (.ireturn, 1) := by decide +kernel
theorem dL_law_948 : decode cL_law 948 = .ok (.aload_n 1, 1) := by decide +kernel
theorem dL_law_949 : decode cL_law 949 = .ok (.aload_n 0, 1) := by decide +kernel
theorem dL_law_950 : decode cL_law 950 = .ok (.iload_n 3, 1) := by decide +kernel
theorem dL_law_951 : decode cL_law 951 = .ok (.iconst 1, 1) := by decide +kernel
theorem dL_law_952 : decode cL_law 952 = .ok (.iadd, 1) := by decide +kernel
theorem dL_law_953 : decode cL_law 953 = .ok (.iaload, 1) := by decide +kernel
theorem dL_law_954 : decode cL_law 954 = .ok (.invokevirtual 100, 3) := by decide +kernel
theorem dL_law_957 : decode cL_law 957 = .ok (.aload_n 2, 1) := by decide +kernel
theorem dL_law_958 : decode cL_law 958 = .ok (.aload_n 0, 1) := by decide +kernel
theorem dL_law_959 : decode cL_law 959 = .ok (.iload_n 3, 1) := by decide +kernel
theorem dL_law_960 : decode cL_law 960 = .ok (.iconst 1, 1) := by decide +kernel
theorem dL_law_961 : decode cL_law 961 = .ok (.iadd, 1) := by decide +kernel
theorem dL_law_962 : decode cL_law 962 = .ok (.iaload, 1) := by decide +kernel
theorem dL_law_963 : decode cL_law 963 = .ok (.invokevirtual 103, 3) := by decide +kernel
theorem dL_law_966 : decode cL_law 966 = .ok (.if_icmp .eq 655, 3) := by decide +kernel
theorem dL_law_969 : decode cL_law 969 = .ok (.iconst 0, 1) := by decide +kernel
theorem dL_law_970 : decode cL_law 970 = .ok (.ireturn, 1) := by decide +kernel
theorem dL_law_971 : decode cL_law 971 = .ok (.aload_n 1, 1) := by decide +kernel
theorem dL_law_972 : decode cL_law 972 = .ok (.aload_n 0, 1) := by decide +kernel
theorem dL_law_973 : decode cL_law 973 = .ok (.iload_n 3, 1) := by decide +kernel
theorem dL_law_974 : decode cL_law 974 = .ok (.iconst 1, 1) := by decide +kernel
theorem dL_law_975 : decode cL_law 975 = .ok (.iadd, 1) := by decide +kernel
theorem dL_law_976 : decode cL_law 976 = .ok (.iaload, 1) := by decide +kernel
theorem dL_law_977 : decode cL_law 977 = .ok (.invokevirtual 104, 3) := by decide +kernel
theorem dL_law_980 : decode cL_law 980 = .ok (.aload_n 2, 1) := by decide +kernel
theorem dL_law_981 : decode cL_law 981 = .ok (.aload_n 0, 1) := by decide +kernel
theorem dL_law_982 : decode cL_law 982 = .ok (.iload_n 3, 1) := by decide +kernel
theorem dL_law_983 : decode cL_law 983 = .ok (.iconst 1, 1) := by decide +kernel
theorem dL_law_984 : decode cL_law 984 = .ok (.iadd, 1) := by decide +kernel
theorem dL_law_985 : decode cL_law 985 = .ok (.iaload, 1) := by decide +kernel
theorem dL_law_986 : decode cL_law 986 = .ok (.invokevirtual 107, 3) := by decide +kernel
theorem dL_law_989 : decode cL_law 989 = .ok (.if_icmp .eq 632, 3) := by decide +kernel
theorem dL_law_992 : decode cL_law 992 = .ok (.iconst 0, 1) := by decide +kernel
theorem dL_law_993 : decode cL_law 993 = .ok (.ireturn, 1) := by decide +kernel
theorem dL_law_994 : decode cL_law 994 = .ok (.aload_n 1, 1) := by decide +kernel
theorem dL_law_995 : decode cL_law 995 = .ok (.invokevirtual 108, 3) := by decide +kernel
theorem dL_law_998 : decode cL_law 998 = .ok (.aload_n 2, 1) := by decide +kernel
theorem dL_law_999 : decode cL_law 999 = .ok (.invokevirtual 111, 3) := by decide +kernel
theorem dL_law_1002 : decode cL_law 1002 = .ok (.if_icmp .eq 619, 3) := by decide +kernel
theorem dL_law_1005 : decode cL_law 1005 = .ok (.iconst 0, 1) := by decide +kernel
theorem dL_law_1006 : decode cL_law 1006 = .ok (.ireturn, 1) := by decide +kernel
theorem dL_law_1007 : decode cL_law 1007 = .ok (.aload_n 1, 1) := by decide +kernel
theorem dL_law_1008 : decode cL_law 1008 = .ok (.invokevirtual 112, 3) := by decide +kernel
theorem dL_law_1011 : decode cL_law 1011 = .ok (.aload_n 2, 1) := by decide +kernel
theorem dL_law_1012 : decode cL_law 1012 = .ok (.invokevirtual 115, 3) := by decide +kernel
theorem dL_law_1015 : decode cL_law 1015 = .ok (.if_icmp .eq 606, 3) := by decide +kernel
theorem dL_law_1018 : decode cL_law 1018 = .ok (.iconst 0, 1) := by decide +kernel
theorem dL_law_1019 : decode cL_law 1019 = .ok (.ireturn, 1) := by decide +kernel
theorem dL_law_1020 : decode cL_law 1020 = .ok (.aload_n 1, 1) := by decide +kernel
theorem dL_law_1021 : decode cL_law 1021 = .ok (.aload_n 0, 1) := by decide +kernel
theorem dL_law_1022 : decode cL_law 1022 = .ok (.iload_n 3, 1) := by decide +kernel
theorem dL_law_1023 : decode cL_law 1023 = .ok (.iconst 1, 1) := by decide +kernel
theorem dL_law_1024 : decode cL_law 1024 = .ok (.iadd, 1) := by decide +kernel
theorem dL_law_1025 : decode cL_law 1025 = .ok (.iaload, 1) := by decide +kernel
theorem dL_law_1026 : decode cL_law 1026 = .ok (.invokevirtual 116, 3) := by decide +kernel
theorem dL_law_1029 : decode cL_law 1029 = .ok (.aload_n 2, 1) := by decide +kernel
theorem dL_law_1030 : decode cL_law 1030 = .ok (.aload_n 0, 1) := by decide +kernel
theorem dL_law_1031 : decode cL_law 1031 = .ok (.iload_n 3, 1) := by decide +kernel
theorem dL_law_1032 : decode cL_law 1032 = .ok (.iconst 1, 1) := by decide +kernel
theorem dL_law_1033 : decode cL_law 1033 = .ok (.iadd, 1) := by decide +kernel
theorem dL_law_1034 : decode cL_law 1034 = .ok (.iaload, 1) := by decide +kernel
theorem dL_law_1035 : decode cL_law 1035 = .ok (.invokevirtual 119, 3) := by decide +kernel
theorem dL_law_1038 : decode cL_law 1038 = .ok (.if_icmp .eq 583, 3) := by decide +kernel
theorem dL_law_1041 : decode cL_law 1041 = .ok (.iconst 0, 1) := by decide +kernel
theorem dL_law_1042 : decode cL_law 1042 = .ok (.ireturn, 1) := by decide +kernel
theorem dL_law_1043 : decode cL_law 1043 = .ok (.aload_n 1, 1) := by decide +kernel
theorem dL_law_1044 : decode cL_law 1044 = .ok (.aload_n 0, 1) := by decide +kernel
theorem dL_law_1045 : decode cL_law 1045 = .ok (.iload_n 3, 1) := by decide +kernel
theorem dL_law_1046 : decode cL_law 1046 = .ok (.iconst 1, 1) := by decide +kernel
theorem dL_law_1047 : decode cL_law 1047 = .ok (.iadd, 1) := by decide +kernel
theorem dL_law_1048 : decode cL_law 1048 = .ok (.iaload, 1) := by decide +kernel
theorem dL_law_1049 : decode cL_law 1049 = .ok (.invokevirtual 120, 3) := by decide +kernel
theorem dL_law_1052 : decode cL_law 1052 = .ok (.aload_n 2, 1) := by decide +kernel
theorem dL_law_1053 : decode cL_law 1053 = .ok (.aload_n 0, 1) := by decide +kernel
theorem dL_law_1054 : decode cL_law 1054 = .ok (.iload_n 3, 1) := by decide +kernel
theorem dL_law_1055 : decode cL_law 1055 = .ok (.iconst 1, 1) := by decide +kernel
theorem dL_law_1056 : decode cL_law 1056 = .ok (.iadd, 1) := by decide +kernel
theorem dL_law_1057 : decode cL_law 1057 = .ok (.iaload, 1) := by decide +kernel
theorem dL_law_1058 : decode cL_law 1058 = .ok (.invokevirtual 123, 3) := by decide +kernel
theorem dL_law_1061 : decode cL_law 1061 = .ok (.if_icmp .eq 560, 3) := by decide +kernel
theorem dL_law_1064 : decode cL_law 1064 = .ok (.iconst 0, 1) := by decide +kernel
theorem dL_law_1065 : decode cL_law 1065 = .ok (.ireturn, 1) := by decide +kernel
theorem dL_law_1066 : decode cL_law 1066 = .ok (.aload_n 1, 1) := by decide +kernel
theorem dL_law_1067 : decode cL_law 1067 = .ok (.aload_n 0, 1) := by decide +kernel
theorem dL_law_1068 : decode cL_law 1068 = .ok (.iload_n 3, 1) := by decide +kernel
theorem dL_law_1069 : decode cL_law 1069 = .ok (.iconst 1, 1) := by decide +kernel
theorem dL_law_1070 : decode cL_law 1070 = .ok (.iadd, 1) := by decide +kernel
theorem dL_law_1071 : decode cL_law 1071 = .ok (.iaload, 1) := by decide +kernel
theorem dL_law_1072 : decode cL_law 1072 = .ok (.aload_n 0, 1) := by decide +kernel
theorem dL_law_1073 : decode cL_law 1073 = .ok (.iload_n 3, 1) := by decide +kernel
theorem dL_law_1074 : decode cL_law 1074 = .ok (.iconst 2, 1) := by decide +kernel
theorem dL_law_1075 : decode cL_law 1075 = .ok (.iadd, 1) := by decide +kernel
theorem dL_law_1076 : decode cL_law 1076 = .ok (.iaload, 1) := by decide +kernel
theorem dL_law_1077 : decode cL_law 1077 = .ok (.invokevirtual 124, 3) := by decide +kernel
theorem dL_law_1080 : decode cL_law 1080 = .ok (.aload_n 2, 1) := by decide +kernel
theorem dL_law_1081 : decode cL_law 1081 = .ok (.aload_n 0, 1) := by decide +kernel
theorem dL_law_1082 : decode cL_law 1082 = .ok (.iload_n 3, 1) := by decide +kernel
theorem dL_law_1083 : decode cL_law 1083 = .ok (.iconst 1, 1) := by decide +kernel
theorem dL_law_1084 : decode cL_law 1084 = .ok (.iadd, 1) := by decide +kernel
theorem dL_law_1085 : decode cL_law 1085 = .ok (.iaload, 1) := by decide +kernel
theorem dL_law_1086 : decode cL_law 1086 = .ok (.aload_n 0, 1) := by decide +kernel
theorem dL_law_1087 : decode cL_law 1087 = .ok (.iload_n 3, 1) := by decide +kernel
theorem dL_law_1088 : decode cL_law 1088 = .ok (.iconst 2, 1) := by decide +kernel
theorem dL_law_1089 : decode cL_law 1089 = .ok (.iadd, 1) := by decide +kernel
theorem dL_law_1090 : decode cL_law 1090 = .ok (.iaload, 1) := by decide +kernel
theorem dL_law_1091 : decode cL_law 1091 = .ok (.invokevirtual 127, 3) := by decide +kernel
theorem dL_law_1094 : decode cL_law 1094 = .ok (.if_icmp .eq 527, 3) := by decide +kernel
theorem dL_law_1097 : decode cL_law 1097 = .ok (.iconst 0, 1) := by decide +kernel
theorem dL_law_1098 : decode cL_law 1098 = .ok (.ireturn, 1) := by decide +kernel
theorem dL_law_1099 : decode cL_law 1099 = .ok (.aload_n 1, 1) := by decide +kernel
theorem dL_law_1100 : decode cL_law 1100 = .ok (.aload_n 0, 1) := by decide +kernel
theorem dL_law_1101 : decode cL_law 1101 = .ok (.iload_n 3, 1) := by decide +kernel
theorem dL_law_1102 : decode cL_law 1102 = .ok (.iconst 1, 1) := by decide +kernel
theorem dL_law_1103 : decode cL_law 1103 = .ok (.iadd, 1) := by decide +kernel
theorem dL_law_1104 : decode cL_law 1104 = .ok (.iaload, 1) := by decide +kernel
theorem dL_law_1105 : decode cL_law 1105 = .ok (.aload_n 0, 1) := by decide +kernel
theorem dL_law_1106 : decode cL_law 1106 = .ok (.iload_n 3, 1) := by decide +kernel
theorem dL_law_1107 : decode cL_law 1107 = .ok (.iconst 2, 1) := by decide +kernel
theorem dL_law_1108 : decode cL_law 1108 = .ok (.iadd, 1) := by decide +kernel
theorem dL_law_1109 : decode cL_law 1109 = .ok (.iaload, 1) := by decide +kernel
theorem dL_law_1110 : decode cL_law 1110 = .ok (.invokevirtual 128, 3) := by decide +kernel
theorem dL_law_1113 : decode cL_law 1113 = .ok (.aload_n 2, 1) := by decide +kernel
theorem dL_law_1114 : decode cL_law 1114 = .ok (.aload_n 0, 1) := by decide +kernel
theorem dL_law_1115 : decode cL_law 1115 = .ok (.iload_n 3, 1) := by decide +kernel
theorem dL_law_1116 : decode cL_law 1116 = .ok (.iconst 1, 1) := by decide +kernel
theorem dL_law_1117 : decode cL_law 1117 = .ok (.iadd, 1) := by decide +kernel
theorem dL_law_1118 : decode cL_law 1118 = .ok (.iaload, 1) := by decide +kernel
theorem dL_law_1119 : decode cL_law 1119 = .ok (.aload_n 0, 1) := by decide +kernel
theorem dL_law_1120 : decode cL_law 1120 = .ok (.iload_n 3, 1) := by decide +kernel
theorem dL_law_1121 : decode cL_law 1121 = .ok (.iconst 2, 1) := by decide +kernel
theorem dL_law_1122 : decode cL_law 1122 = .ok (.iadd, 1) := by decide +kernel
theorem dL_law_1123 : decode cL_law 1123 = .ok (.iaload, 1) := by decide +kernel
theorem dL_law_1124 : decode cL_law 1124 = .ok (.invokevirtual 131, 3) := by decide +kernel
theorem dL_law_1127 : decode cL_law 1127 = .ok (.if_icmp .eq 494, 3) := by decide +kernel
theorem dL_law_1130 : decode cL_law 1130 = .ok (.iconst 0, 1) := by decide +kernel
theorem dL_law_1131 : decode cL_law 1131 = .ok (.ireturn, 1) := by decide +kernel
theorem dL_law_1132 : decode cL_law 1132 = .ok (.aload_n 1, 1) := by decide +kernel
theorem dL_law_1133 : decode cL_law 1133 = .ok (.aload_n 0, 1) := by decide +kernel
theorem dL_law_1134 : decode cL_law 1134 = .ok (.iload_n 3, 1) := by decide +kernel
theorem dL_law_1135 : decode cL_law 1135 = .ok (.iconst 1, 1) := by decide +kernel
theorem dL_law_1136 : decode cL_law 1136 = .ok (.iadd, 1) := by decide +kernel
theorem dL_law_1137 : decode cL_law 1137 = .ok (.iaload, 1) := by decide +kernel
theorem dL_law_1138 : decode cL_law 1138 = .ok (.aload_n 0, 1) := by decide +kernel
theorem dL_law_1139 : decode cL_law 1139 = .ok (.iload_n 3, 1) := by decide +kernel
theorem dL_law_1140 : decode cL_law 1140 = .ok (.iconst 2, 1) := by decide +kernel
theorem dL_law_1141 : decode cL_law 1141 = .ok (.iadd, 1) := by decide +kernel
theorem dL_law_1142 : decode cL_law 1142 = .ok (.iaload, 1) := by decide +kernel
theorem dL_law_1143 : decode cL_law 1143 = .ok (.invokevirtual 132, 3) := by decide +kernel
theorem dL_law_1146 : decode cL_law 1146 = .ok (.aload_n 2, 1) := by decide +kernel
theorem dL_law_1147 : decode cL_law 1147 = .ok (.aload_n 0, 1) := by decide +kernel
theorem dL_law_1148 : decode cL_law 1148 = .ok (.iload_n 3, 1) := by decide +kernel
theorem dL_law_1149 : decode cL_law 1149 = .ok (.iconst 1, 1) := by decide +kernel
theorem dL_law_1150 : decode cL_law 1150 = .ok (.iadd, 1) := by decide +kernel
theorem dL_law_1151 : decode cL_law 1151 = .ok (.iaload, 1) := by decide +kernel
theorem dL_law_1152 : decode cL_law 1152 = .ok (.aload_n 0, 1) := by decide +kernel
theorem dL_law_1153 : decode cL_law 1153 = .ok (.iload_n 3, 1) := by decide +kernel
theorem dL_law_1154 : decode cL_law 1154 = .ok (.iconst 2, 1) := by decide +kernel
theorem dL_law_1155 : decode cL_law 1155 = .ok (.iadd, 1) := by decide +kernel
theorem dL_law_1156 : decode cL_law 1156 = .ok (.iaload, 1) := by decide +kernel
theorem dL_law_1157 : decode cL_law 1157 = .ok (.invokevirtual 135, 3) := by decide +kernel
theorem dL_law_1160 : decode cL_law 1160 = .ok (.if_icmp .eq 461, 3) := by decide +kernel
theorem dL_law_1163 : decode cL_law 1163 = .ok (.iconst 0, 1) := by decide +kernel
theorem dL_law_1164 : decode cL_law 1164 = .ok (.ireturn, 1) := by decide +kernel
theorem dL_law_1165 : decode cL_law 1165 = .ok (.aload_n 1, 1) := by decide +kernel
theorem dL_law_1166 : decode cL_law 1166 = .ok (.aload_n 0, 1) := by decide +kernel
theorem dL_law_1167 : decode cL_law 1167 = .ok (.iload_n 3, 1) := by decide +kernel
theorem dL_law_1168 : decode cL_law 1168 = .ok (.iconst 1, 1) := by decide +kernel
theorem dL_law_1169 : decode cL_law 1169 = .ok (.iadd, 1) := by decide +kernel
theorem dL_law_1170 : decode cL_law 1170 = .ok (.iaload, 1) := by decide +kernel
theorem dL_law_1171 : decode cL_law 1171 = .ok (.invokevirtual 136, 3) := by decide +kernel
theorem dL_law_1174 : decode cL_law 1174 = .ok (.aload_n 2, 1) := by decide +kernel
theorem dL_law_1175 : decode cL_law 1175 = .ok (.aload_n 0, 1) := by decide +kernel
theorem dL_law_1176 : decode cL_law 1176 = .ok (.iload_n 3, 1) := by decide +kernel
theorem dL_law_1177 : decode cL_law 1177 = .ok (.iconst 1, 1) := by decide +kernel
theorem dL_law_1178 : decode cL_law 1178 = .ok (.iadd, 1) := by decide +kernel
theorem dL_law_1179 : decode cL_law 1179 = .ok (.iaload, 1) := by decide +kernel
theorem dL_law_1180 : decode cL_law 1180 = .ok (.invokevirtual 139, 3) := by decide +kernel
theorem dL_law_1183 : decode cL_law 1183 = .ok (.if_icmp .eq 438, 3) := by decide +kernel
theorem dL_law_1186 : decode cL_law 1186 = .ok (.iconst 0, 1) := by decide +kernel
theorem dL_law_1187 : decode cL_law 1187 = .ok (.ireturn, 1) := by decide +kernel
theorem dL_law_1188 : decode cL_law 1188 = .ok (.aload_n 1, 1) := by decide +kernel
theorem dL_law_1189 : decode cL_law 1189 = .ok (.invokevirtual 140, 3) := by decide +kernel
theorem dL_law_1192 : decode cL_law 1192 = .ok (.aload_n 2, 1) := by decide +kernel
theorem dL_law_1193 : decode cL_law 1193 = .ok (.invokevirtual 143, 3) := by decide +kernel
theorem dL_law_1196 : decode cL_law 1196 = .ok (.if_icmp .eq 425, 3) := by decide +kernel
theorem dL_law_1199 : decode cL_law 1199 = .ok (.iconst 0, 1) := by decide +kernel
theorem dL_law_1200 : decode cL_law 1200 = .ok (.ireturn, 1) := by decide +kernel
theorem dL_law_1201 : decode cL_law 1201 = .ok (.aload_n 1, 1) := by decide +kernel
theorem dL_law_1202 : decode cL_law 1202 = .ok (.aload_n 0, 1) := by decide +kernel
theorem dL_law_1203 : decode cL_law 1203 = .ok (.iload_n 3, 1) := by decide +kernel
theorem dL_law_1204 : decode cL_law 1204 = .ok (.iconst 1, 1) := by decide +kernel
theorem dL_law_1205 : decode cL_law 1205 = .ok (.iadd, 1) := by decide +kernel
theorem dL_law_1206 : decode cL_law 1206 = .ok (.iaload, 1) := by decide +kernel
theorem dL_law_1207 : decode cL_law 1207 = .ok (.invokevirtual 144, 3) := by decide +kernel
theorem dL_law_1210 : decode cL_law 1210 = .ok (.aload_n 2, 1) := by decide +kernel
theorem dL_law_1211 : decode cL_law 1211 = .ok (.aload_n 0, 1) := by decide +kernel
theorem dL_law_1212 : decode cL_law 1212 = .ok (.iload_n 3, 1) := by decide +kernel
theorem dL_law_1213 : decode cL_law 1213 = .ok (.iconst 1, 1) := by decide +kernel
theorem dL_law_1214 : decode cL_law 1214 = .ok (.iadd, 1) := by decide +kernel
theorem dL_law_1215 : decode cL_law 1215 = .ok (.iaload, 1) := by decide +kernel
theorem dL_law_1216 : decode cL_law 1216 = .ok (.invokevirtual 147, 3) := by decide +kernel
theorem dL_law_1219 : decode cL_law 1219 = .ok (.if_icmp .eq 402, 3) := by decide +kernel
theorem dL_law_1222 : decode cL_law 1222 = .ok (.iconst 0, 1) := by decide +kernel
theorem dL_law_1223 : decode cL_law 1223 = .ok (.ireturn, 1) := by decide +kernel
theorem dL_law_1224 : decode cL_law 1224 = .ok (.aload_n 1, 1) := by decide +kernel
theorem dL_law_1225 : decode cL_law 1225 = .ok (.aload_n 0, 1) := by decide +kernel
theorem dL_law_1226 : decode cL_law 1226 = .ok (.iload_n 3, 1) := by decide +kernel
theorem dL_law_1227 : decode cL_law 1227 = .ok (.iconst 1, 1) := by decide +kernel
theorem dL_law_1228 : decode cL_law 1228 = .ok (.iadd, 1) := by decide +kernel
theorem dL_law_1229 : decode cL_law 1229 = .ok (.iaload, 1) := by decide +kernel
theorem dL_law_1230 : decode cL_law 1230 = .ok (.invokevirtual 148, 3) := by decide +kernel
theorem dL_law_1233 : decode cL_law 1233 = .ok (.aload_n 2, 1) := by decide +kernel
theorem dL_law_1234 : decode cL_law 1234 = .ok (.aload_n 0, 1) := by decide +kernel
theorem dL_law_1235 : decode cL_law 1235 = .ok (.iload_n 3, 1) := by decide +kernel
theorem dL_law_1236 : decode cL_law 1236 = .ok (.iconst 1, 1) := by decide +kernel
theorem dL_law_1237 : decode cL_law 1237 = .ok (.iadd, 1) := by decide +kernel
theorem dL_law_1238 : decode cL_law 1238 = .ok (.iaload, 1) := by decide +kernel
theorem dL_law_1239 : decode cL_law 1239 = .ok (.invokevirtual 151, 3) := by decide +kernel
theorem dL_law_1242 : decode cL_law 1242 = .ok (.if_icmp .eq 379, 3) := by decide +kernel
theorem dL_law_1245 : decode cL_law 1245 = .ok (.iconst 0, 1) := by decide +kernel
theorem dL_law_1246 : decode cL_law 1246 = .ok (.ireturn, 1) := by decide +kernel
theorem dL_law_1247 : decode cL_law 1247 = .ok (.aload_n 1, 1) := by decide +kernel
theorem dL_law_1248 : decode cL_law 1248 = .ok (.aload_n 0, 1) := by decide +kernel
theorem dL_law_1249 : decode cL_law 1249 = .ok (.iload_n 3, 1) := by decide +kernel
theorem dL_law_1250 : decode cL_law 1250 = .ok (.iconst 1, 1) := by decide +kernel
theorem dL_law_1251 : decode cL_law 1251 = .ok (.iadd, 1) := by decide +kernel
theorem dL_law_1252 : decode cL_law 1252 = .ok (.iaload, 1) := by decide +kernel
theorem dL_law_1253 : decode cL_law 1253 = .ok (.invokevirtual 152, 3) := by decide +kernel
theorem dL_law_1256 : decode cL_law 1256 = .ok (.aload_n 2, 1) := by decide +kernel
theorem dL_law_1257 : decode cL_law 1257 = .ok (.aload_n 0, 1) := by decide +kernel
theorem dL_law_1258 : decode cL_law 1258 = .ok (.iload_n 3, 1) := by decide +kernel
theorem dL_law_1259 : decode cL_law 1259 = .ok (.iconst 1, 1) := by decide +kernel
theorem dL_law_1260 : decode cL_law 1260 = .ok (.iadd, 1) := by decide +kernel
theorem dL_law_1261 : decode cL_law 1261 = .ok (.iaload, 1) := by decide +kernel
theorem dL_law_1262 : decode cL_law 1262 = .ok (.invokevirtual 155, 3) := by decide +kernel
theorem dL_law_1265 : decode cL_law 1265 = .ok (.if_icmp .eq 356, 3) := by decide +kernel
theorem dL_law_1268 : decode cL_law 1268 = .ok (.iconst 0, 1) := by decide +kernel
theorem dL_law_1269 : decode cL_law 1269 = .ok (.ireturn, 1) := by decide +kernel
theorem dL_law_1270 : decode cL_law 1270 = .ok (.aload_n 1, 1) := by decide +kernel
theorem dL_law_1271 : decode cL_law 1271 = .ok (.aload_n 0, 1) := by decide +kernel
theorem dL_law_1272 : decode cL_law 1272 = .ok (.iload_n 3, 1) := by decide +kernel
theorem dL_law_1273 : decode cL_law 1273 = .ok (.iconst 1, 1) := by decide +kernel
theorem dL_law_1274 : decode cL_law 1274 = .ok (.iadd, 1) := by decide +kernel
theorem dL_law_1275 : decode cL_law 1275 = .ok (.iaload, 1) := by decide +kernel
theorem dL_law_1276 : decode cL_law 1276 = .ok (.aload_n 0, 1) := by decide +kernel
theorem dL_law_1277 : decode cL_law 1277 = .ok (.iload_n 3, 1) := by decide +kernel
theorem dL_law_1278 : decode cL_law 1278 = .ok (.iconst 2, 1) := by decide +kernel
theorem dL_law_1279 : decode cL_law 1279 = .ok (.iadd, 1) := by decide +kernel
theorem dL_law_1280 : decode cL_law 1280 = .ok (.iaload, 1) := by decide +kernel
theorem dL_law_1281 : decode cL_law 1281 = .ok (.invokevirtual 156, 3) := by decide +kernel
theorem dL_law_1284 : decode cL_law 1284 = .ok (.aload_n 2, 1) := by decide +kernel
theorem dL_law_1285 : decode cL_law 1285 = .ok (.aload_n 0, 1) := by decide +kernel
theorem dL_law_1286 : decode cL_law 1286 = .ok (.iload_n 3, 1) := by decide +kernel
theorem dL_law_1287 : decode cL_law 1287 = .ok (.iconst 1, 1) := by decide +kernel
theorem dL_law_1288 : decode cL_law 1288 = .ok (.iadd, 1) := by decide +kernel
theorem dL_law_1289 : decode cL_law 1289 = .ok (.iaload, 1) := by decide +kernel
theorem dL_law_1290 : decode cL_law 1290 = .ok (.aload_n 0, 1) := by decide +kernel
theorem dL_law_1291 : decode cL_law 1291 = .ok (.iload_n 3, 1) := by decide +kernel
theorem dL_law_1292 : decode cL_law 1292 = .ok (.iconst 2, 1) := by decide +kernel
theorem dL_law_1293 : decode cL_law 1293 = .ok (.iadd, 1) := by decide +kernel
theorem dL_law_1294 : decode cL_law 1294 = .ok (.iaload, 1) := by decide +kernel
theorem dL_law_1295 : decode cL_law 1295 = .ok (.invokevirtual 159, 3) := by decide +kernel
theorem dL_law_1298 : decode cL_law 1298 = .ok (.if_icmp .eq 323, 3) := by decide +kernel
theorem dL_law_1301 : decode cL_law 1301 = .ok (.iconst 0, 1) := by decide +kernel
theorem dL_law_1302 : decode cL_law 1302 = .ok (.ireturn, 1) := by decide +kernel
theorem dL_law_1303 : decode cL_law 1303 = .ok (.aload_n 1, 1) := by decide +kernel
theorem dL_law_1304 : decode cL_law 1304 = .ok (.invokevirtual 160, 3) := by decide +kernel
theorem dL_law_1307 : decode cL_law 1307 = .ok (.aload_n 2, 1) := by decide +kernel
theorem dL_law_1308 : decode cL_law 1308 = .ok (.invokevirtual 163, 3) := by decide +kernel
theorem dL_law_1311 : decode cL_law 1311 = .ok (.if_icmp .eq 310, 3) := by decide +kernel
theorem dL_law_1314 : decode cL_law 1314 = .ok (.iconst 0, 1) := by decide +kernel
theorem dL_law_1315 : decode cL_law 1315 = .ok (.ireturn, 1) := by decide +kernel
theorem dL_law_1316 : decode cL_law 1316 = .ok (.aload_n 1, 1) := by decide +kernel
theorem dL_law_1317 : decode cL_law 1317 = .ok (.invokevirtual 164, 3) := by decide +kernel
theorem dL_law_1320 : decode cL_law 1320 = .ok (.aload_n 2, 1) := by decide +kernel
theorem dL_law_1321 : decode cL_law 1321 = .ok (.invokevirtual 167, 3) := by decide +kernel
theorem dL_law_1324 : decode cL_law 1324 = .ok (.if_icmp .eq 297, 3) := by decide +kernel
theorem dL_law_1327 : decode cL_law 1327 = .ok (.iconst 0, 1) := by decide +kernel
theorem dL_law_1328 : decode cL_law 1328 = .ok (.ireturn, 1) := by decide +kernel
theorem dL_law_1329 : decode cL_law 1329 = .ok (.aload_n 1, 1) := by decide +kernel
theorem dL_law_1330 : decode cL_law 1330 = .ok (.invokevirtual 168, 3) := by decide +kernel
theorem dL_law_1333 : decode cL_law 1333 = .ok (.aload_n 2, 1) := by decide +kernel
theorem dL_law_1334 : decode cL_law 1334 = .ok (.invokevirtual 171, 3) := by decide +kernel
theorem dL_law_1337 : decode cL_law 1337 = .ok (.if_icmp .eq 284, 3) := by decide +kernel
theorem dL_law_1340 : decode cL_law 1340 = .ok (.iconst 0, 1) := by decide +kernel
theorem dL_law_1341 : decode cL_law 1341 = .ok (.ireturn, 1) := by decide +kernel
theorem dL_law_1342 : decode cL_law 1342 = .ok (.aload_n 1, 1) := by decide +kernel
theorem dL_law_1343 : decode cL_law 1343 = .ok (.aload_n 0, 1) := by decide +kernel
theorem dL_law_1344 : decode cL_law 1344 = .ok (.iload_n 3, 1) := by decide +kernel
theorem dL_law_1345 : decode cL_law 1345 = .ok (.iconst 1, 1) := by decide +kernel
theorem dL_law_1346 : decode cL_law 1346 = .ok (.iadd, 1) := by decide +kernel
theorem dL_law_1347 : decode cL_law 1347 = .ok (.iaload, 1) := by decide +kernel
theorem dL_law_1348 : decode cL_law 1348 = .ok (.invokevirtual 172, 3) := by decide +kernel
theorem dL_law_1351 : decode cL_law 1351 = .ok (.aload_n 2, 1) := by decide +kernel
theorem dL_law_1352 : decode cL_law 1352 = .ok (.aload_n 0, 1) := by decide +kernel
theorem dL_law_1353 : decode cL_law 1353 = .ok (.iload_n 3, 1) := by decide +kernel
theorem dL_law_1354 : decode cL_law 1354 = .ok (.iconst 1, 1) := by decide +kernel
theorem dL_law_1355 : decode cL_law 1355 = .ok (.iadd, 1) := by decide +kernel
theorem dL_law_1356 : decode cL_law 1356 = .ok (.iaload, 1) := by decide +kernel
theorem dL_law_1357 : decode cL_law 1357 = .ok (.invokevirtual 175, 3) := by decide +kernel
theorem dL_law_1360 : decode cL_law 1360 = .ok (.if_icmp .eq 261, 3) := by decide +kernel
theorem dL_law_1363 : decode cL_law 1363 = .ok (.iconst 0, 1) := by decide +kernel
theorem dL_law_1364 : decode cL_law 1364 = .ok (.ireturn, 1) := by decide +kernel
theorem dL_law_1365 : decode cL_law 1365 = .ok (.aload_n 1, 1) := by decide +kernel
theorem dL_law_1366 : decode cL_law 1366 = .ok (.invokevirtual 176, 3) := by decide +kernel
theorem dL_law_1369 : decode cL_law 1369 = .ok (.aload_n 2, 1) := by decide +kernel
theorem dL_law_1370 : decode cL_law 1370 = .ok (.invokevirtual 179, 3) := by decide +kernel
theorem dL_law_1373 : decode cL_law 1373 = .ok (.if_icmp .eq 248, 3) := by decide +kernel
theorem dL_law_1376 : decode cL_law 1376 = .ok (.iconst 0, 1) := by decide +kernel
theorem dL_law_1377 : decode cL_law 1377 = .ok (.ireturn, 1) := by decide +kernel
theorem dL_law_1378 : decode cL_law 1378 = .ok (.aload_n 1, 1) := by decide +kernel
theorem dL_law_1379 : decode cL_law 1379 = .ok (.aload_n 0, 1) := by decide +kernel
theorem dL_law_1380 : decode cL_law 1380 = .ok (.iload_n 3, 1) := by decide +kernel
theorem dL_law_1381 : decode cL_law 1381 = .ok (.iconst 1, 1) := by decide +kernel
theorem dL_law_1382 : decode cL_law 1382 = .ok (.iadd, 1) := by decide +kernel
theorem dL_law_1383 : decode cL_law 1383 = .ok (.iaload, 1) := by decide +kernel
theorem dL_law_1384 : decode cL_law 1384 = .ok (.invokevirtual 180, 3) := by decide +kernel
theorem dL_law_1387 : decode cL_law 1387 = .ok (.aload_n 2, 1) := by decide +kernel
theorem dL_law_1388 : decode cL_law 1388 = .ok (.aload_n 0, 1) := by decide +kernel
theorem dL_law_1389 : decode cL_law 1389 = .ok (.iload_n 3, 1) := by decide +kernel
theorem dL_law_1390 : decode cL_law 1390 = .ok (.iconst 1, 1) := by decide +kernel
theorem dL_law_1391 : decode cL_law 1391 = .ok (.iadd, 1) := by decide +kernel
theorem dL_law_1392 : decode cL_law 1392 = .ok (.iaload, 1) := by decide +kernel
theorem dL_law_1393 : decode cL_law 1393 = .ok (.invokevirtual 183, 3) := by decide +kernel
theorem dL_law_1396 : decode cL_law 1396 = .ok (.if_icmp .eq 225, 3) := by decide +kernel
theorem dL_law_1399 : decode cL_law 1399 = .ok (.iconst 0, 1) := by decide +kernel
theorem dL_law_1400 : decode cL_law 1400 = .ok (.ireturn, 1) := by decide +kernel
theorem dL_law_1401 : decode cL_law 1401 = .ok (.aload_n 1, 1) := by decide +kernel
theorem dL_law_1402 : decode cL_law 1402 = .ok (.aload_n 0, 1) := by decide +kernel
theorem dL_law_1403 : decode cL_law 1403 = .ok (.iload_n 3, 1) := by decide +kernel
theorem dL_law_1404 : decode cL_law 1404 = .ok (.iconst 1, 1) := by decide +kernel
theorem dL_law_1405 : decode cL_law 1405 = .ok (.iadd, 1) := by decide +kernel
theorem dL_law_1406 : decode cL_law 1406 = .ok (.iaload, 1) := by decide +kernel
theorem dL_law_1407 : decode cL_law 1407 = .ok (.aload_n 0, 1) := by decide +kernel
theorem dL_law_1408 : decode cL_law 1408 = .ok (.iload_n 3, 1) := by decide +kernel
theorem dL_law_1409 : decode cL_law 1409 = .ok (.iconst 2, 1) := by decide +kernel
theorem dL_law_1410 : decode cL_law 1410 = .ok (.iadd, 1) := by decide +kernel
theorem dL_law_1411 : decode cL_law 1411 = .ok (.iaload, 1) := by decide +kernel
theorem dL_law_1412 : decode cL_law 1412 = .ok (.invokevirtual 184, 3) := by decide +kernel
theorem dL_law_1415 : decode cL_law 1415 = .ok (.aload_n 2, 1) := by decide +kernel
theorem dL_law_1416 : decode cL_law 1416 = .ok (.aload_n 0, 1) := by decide +kernel
theorem dL_law_1417 : decode cL_law 1417 = .ok (.iload_n 3, 1) := by decide +kernel
theorem dL_law_1418 : decode cL_law 1418 = .ok (.iconst 1, 1) := by decide +kernel
theorem dL_law_1419 : decode cL_law 1419 = .ok (.iadd, 1) := by decide +kernel
theorem dL_law_1420 : decode cL_law 1420 = .ok (.iaload, 1) := by decide +kernel
theorem dL_law_1421 : decode cL_law 1421 = .ok (.aload_n 0, 1) := by decide +kernel
theorem dL_law_1422 : decode cL_law 1422 = .ok (.iload_n 3, 1) := by decide +kernel
theorem dL_law_1423 : decode cL_law 1423 = .ok (.iconst 2, 1) := by decide +kernel
theorem dL_law_1424 : decode cL_law 1424 = .ok (.iadd, 1) := by decide +kernel
theorem dL_law_1425 : decode cL_law 1425 = .ok (.iaload, 1) := by decide +kernel
theorem dL_law_1426 : decode cL_law 1426 = .ok (.invokevirtual 187, 3) := by decide +kernel
theorem dL_law_1429 : decode cL_law 1429 = .ok (.if_icmp .eq 192, 3) := by decide +kernel
theorem dL_law_1432 : decode cL_law 1432 = .ok (.iconst 0, 1) := by decide +kernel
theorem dL_law_1433 : decode cL_law 1433 = .ok (.ireturn, 1) := by decide +kernel
theorem dL_law_1434 : decode cL_law 1434 = .ok (.aload_n 1, 1) := by decide +kernel
theorem dL_law_1435 : decode cL_law 1435 = .ok (.aload_n 0, 1) := by decide +kernel
theorem dL_law_1436 : decode cL_law 1436 = .ok (.iload_n 3, 1) := by decide +kernel
theorem dL_law_1437 : decode cL_law 1437 = .ok (.iconst 1, 1) := by decide +kernel
theorem dL_law_1438 : decode cL_law 1438 = .ok (.iadd, 1) := by decide +kernel
theorem dL_law_1439 : decode cL_law 1439 = .ok (.iaload, 1) := by decide +kernel
theorem dL_law_1440 : decode cL_law 1440 = .ok (.invokevirtual 188, 3) := by decide +kernel
theorem dL_law_1443 : decode cL_law 1443 = .ok (.aload_n 2, 1) := by decide +kernel
theorem dL_law_1444 : decode cL_law 1444 = .ok (.aload_n 0, 1) := by decide +kernel
theorem dL_law_1445 : decode cL_law 1445 = .ok (.iload_n 3, 1) := by decide +kernel
theorem dL_law_1446 : decode cL_law 1446 = .ok (.iconst 1, 1) := by decide +kernel
theorem dL_law_1447 : decode cL_law 1447 = .ok (.iadd, 1) := by decide +kernel
theorem dL_law_1448 : decode cL_law 1448 = .ok (.iaload, 1) := by decide +kernel
theorem dL_law_1449 : decode cL_law 1449 = .ok (.invokevirtual 191, 3) := by decide +kernel
theorem dL_law_1452 : decode cL_law 1452 = .ok (.if_icmp .eq 169, 3) := by decide +kernel
theorem dL_law_1455 : decode cL_law 1455 = .ok (.iconst 0, 1) := by decide +kernel
theorem dL_law_1456 : decode cL_law 1456 = .ok (.ireturn, 1) := by decide +kernel
theorem dL_law_1457 : decode cL_law 1457 = .ok (.aload_n 1, 1) := by decide +kernel
theorem dL_law_1458 : decode cL_law 1458 = .ok (.aload_n 0, 1) := by decide +kernel
theorem dL_law_1459 : decode cL_law 1459 = .ok (.iload_n 3, 1) := by decide +kernel
theorem dL_law_1460 : decode cL_law 1460 = .ok (.iconst 1, 1) := by decide +kernel
theorem dL_law_1461 : decode cL_law 1461 = .ok (.iadd, 1) := by decide +kernel
theorem dL_law_1462 : decode cL_law 1462 = .ok (.iaload, 1) := by decide +kernel
theorem dL_law_1463 : decode cL_law 1463 = .ok (.aload_n 0, 1) := by decide +kernel
theorem dL_law_1464 : decode cL_law 1464 = .ok (.iload_n 3, 1) := by decide +kernel
theorem dL_law_1465 : decode cL_law 1465 = .ok (.iconst 2, 1) := by decide +kernel
theorem dL_law_1466 : decode cL_law 1466 = .ok (.iadd, 1) := by decide +kernel
theorem dL_law_1467 : decode cL_law 1467 = .ok (.iaload, 1) := by decide +kernel
theorem dL_law_1468 : decode cL_law 1468 = .ok (.invokevirtual 192, 3) := by decide +kernel
theorem dL_law_1471 : decode cL_law 1471 = .ok (.aload_n 2, 1) := by decide +kernel
theorem dL_law_1472 : decode cL_law 1472 = .ok (.aload_n 0, 1) := by decide +kernel
theorem dL_law_1473 : decode cL_law 1473 = .ok (.iload_n 3, 1) := by decide +kernel
theorem dL_law_1474 : decode cL_law 1474 = .ok (.iconst 1, 1) := by decide +kernel
theorem dL_law_1475 : decode cL_law 1475 = .ok (.iadd, 1) := by decide +kernel
theorem dL_law_1476 : decode cL_law 1476 = .ok (.iaload, 1) := by decide +kernel
theorem dL_law_1477 : decode cL_law 1477 = .ok (.aload_n 0, 1) := by decide +kernel
theorem dL_law_1478 : decode cL_law 1478 = .ok (.iload_n 3, 1) := by decide +kernel
theorem dL_law_1479 : decode cL_law 1479 = .ok (.iconst 2, 1) := by decide +kernel
theorem dL_law_1480 : decode cL_law 1480 = .ok (.iadd, 1) := by decide +kernel
theorem dL_law_1481 : decode cL_law 1481 = .ok (.iaload, 1) := by decide +kernel
theorem dL_law_1482 : decode cL_law 1482 = .ok (.invokevirtual 195, 3) := by decide +kernel
theorem dL_law_1485 : decode cL_law 1485 = .ok (.if_icmp .eq 136, 3) := by decide +kernel
theorem dL_law_1488 : decode cL_law 1488 = .ok (.iconst 0, 1) := by decide +kernel
theorem dL_law_1489 : decode cL_law 1489 = .ok (.ireturn, 1) := by decide +kernel
theorem dL_law_1490 : decode cL_law 1490 = .ok (.aload_n 1, 1) := by decide +kernel
theorem dL_law_1491 : decode cL_law 1491 = .ok (.aload_n 0, 1) := by decide +kernel
theorem dL_law_1492 : decode cL_law 1492 = .ok (.iload_n 3, 1) := by decide +kernel
theorem dL_law_1493 : decode cL_law 1493 = .ok (.iconst 1, 1) := by decide +kernel
theorem dL_law_1494 : decode cL_law 1494 = .ok (.iadd, 1) := by decide +kernel
theorem dL_law_1495 : decode cL_law 1495 = .ok (.iaload, 1) := by decide +kernel
theorem dL_law_1496 : decode cL_law 1496 = .ok (.invokevirtual 196, 3) := by decide +kernel
theorem dL_law_1499 : decode cL_law 1499 = .ok (.aload_n 2, 1) := by decide +kernel
theorem dL_law_1500 : decode cL_law 1500 = .ok (.aload_n 0, 1) := by decide +kernel
theorem dL_law_1501 : decode cL_law 1501 = .ok (.iload_n 3, 1) := by decide +kernel
theorem dL_law_1502 : decode cL_law 1502 = .ok (.iconst 1, 1) := by decide +kernel
theorem dL_law_1503 : decode cL_law 1503 = .ok (.iadd, 1) := by decide +kernel
theorem dL_law_1504 : decode cL_law 1504 = .ok (.iaload, 1) := by decide +kernel
theorem dL_law_1505 : decode cL_law 1505 = .ok (.invokevirtual 199, 3) := by decide +kernel
theorem dL_law_1508 : decode cL_law 1508 = .ok (.if_icmp .eq 113, 3) := by decide +kernel
theorem dL_law_1511 : decode cL_law 1511 = .ok (.iconst 0, 1) := by decide +kernel
theorem dL_law_1512 : decode cL_law 1512 = .ok (.ireturn, 1) := by decide +kernel
theorem dL_law_1513 : decode cL_law 1513 = .ok (.aload_n 1, 1) := by decide +kernel
theorem dL_law_1514 : decode cL_law 1514 = .ok (.aload_n 0, 1) := by decide +kernel
theorem dL_law_1515 : decode cL_law 1515 = .ok (.iload_n 3, 1) := by decide +kernel
theorem dL_law_1516 : decode cL_law 1516 = .ok (.iconst 1, 1) := by decide +kernel
theorem dL_law_1517 : decode cL_law 1517 = .ok (.iadd, 1) := by decide +kernel
theorem dL_law_1518 : decode cL_law 1518 = .ok (.iaload, 1) := by decide +kernel
theorem dL_law_1519 : decode cL_law 1519 = .ok (.invokevirtual 200, 3) := by decide +kernel
theorem dL_law_1522 : decode cL_law 1522 = .ok (.aload_n 2, 1) := by decide +kernel
theorem dL_law_1523 : decode cL_law 1523 = .ok (.aload_n 0, 1) := by decide +kernel
theorem dL_law_1524 : decode cL_law 1524 = .ok (.iload_n 3, 1) := by decide +kernel
theorem dL_law_1525 : decode cL_law 1525 = .ok (.iconst 1, 1) := by decide +kernel
theorem dL_law_1526 : decode cL_law 1526 = .ok (.iadd, 1) := by decide +kernel
theorem dL_law_1527 : decode cL_law 1527 = .ok (.iaload, 1) := by decide +kernel
theorem dL_law_1528 : decode cL_law 1528 = .ok (.invokevirtual 203, 3) := by decide +kernel
theorem dL_law_1531 : decode cL_law 1531 = .ok (.if_icmp .eq 90, 3) := by decide +kernel
theorem dL_law_1534 : decode cL_law 1534 = .ok (.iconst 0, 1) := by decide +kernel
theorem dL_law_1535 : decode cL_law 1535 = .ok (.ireturn, 1) := by decide +kernel
theorem dL_law_1536 : decode cL_law 1536 = .ok (.aload_n 1, 1) := by decide +kernel
theorem dL_law_1537 : decode cL_law 1537 = .ok (.invokevirtual 204, 3) := by decide +kernel
theorem dL_law_1540 : decode cL_law 1540 = .ok (.aload_n 2, 1) := by decide +kernel
theorem dL_law_1541 : decode cL_law 1541 = .ok (.invokevirtual 207, 3) := by decide +kernel
theorem dL_law_1544 : decode cL_law 1544 = .ok (.if_icmp .eq 77, 3) := by decide +kernel
theorem dL_law_1547 : decode cL_law 1547 = .ok (.iconst 0, 1) := by decide +kernel
theorem dL_law_1548 : decode cL_law 1548 = .ok (.ireturn, 1) := by decide +kernel
theorem dL_law_1549 : decode cL_law 1549 = .ok (.aload_n 1, 1) := by decide +kernel
theorem dL_law_1550 : decode cL_law 1550 = .ok (.aload_n 0, 1) := by decide +kernel
theorem dL_law_1551 : decode cL_law 1551 = .ok (.iload_n 3, 1) := by decide +kernel
theorem dL_law_1552 : decode cL_law 1552 = .ok (.iconst 1, 1) := by decide +kernel
theorem dL_law_1553 : decode cL_law 1553 = .ok (.iadd, 1) := by decide +kernel
theorem dL_law_1554 : decode cL_law 1554 = .ok (.iaload, 1) := by decide +kernel
theorem dL_law_1555 : decode cL_law 1555 = .ok (.invokevirtual 208, 3) := by decide +kernel
theorem dL_law_1558 : decode cL_law 1558 = .ok (.aload_n 2, 1) := by decide +kernel
theorem dL_law_1559 : decode cL_law 1559 = .ok (.aload_n 0, 1) := by decide +kernel
theorem dL_law_1560 : decode cL_law 1560 = .ok (.iload_n 3, 1) := by decide +kernel
theorem dL_law_1561 : decode cL_law 1561 = .ok (.iconst 1, 1) := by decide +kernel
theorem dL_law_1562 : decode cL_law 1562 = .ok (.iadd, 1) := by decide +kernel
theorem dL_law_1563 : decode cL_law 1563 = .ok (.iaload, 1) := by decide +kernel
theorem dL_law_1564 : decode cL_law 1564 = .ok (.invokevirtual 211, 3) := by decide +kernel
theorem dL_law_1567 : decode cL_law 1567 = .ok (.if_icmp .eq 54, 3) := by decide +kernel
theorem dL_law_1570 : decode cL_law 1570 = .ok (.iconst 0, 1) := by decide +kernel
theorem dL_law_1571 : decode cL_law 1571 = .ok (.ireturn, 1) := by decide +kernel
theorem dL_law_1572 : decode cL_law 1572 = .ok (.aload_n 1, 1) := by decide +kernel
theorem dL_law_1573 : decode cL_law 1573 = .ok (.invokevirtual 212, 3) := by decide +kernel
theorem dL_law_1576 : decode cL_law 1576 = .ok (.aload_n 2, 1) := by decide +kernel
theorem dL_law_1577 : decode cL_law 1577 = .ok (.invokevirtual 215, 3) := by decide +kernel
theorem dL_law_1580 : decode cL_law 1580 = .ok (.if_icmp .eq 41, 3) := by decide +kernel
theorem dL_law_1583 : decode cL_law 1583 = .ok (.iconst 0, 1) := by decide +kernel
theorem dL_law_1584 : decode cL_law 1584 = .ok (.ireturn, 1) := by decide +kernel
theorem dL_law_1585 : decode cL_law 1585 = .ok (.aload_n 1, 1) := by decide +kernel
theorem dL_law_1586 : decode cL_law 1586 = .ok (.invokevirtual 216, 3) := by decide +kernel
theorem dL_law_1589 : decode cL_law 1589 = .ok (.aload_n 2, 1) := by decide +kernel
theorem dL_law_1590 : decode cL_law 1590 = .ok (.invokevirtual 219, 3) := by decide +kernel
theorem dL_law_1593 : decode cL_law 1593 = .ok (.if_icmp .eq 28, 3) := by decide +kernel
theorem dL_law_1596 : decode cL_law 1596 = .ok (.iconst 0, 1) := by decide +kernel
theorem dL_law_1597 : decode cL_law 1597 = .ok (.ireturn, 1) := by decide +kernel
theorem dL_law_1598 : decode cL_law 1598 = .ok (.aload_n 1, 1) := by decide +kernel
theorem dL_law_1599 : decode cL_law 1599 = .ok (.aload_n 0, 1) := by decide +kernel
theorem dL_law_1600 : decode cL_law 1600 = .ok (.iload_n 3, 1) := by decide +kernel
theorem dL_law_1601 : decode cL_law 1601 = .ok (.iconst 1, 1) := by decide +kernel
theorem dL_law_1602 : decode cL_law 1602 = .ok (.iadd, 1) := by decide +kernel
theorem dL_law_1603 : decode cL_law 1603 = .ok (.iaload, 1) := by decide +kernel
theorem dL_law_1604 : decode cL_law 1604 = .ok (.invokevirtual 220, 3) := by decide +kernel
theorem dL_law_1607 : decode cL_law 1607 = .ok (.aload_n 2, 1) := by decide +kernel
theorem dL_law_1608 : decode cL_law 1608 = .ok (.aload_n 0, 1) := by decide +kernel
theorem dL_law_1609 : decode cL_law 1609 = .ok (.iload_n 3, 1) := by decide +kernel
theorem dL_law_1610 : decode cL_law 1610 = .ok (.iconst 1, 1) := by decide +kernel
theorem dL_law_1611 : decode cL_law 1611 = .ok (.iadd, 1) := by decide +kernel
theorem dL_law_1612 : decode cL_law 1612 = .ok (.iaload, 1) := by decide +kernel
theorem dL_law_1613 : decode cL_law 1613 = .ok (.invokevirtual 223, 3) := by decide +kernel
theorem dL_law_1616 : decode cL_law 1616 = .ok (.if_icmp .eq 5, 3) := by decide +kernel
theorem dL_law_1619 : decode cL_law 1619 = .ok (.iconst 0, 1) := by decide +kernel
theorem dL_law_1620 : decode cL_law 1620 = .ok (.ireturn, 1) := by decide +kernel
theorem dL_law_1621 : decode cL_law 1621 = .ok (.iinc 3 6, 3) := by decide +kernel
theorem dL_law_1624 : decode cL_law 1624 = .ok (.goto (-1606), 3) := by decide +kernel
theorem dL_law_1627 : decode cL_law 1627 = .ok (.iconst 1, 1) := by decide +kernel
theorem dL_law_1628 : decode cL_law 1628 = .ok (.ireturn, 1) := by decide +kernel
