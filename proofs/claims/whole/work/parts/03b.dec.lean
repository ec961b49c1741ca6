/-! decode rows -/
theorem dX3_init_0 : decode cX3_init 0 = .ok (.aload_n 0, 1) := by decide +kernel
theorem dX3_init_1 : decode cX3_init 1 = .ok (.invokespecial 3, 3) := by decide +kernel
theorem dX3_init_4 : decode cX3_init 4 = .ok (.aload_n 0, 1) := by decide +kernel
theorem dX3_init_5 : decode cX3_init 5 = .ok (.bipush 8, 2) := by decide +kernel
theorem dX3_init_7 : decode cX3_init 7 = .ok (.anewarray 9, 3) := by decide +kernel
theorem dX3_init_10 : decode cX3_init 10 = .ok (.putfield 11, 3) := by decide +kernel
theorem dX3_init_13 : decode cX3_init 13 = .ok (.aload_n 0, 1) := by decide +kernel
theorem dX3_init_14 : decode cX3_init 14 = .ok (.iconst 4, 1) := by decide +kernel
theorem dX3_init_15 : decode cX3_init 15 = .ok (.newarray .int, 2) := by decide +kernel
theorem dX3_init_17 : decode cX3_init 17 = .ok (.putfield 17, 3) := by decide +kernel
theorem dX3_init_20 : decode cX3_init 20 = .ok (.aload_n 0, 1) := by decide +kernel
theorem dX3_init_21 : decode cX3_init 21 = .ok (.getstatic 21, 3) := by decide +kernel
theorem dX3_init_24 : decode cX3_init 24 = .ok (.invokevirtual 24, 3) := by decide +kernel
theorem dX3_init_27 : decode cX3_init 27 = .ok (.checkcast 25, 3) := by decide +kernel
theorem dX3_init_30 : decode cX3_init 30 = .ok (.putfield 29, 3) := by decide +kernel
theorem dX3_init_33 : decode cX3_init 33 = .ok (.aload_n 0, 1) := by decide +kernel
theorem dX3_init_34 : decode cX3_init 34 = .ok (.bipush 6, 2) := by decide +kernel
theorem dX3_init_36 : decode cX3_init 36 = .ok (.newarray .int, 2) := by decide +kernel
theorem dX3_init_38 : decode cX3_init 38 = .ok (.putfield 32, 3) := by decide +kernel
theorem dX3_init_41 : decode cX3_init 41 = .ok (.iconst 0, 1) := by decide +kernel
theorem dX3_init_42 : decode cX3_init 42 = .ok (.istore_n 1, 1) := by decide +kernel
theorem dX3_init_43 : decode cX3_init 43 = .ok (.iload_n 1, 1) := by decide +kernel
theorem dX3_init_44 : decode cX3_init 44 = .ok (.bipush 8, 2) := by decide +kernel
theorem dX3_init_46 : decode cX3_init 46 = .ok (.if_icmp .ge 22, 3) := by decide +kernel
theorem dX3_init_49 : decode cX3_init 49 = .ok (.aload_n 0, 1) := by decide +kernel
theorem dX3_init_50 : decode cX3_init 50 = .ok (.getfield 11, 3) := by decide +kernel
theorem dX3_init_53 : decode cX3_init 53 = .ok (.iload_n 1, 1) := by decide +kernel
theorem dX3_init_54 : decode cX3_init 54 = .ok (.new 9, 3) := by decide +kernel
theorem dX3_init_57 : decode cX3_init 57 = .ok (.dup, 1) := by decide +kernel
theorem dX3_init_58 : decode cX3_init 58 = .ok (.invokespecial 35, 3) := by decide +kernel
theorem dX3_init_61 : decode cX3_init 61 = .ok (.aastore, 1) := by decide +kernel
theorem dX3_init_62 : decode cX3_init 62 = .ok (.iinc 1 1, 3) := by decide +kernel
theorem dX3_init_65 : decode cX3_init 65 = .ok (.goto (-22), 3) := by decide +kernel
theorem dX3_init_68 : decode cX3_init 68 = .ok (.return_, 1) := by decide +kernel
theorem dX3_copy_0 : decode cX3_copy 0 = .ok (.aload_n 0, 1) := by decide +kernel
theorem dX3_copy_1 : decode cX3_copy 1 = .ok (.aload_n 1, 1) := by decide +kernel
theorem dX3_copy_2 : decode cX3_copy 2 = .ok (.getfield 36, 3) := by decide +kernel
theorem dX3_copy_5 : decode cX3_copy 5 = .ok (.putfield 36, 3) := by decide +kernel
theorem dX3_copy_8 : decode cX3_copy 8 = .ok (.iconst 0, 1) := by decide +kernel
theorem dX3_copy_9 : decode cX3_copy 9 = .ok (.istore_n 2, 1) := by decide +kernel
theorem dX3_copy_10 : decode cX3_copy 10 = .ok (.iload_n 2, 1) := by decide +kernel
theorem dX3_copy_11 : decode cX3_copy 11 = .ok (.aload_n 0, 1) := by decide +kernel
theorem dX3_copy_12 : decode cX3_copy 12 = .ok (.getfield 36, 3) := by decide +kernel
theorem dX3_copy_15 : decode cX3_copy 15 = .ok (.if_icmp .ge 24, 3) := by decide +kernel
theorem dX3_copy_18 : decode cX3_copy 18 = .ok (.aload_n 0, 1) := by decide +kernel
theorem dX3_copy_19 : decode cX3_copy 19 = .ok (.getfield 11, 3) := by decide +kernel
theorem dX3_copy_22 : decode cX3_copy 22 = .ok (.iload_n 2, 1) := by decide +kernel
theorem dX3_copy_23 : decode cX3_copy 23 = .ok (.aaload, 1) := by decide +kernel
theorem dX3_copy_24 : decode cX3_copy 24 = .ok (.aload_n 1, 1) := by decide +kernel
theorem dX3_copy_25 : decode cX3_copy 25 = .ok (.getfield 11, 3) := by decide +kernel
theorem dX3_copy_28 : decode cX3_copy 28 = .ok (.iload_n 2, 1) := by decide +kernel
theorem dX3_copy_29 : decode cX3_copy 29 = .ok (.aaload, 1) := by decide +kernel
theorem dX3_copy_30 : decode cX3_copy 30 = .ok (.invokevirtual 40, 3) := by decide +kernel
theorem dX3_copy_33 : decode cX3_copy 33 = .ok (.iinc 2 1, 3) := by decide +kernel
theorem dX3_copy_36 : decode cX3_copy 36 = .ok (.goto (-26), 3) := by decide +kernel
theorem dX3_copy_39 : decode cX3_copy 39 = .ok (.aload_n 1, 1) := by decide +kernel
theorem dX3_copy_40 : decode cX3_copy 40 = .ok (.getfield 17, 3) := by decide +kernel
theorem dX3_copy_43 : decode cX3_copy 43 = .ok (.iconst 0, 1) := by decide +kernel
theorem dX3_copy_44 : decode cX3_copy 44 = .ok (.aload_n 0, 1) := by decide +kernel
theorem dX3_copy_45 : decode cX3_copy 45 = .ok (.getfield 17, 3) := by decide +kernel
theorem dX3_copy_48 : decode cX3_copy 48 = .ok (.iconst 0, 1) := by decide +kernel
theorem dX3_copy_49 : decode cX3_copy 49 = .ok (.iconst 4, 1) := by decide +kernel
theorem dX3_copy_50 : decode cX3_copy 50 = .ok (.invokestatic 44, 3) := by decide +kernel
theorem dX3_copy_53 : decode cX3_copy 53 = .ok (.aload_n 1, 1) := by decide +kernel
theorem dX3_copy_54 : decode cX3_copy 54 = .ok (.getfield 29, 3) := by decide +kernel
theorem dX3_copy_57 : decode cX3_copy 57 = .ok (.iconst 0, 1) := by decide +kernel
theorem dX3_copy_58 : decode cX3_copy 58 = .ok (.aload_n 0, 1) := by decide +kernel
theorem dX3_copy_59 : decode cX3_copy 59 = .ok (.getfield 29, 3) := by decide +kernel
theorem dX3_copy_62 : decode cX3_copy 62 = .ok (.iconst 0, 1) := by decide +kernel
theorem dX3_copy_63 : decode cX3_copy 63 = .ok (.aload_n 0, 1) := by decide +kernel
theorem dX3_copy_64 : decode cX3_copy 64 = .ok (.getfield 29, 3) := by decide +kernel
theorem dX3_copy_67 : decode cX3_copy 67 = .ok (.arraylength, 1) := by decide +kernel
theorem dX3_copy_68 : decode cX3_copy 68 = .ok (.invokestatic 44, 3) := by decide +kernel
theorem dX3_copy_71 : decode cX3_copy 71 = .ok (.aload_n 1, 1) := by decide +kernel
theorem dX3_copy_72 : decode cX3_copy 72 = .ok (.getfield 32, 3) := by decide +kernel
theorem dX3_copy_75 : decode cX3_copy 75 = .ok (.iconst 0, 1) := by decide +kernel
theorem dX3_copy_76 : decode cX3_copy 76 = .ok (.aload_n 0, 1) := by decide +kernel
theorem dX3_copy_77 : decode cX3_copy 77 = .ok (.getfield 32, 3) := by decide +kernel
theorem dX3_copy_80 : decode cX3_copy 80 = .ok (.iconst 0, 1) := by decide +kernel
theorem dX3_copy_81 : decode cX3_copy 81 = .ok (.bipush 6, 2) := by decide +kernel
theorem dX3_copy_83 : decode cX3_copy 83 = .ok (.invokestatic 44, 3) := by decide +kernel
theorem dX3_copy_86 : decode cX3_copy 86 = .ok (.return_, 1) := by decide +kernel
theorem dX3_hasTable_0 : decode cX3_hasTable 0 = .ok (.iload_n 1, 1) := by decide +kernel
theorem dX3_hasTable_1 : decode cX3_hasTable 1 = .ok (.aload_n 0, 1) := by decide +kernel
theorem dX3_hasTable_2 : decode cX3_hasTable 2 = .ok (.getfield 36, 3) := by decide +kernel
theorem dX3_hasTable_5 : decode cX3_hasTable 5 = .ok (.invokestatic 50, 3) := by decide +kernel
theorem dX3_hasTable_8 : decode cX3_hasTable 8 = .ok (.ireturn, 1) := by decide +kernel
theorem dX3_addTable_0 : decode cX3_addTable 0 = .ok (.aload_n 0, 1) := by decide +kernel
theorem dX3_addTable_1 : decode cX3_addTable 1 = .ok (.getfield 11, 3) := by decide +kernel
theorem dX3_addTable_4 : decode cX3_addTable 4 = .ok (.aload_n 0, 1) := by decide +kernel
theorem dX3_addTable_5 : decode cX3_addTable 5 = .ok (.getfield 36, 3) := by decide +kernel
theorem dX3_addTable_8 : decode cX3_addTable 8 = .ok (.aaload, 1) := by decide +kernel
theorem dX3_addTable_9 : decode cX3_addTable 9 = .ok (.iload_n 1, 1) := by decide +kernel
theorem dX3_addTable_10 : decode cX3_addTable 10 = .ok (.invokevirtual 54, 3) := by decide +kernel
theorem dX3_addTable_13 : decode cX3_addTable 13 = .ok (.aload_n 0, 1) := by decide +kernel
theorem dX3_addTable_14 : decode cX3_addTable 14 = .ok (.dup, 1) := by decide +kernel
theorem dX3_addTable_15 : decode cX3_addTable 15 = .ok (.getfield 36, 3) := by decide +kernel
theorem dX3_addTable_18 : decode cX3_addTable 18 = .ok (.iconst 1, 1) := by decide +kernel
theorem dX3_addTable_19 : decode cX3_addTable 19 = .ok (.iadd, 1) := by decide +kernel
theorem dX3_addTable_20 : decode cX3_addTable 20 = .ok (.putfield 36, 3) := by decide +kernel
theorem dX3_addTable_23 : decode cX3_addTable 23 = .ok (.aload_n 0, 1) := by decide +kernel
theorem dX3_addTable_24 : decode cX3_addTable 24 = .ok (.getfield 36, 3) := by decide +kernel
theorem dX3_addTable_27 : decode cX3_addTable 27 = .ok (.iconst 1, 1) := by decide +kernel
theorem dX3_addTable_28 : decode cX3_addTable 28 = .ok (.isub, 1) := by decide +kernel
theorem dX3_addTable_29 : decode cX3_addTable 29 = .ok (.ireturn, 1) := by decide +kernel
theorem dX3_removeTable_0 : decode cX3_removeTable 0 = .ok (.aload_n 0, 1) := by decide +kernel
theorem dX3_removeTable_1 : decode cX3_removeTable 1 = .ok (.getfield 11, 3) := by decide +kernel
theorem dX3_removeTable_4 : decode cX3_removeTable 4 = .ok (.iload_n 1, 1) := by decide +kernel
theorem dX3_removeTable_5 : decode cX3_removeTable 5 = .ok (.aaload, 1) := by decide +kernel
theorem dX3_removeTable_6 : decode cX3_removeTable 6 = .ok (.astore_n 2, 1) := by decide +kernel
theorem dX3_removeTable_7 : decode cX3_removeTable 7 = .ok (.iload_n 1, 1) := by decide +kernel
theorem dX3_removeTable_8 : decode cX3_removeTable 8 = .ok (.istore_n 3, 1) := by decide +kernel
theorem dX3_removeTable_9 : decode cX3_removeTable 9 = .ok (.iload_n 3, 1) := by decide +kernel
theorem dX3_removeTable_10 : decode cX3_removeTable 10 = .ok (.iconst 1, 1) := by decide +kernel
theorem dX3_removeTable_11 : decode cX3_removeTable 11 = .ok (.iadd, 1) := by decide +kernel
theorem dX3_removeTable_12 : decode cX3_removeTable 12 = .ok (.aload_n 0, 1) := by decide +kernel
theorem dX3_removeTable_13 : decode cX3_removeTable 13 = .ok (.getfield 36, 3) := by decide +kernel
theorem dX3_removeTable_16 : decode cX3_removeTable 16 = .ok (.if_icmp .ge 23, 3) := by decide +kernel
theorem dX3_removeTable_19 : decode cX3_removeTable 19 = .ok (.aload_n 0, 1) := by decide +kernel
theorem dX3_removeTable_20 : decode cX3_removeTable 20 = .ok (.getfield 11, 3) := by decide +kernel
theorem dX3_removeTable_23 : decode cX3_removeTable 23 = .ok (.iload_n 3, 1) := by decide +kernel
theorem dX3_removeTable_24 : decode cX3_removeTable 24 = .ok (.aload_n 0, 1) := by decide +kernel
theorem dX3_removeTable_25 : decode cX3_removeTable 25 = .ok (.getfield 11, 3) := by decide +kernel
theorem dX3_removeTable_28 : decode cX3_removeTable 28 = .ok (.iload_n 3, 1) := by decide +kernel
theorem dX3_removeTable_29 : decode cX3_removeTable 29 = .ok (.iconst 1, 1) := by decide +kernel
theorem dX3_removeTable_30 : decode cX3_removeTable 30 = .ok (.iadd, 1) := by decide +kernel
theorem dX3_removeTable_31 : decode cX3_removeTable 31 = .ok (.aaload, 1) := by decide +kernel
theorem dX3_removeTable_32 : decode cX3_removeTable 32 = .ok (.aastore, 1) := by decide +kernel
theorem dX3_removeTable_33 : decode cX3_removeTable 33 = .ok (.iinc 3 1, 3) := by decide +kernel
theorem dX3_removeTable_36 : decode cX3_removeTable 36 = .ok (.goto (-27), 3) := by decide +kernel
theorem dX3_removeTable_39 : decode cX3_removeTable 39 = .ok (.aload_n 0, 1) := by decide +kernel
theorem dX3_removeTable_40 : decode cX3_removeTable 40 = .ok (.dup, 1) := by decide +kernel
theorem dX3_removeTable_41 : decode cX3_removeTable 41 = .ok (.getfield 36, 3) := by decide +kernel
theorem dX3_removeTable_44 : decode cX3_removeTable 44 = .ok (.iconst 1, 1) := by decide +kernel
theorem dX3_removeTable_45 : decode cX3_removeTable 45 = .ok (.isub, 1) := by decide +kernel
theorem dX3_removeTable_46 : decode cX3_removeTable 46 = .ok (.putfield 36, 3) := by decide +kernel
theorem dX3_removeTable_49 : decode cX3_removeTable 49 = .ok (.aload_n 0, 1) := by decide +kernel
theorem dX3_removeTable_50 : decode cX3_removeTable 50 = .ok (.getfield 11, 3) := by decide +kernel
theorem dX3_removeTable_53 : decode cX3_removeTable 53 = .ok (.aload_n 0, 1) := by decide +kernel
theorem dX3_removeTable_54 : decode cX3_removeTable 54 = .ok (.getfield 36, 3) := by decide +kernel
theorem dX3_removeTable_57 : decode cX3_removeTable 57 = .ok (.aload_n 2, 1) := by decide +kernel
theorem dX3_removeTable_58 : decode cX3_removeTable 58 = .ok (.aastore, 1) := by decide +kernel
theorem dX3_removeTable_59 : decode cX3_removeTable 59 = .ok (.aload_n 0, 1) := by decide +kernel
theorem dX3_removeTable_60 : decode cX3_removeTable 60 = .ok (.getfield 36, 3) := by decide +kernel
theorem dX3_removeTable_63 : decode cX3_removeTable 63 = .ok (.ireturn, 1) := by decide +kernel
theorem dX3_isTakenElsewhere_0 : decode cX3_isTakenElsewhere 0 = .ok (.iload_n 2, 1) := by decide +kernel
theorem dX3_isTakenElsewhere_1 : decode cX3_isTakenElsewhere 1 = .ok (.invokestatic 58, 3) := by decide +kernel
theorem dX3_isTakenElsewhere_4 : decode cX3_isTakenElsewhere 4 = .ok (.ifCond .ne 5, 3) := by decide +kernel
theorem dX3_isTakenElsewhere_7 : decode cX3_isTakenElsewhere 7 = .ok (.iconst 0, 1) := by decide +kernel
theorem dX3_isTakenElsewhere_8 : decode cX3_isTakenElsewhere 8 = .ok (.ireturn, 1) := by decide +kernel
theorem dX3_isTakenElsewhere_9 : decode cX3_isTakenElsewhere 9 = .ok (.iconst 0, 1) := by decide +kernel
theorem dX3_isTakenElsewhere_10 : decode cX3_isTakenElsewhere 10 = .ok (.istore 4, 2) := by decide +kernel
theorem dX3_isTakenElsewhere_12 : decode cX3_isTakenElsewhere 12 = .ok (.iconst 0, 1) := by decide +kernel
theorem dX3_isTakenElsewhere_13 : decode cX3_isTakenElsewhere 13 = .ok (.istore 5, 2) := by decide +kernel
theorem dX3_isTakenElsewhere_15 : decode cX3_isTakenElsewhere 15 = .ok (.iload 5, 2) := by decide +kernel
theorem dX3_isTakenElsewhere_17 : decode cX3_isTakenElsewhere 17 = .ok (.aload_n 0, 1) := by decide +kernel
theorem dX3_isTakenElsewhere_18 : decode cX3_isTakenElsewhere 18 = .ok (.getfield 36, 3) := by decide +kernel
theorem dX3_isTakenElsewhere_21 : decode cX3_isTakenElsewhere 21 = .ok (.if_icmp .ge 34, 3) := by decide +kernel
theorem dX3_isTakenElsewhere_24 : decode cX3_isTakenElsewhere 24 = .ok (.iload 4, 2) := by decide +kernel
theorem dX3_isTakenElsewhere_26 : decode cX3_isTakenElsewhere 26 = .ok (.iload 5, 2) := by decide +kernel
theorem dX3_isTakenElsewhere_28 : decode cX3_isTakenElsewhere 28 = .ok (.iload_n 1, 1) := by decide +kernel
theorem dX3_isTakenElsewhere_29 : decode cX3_isTakenElsewhere 29 = .ok (.if_icmp .ne 7, 3) := by decide +kernel
theorem dX3_isTakenElsewhere_32 : decode cX3_isTakenElsewhere 32 = .ok (.iconst 0, 1) := by decide +kernel
theorem dX3_isTakenElsewhere_33 : decode cX3_isTakenElsewhere 33 = .ok (.goto 13, 3) := by decide +kernel
theorem dX3_isTakenElsewhere_36 : decode cX3_isTakenElsewhere 36 = .ok (.aload_n 0, 1) := by decide +kernel
theorem dX3_isTakenElsewhere_37 : decode cX3_isTakenElsewhere 37 = .ok (.getfield 11, 3) := by decide +kernel
theorem dX3_isTakenElsewhere_40 : decode cX3_isTakenElsewhere 40 = .ok (.iload 5, 2) := by decide +kernel
theorem dX3_isTakenElsewhere_42 : decode cX3_isTakenElsewhere 42 = .ok (.aaload, 1) := by decide +kernel
theorem dX3_isTakenElsewhere_43 : decode cX3_isTakenElsewhere 43 = .ok (.invokevirtual 62, 3) := by decide +kernel
theorem dX3_isTakenElsewhere_46 : decode cX3_isTakenElsewhere 46 = .ok (.ior, 1) := by decide +kernel
theorem dX3_isTakenElsewhere_47 : decode cX3_isTakenElsewhere 47 = .ok (.istore 4, 2) := by decide +kernel
theorem dX3_isTakenElsewhere_49 : decode cX3_isTakenElsewhere 49 = .ok (.iinc 5 1, 3) := by decide +kernel
theorem dX3_isTakenElsewhere_52 : decode cX3_isTakenElsewhere 52 = .ok (.goto (-37), 3) := by decide +kernel
theorem dX3_isTakenElsewhere_55 : decode cX3_isTakenElsewhere 55 = .ok (.iload 4, 2) := by decide +kernel
theorem dX3_isTakenElsewhere_57 : decode cX3_isTakenElsewhere 57 = .ok (.iconst 1, 1) := by decide +kernel
theorem dX3_isTakenElsewhere_58 : decode cX3_isTakenElsewhere 58 = .ok (.iload_n 3, 1) := by decide +kernel
theorem dX3_isTakenElsewhere_59 : decode cX3_isTakenElsewhere 59 = .ok (.ishl, 1) := by decide +kernel
theorem dX3_isTakenElsewhere_60 : decode cX3_isTakenElsewhere 60 = .ok (.iand, 1) := by decide +kernel
theorem dX3_isTakenElsewhere_61 : decode cX3_isTakenElsewhere 61 = .ok (.ifCond .eq 7, 3) := by decide +kernel
theorem dX3_isTakenElsewhere_64 : decode cX3_isTakenElsewhere 64 = .ok (.iconst 1, 1) := by decide +kernel
theorem dX3_isTakenElsewhere_65 : decode cX3_isTakenElsewhere 65 = .ok (.goto 4, 3) := by decide +kernel
theorem dX3_isTakenElsewhere_68 : decode cX3_isTakenElsewhere 68 = .ok (.iconst 0, 1) := by decide +kernel
theorem dX3_isTakenElsewhere_69 : decode cX3_isTakenElsewhere 69 = .ok (.ireturn, 1) := by decide +kernel
theorem dX4_init_0 : decode cX4_init 0 = .ok (.aload_n 0, 1) := by decide +kernel
theorem dX4_init_1 : decode cX4_init 1 = .ok (.invokespecial 3, 3) := by decide +kernel
theorem dX4_init_4 : decode cX4_init 4 = .ok (.aload_n 0, 1) := by decide +kernel
theorem dX4_init_5 : decode cX4_init 5 = .ok (.sipush 256, 3) := by decide +kernel
theorem dX4_init_8 : decode cX4_init 8 = .ok (.newarray .int, 2) := by decide +kernel
theorem dX4_init_10 : decode cX4_init 10 = .ok (.putfield 9, 3) := by decide +kernel
theorem dX4_init_13 : decode cX4_init 13 = .ok (.aload_n 0, 1) := by decide +kernel
theorem dX4_init_14 : decode cX4_init 14 = .ok (.sipush 256, 3) := by decide +kernel
theorem dX4_init_17 : decode cX4_init 17 = .ok (.newarray .int, 2) := by decide +kernel
theorem dX4_init_19 : decode cX4_init 19 = .ok (.putfield 15, 3) := by decide +kernel
theorem dX4_init_22 : decode cX4_init 22 = .ok (.aload_n 0, 1) := by decide +kernel
theorem dX4_init_23 : decode cX4_init 23 = .ok (.sipush 256, 3) := by decide +kernel
theorem dX4_init_26 : decode cX4_init 26 = .ok (.newarray .int, 2) := by decide +kernel
theorem dX4_init_28 : decode cX4_init 28 = .ok (.putfield 18, 3) := by decide +kernel
theorem dX4_init_31 : decode cX4_init 31 = .ok (.return_, 1) := by decide +kernel
theorem dX4_fewestStages_0 : decode cX4_fewestStages 0 = .ok (.iconst 1, 1) := by decide +kernel
theorem dX4_fewestStages_1 : decode cX4_fewestStages 1 = .ok (.aload_n 2, 1) := by decide +kernel
theorem dX4_fewestStages_2 : decode cX4_fewestStages 2 = .ok (.getfield 21, 3) := by decide +kernel
theorem dX4_fewestStages_5 : decode cX4_fewestStages 5 = .ok (.ishl, 1) := by decide +kernel
theorem dX4_fewestStages_6 : decode cX4_fewestStages 6 = .ok (.iconst 1, 1) := by decide +kernel
theorem dX4_fewestStages_7 : decode cX4_fewestStages 7 = .ok (.isub, 1) := by decide +kernel
theorem dX4_fewestStages_8 : decode cX4_fewestStages 8 = .ok (.istore_n 3, 1) := by decide +kernel
theorem dX4_fewestStages_9 : decode cX4_fewestStages 9 = .ok (.aload_n 0, 1) := by decide +kernel
theorem dX4_fewestStages_10 : decode cX4_fewestStages 10 = .ok (.aload_n 1, 1) := by decide +kernel
theorem dX4_fewestStages_11 : decode cX4_fewestStages 11 = .ok (.aload_n 2, 1) := by decide +kernel
theorem dX4_fewestStages_12 : decode cX4_fewestStages 12 = .ok (.getfield 21, 3) := by decide +kernel
theorem dX4_fewestStages_15 : decode cX4_fewestStages 15 = .ok (.invokevirtual 27, 3) := by decide +kernel
theorem dX4_fewestStages_18 : decode cX4_fewestStages 18 = .ok (.aload_n 0, 1) := by decide +kernel
theorem dX4_fewestStages_19 : decode cX4_fewestStages 19 = .ok (.getfield 9, 3) := by decide +kernel
theorem dX4_fewestStages_22 : decode cX4_fewestStages 22 = .ok (.bipush 99, 2) := by decide +kernel
theorem dX4_fewestStages_24 : decode cX4_fewestStages 24 = .ok (.invokestatic 31, 3) := by decide +kernel
theorem dX4_fewestStages_27 : decode cX4_fewestStages 27 = .ok (.aload_n 0, 1) := by decide +kernel
theorem dX4_fewestStages_28 : decode cX4_fewestStages 28 = .ok (.getfield 9, 3) := by decide +kernel
theorem dX4_fewestStages_31 : decode cX4_fewestStages 31 = .ok (.iconst 0, 1) := by decide +kernel
theorem dX4_fewestStages_32 : decode cX4_fewestStages 32 = .ok (.iconst 0, 1) := by decide +kernel
theorem dX4_fewestStages_33 : decode cX4_fewestStages 33 = .ok (.iastore, 1) := by decide +kernel
theorem dX4_fewestStages_34 : decode cX4_fewestStages 34 = .ok (.iconst 0, 1) := by decide +kernel
theorem dX4_fewestStages_35 : decode cX4_fewestStages 35 = .ok (.istore 4, 2) := by decide +kernel
theorem dX4_fewestStages_37 : decode cX4_fewestStages 37 = .ok (.iload 4, 2) := by decide +kernel
theorem dX4_fewestStages_39 : decode cX4_fewestStages 39 = .ok (.iload_n 3, 1) := by decide +kernel
theorem dX4_fewestStages_40 : decode cX4_fewestStages 40 = .ok (.if_icmp .ge 42, 3) := by decide +kernel
theorem dX4_fewestStages_43 : decode cX4_fewestStages 43 = .ok (.aload_n 0, 1) := by decide +kernel
theorem dX4_fewestStages_44 : decode cX4_fewestStages 44 = .ok (.getfield 9, 3) := by decide +kernel
theorem dX4_fewestStages_47 : decode cX4_fewestStages 47 = .ok (.iload 4, 2) := by decide +kernel
theorem dX4_fewestStages_49 : decode cX4_fewestStages 49 = .ok (.iaload, 1) := by decide +kernel
theorem dX4_fewestStages_50 : decode cX4_fewestStages 50 = .ok (.bipush 99, 2) := by decide +kernel
theorem dX4_fewestStages_52 : decode cX4_fewestStages 52 = .ok (.if_icmp .eq 24, 3) := by decide +kernel
theorem dX4_fewestStages_55 : decode cX4_fewestStages 55 = .ok (.aload_n 0, 1) := by decide +kernel
theorem dX4_fewestStages_56 : decode cX4_fewestStages 56 = .ok (.iload 4, 2) := by decide +kernel
theorem dX4_fewestStages_58 : decode cX4_fewestStages 58 = .ok (.aload_n 0, 1) := by decide +kernel
theorem dX4_fewestStages_59 : decode cX4_fewestStages 59 = .ok (.iload 4, 2) := by decide +kernel
theorem dX4_fewestStages_61 : decode cX4_fewestStages 61 = .ok (.aload_n 1, 1) := by decide +kernel
theorem dX4_fewestStages_62 : decode cX4_fewestStages 62 = .ok (.aload_n 2, 1) := by decide +kernel
theorem dX4_fewestStages_63 : decode cX4_fewestStages 63 = .ok (.getfield 21, 3) := by decide +kernel
theorem dX4_fewestStages_66 : decode cX4_fewestStages 66 = .ok (.invokevirtual 37, 3) := by decide +kernel
theorem dX4_fewestStages_69 : decode cX4_fewestStages 69 = .ok (.aload_n 2, 1) := by decide +kernel
theorem dX4_fewestStages_70 : decode cX4_fewestStages 70 = .ok (.getfield 41, 3) := by decide +kernel
theorem dX4_fewestStages_73 : decode cX4_fewestStages 73 = .ok (.invokevirtual 44, 3) := by decide +kernel
theorem dX4_fewestStages_76 : decode cX4_fewestStages 76 = .ok (.iinc 4 1, 3) := by decide +kernel
theorem dX4_fewestStages_79 : decode cX4_fewestStages 79 = .ok (.goto (-42), 3) := by decide +kernel
theorem dX4_fewestStages_82 : decode cX4_fewestStages 82 = .ok (.aload_n 0, 1) := by decide +kernel
theorem dX4_fewestStages_83 : decode cX4_fewestStages 83 = .ok (.getfield 9, 3) := by decide +kernel
theorem dX4_fewestStages_86 : decode cX4_fewestStages 86 = .ok (.iload_n 3, 1) := by decide +kernel
theorem dX4_fewestStages_87 : decode cX4_fewestStages 87 = .ok (.iaload, 1) := by decide +kernel
theorem dX4_fewestStages_88 : decode cX4_fewestStages 88 = .ok (.ireturn, 1) := by decide +kernel
theorem dX4_measure_0 : decode cX4_measure 0 = .ok (.iconst 0, 1) := by decide +kernel
theorem dX4_measure_1 : decode cX4_measure 1 = .ok (.istore_n 3, 1) := by decide +kernel
theorem dX4_measure_2 : decode cX4_measure 2 = .ok (.iload_n 3, 1) := by decide +kernel
theorem dX4_measure_3 : decode cX4_measure 3 = .ok (.iload_n 2, 1) := by decide +kernel
theorem dX4_measure_4 : decode cX4_measure 4 = .ok (.if_icmp .ge 78, 3) := by decide +kernel
theorem dX4_measure_7 : decode cX4_measure 7 = .ok (.iconst 1, 1) := by decide +kernel
theorem dX4_measure_8 : decode cX4_measure 8 = .ok (.iload_n 3, 1) := by decide +kernel
theorem dX4_measure_9 : decode cX4_measure 9 = .ok (.ishl, 1) := by decide +kernel
theorem dX4_measure_10 : decode cX4_measure 10 = .ok (.istore 4, 2) := by decide +kernel
theorem dX4_measure_12 : decode cX4_measure 12 = .ok (.iload 4, 2) := by decide +kernel
theorem dX4_measure_14 : decode cX4_measure 14 = .ok (.iconst 2, 1) := by decide +kernel
theorem dX4_measure_15 : decode cX4_measure 15 = .ok (.iload_n 3, 1) := by decide +kernel
theorem dX4_measure_16 : decode cX4_measure 16 = .ok (.ishl, 1) := by decide +kernel
theorem dX4_measure_17 : decode cX4_measure 17 = .ok (.if_icmp .ge 59, 3) := by decide +kernel
theorem dX4_measure_20 : decode cX4_measure 20 = .ok (.iload 4, 2) := by decide +kernel
theorem dX4_measure_22 : decode cX4_measure 22 = .ok (.iconst 1, 1) := by decide +kernel
theorem dX4_measure_23 : decode cX4_measure 23 = .ok (.iload_n 3, 1) := by decide +kernel
theorem dX4_measure_24 : decode cX4_measure 24 = .ok (.ishl, 1) := by decide +kernel
theorem dX4_measure_25 : decode cX4_measure 25 = .ok (.ixor, 1) := by decide +kernel
theorem dX4_measure_26 : decode cX4_measure 26 = .ok (.istore 5, 2) := by decide +kernel
theorem dX4_measure_28 : decode cX4_measure 28 = .ok (.aload_n 0, 1) := by decide +kernel
theorem dX4_measure_29 : decode cX4_measure 29 = .ok (.getfield 15, 3) := by decide +kernel
theorem dX4_measure_32 : decode cX4_measure 32 = .ok (.iload 4, 2) := by decide +kernel
theorem dX4_measure_34 : decode cX4_measure 34 = .ok (.aload_n 0, 1) := by decide +kernel
theorem dX4_measure_35 : decode cX4_measure 35 = .ok (.getfield 15, 3) := by decide +kernel
theorem dX4_measure_38 : decode cX4_measure 38 = .ok (.iload 5, 2) := by decide +kernel
theorem dX4_measure_40 : decode cX4_measure 40 = .ok (.iaload, 1) := by decide +kernel
theorem dX4_measure_41 : decode cX4_measure 41 = .ok (.aload_n 1, 1) := by decide +kernel
theorem dX4_measure_42 : decode cX4_measure 42 = .ok (.getfield 48, 3) := by decide +kernel
theorem dX4_measure_45 : decode cX4_measure 45 = .ok (.iload_n 3, 1) := by decide +kernel
theorem dX4_measure_46 : decode cX4_measure 46 = .ok (.iaload, 1) := by decide +kernel
theorem dX4_measure_47 : decode cX4_measure 47 = .ok (.iadd, 1) := by decide +kernel
theorem dX4_measure_48 : decode cX4_measure 48 = .ok (.iastore, 1) := by decide +kernel
theorem dX4_measure_49 : decode cX4_measure 49 = .ok (.aload_n 0, 1) := by decide +kernel
theorem dX4_measure_50 : decode cX4_measure 50 = .ok (.getfield 18, 3) := by decide +kernel
theorem dX4_measure_53 : decode cX4_measure 53 = .ok (.iload 4, 2) := by decide +kernel
theorem dX4_measure_55 : decode cX4_measure 55 = .ok (.aload_n 0, 1) := by decide +kernel
theorem dX4_measure_56 : decode cX4_measure 56 = .ok (.getfield 18, 3) := by decide +kernel
theorem dX4_measure_59 : decode cX4_measure 59 = .ok (.iload 5, 2) := by decide +kernel
theorem dX4_measure_61 : decode cX4_measure 61 = .ok (.iaload, 1) := by decide +kernel
theorem dX4_measure_62 : decode cX4_measure 62 = .ok (.aload_n 1, 1) := by decide +kernel
theorem dX4_measure_63 : decode cX4_measure 63 = .ok (.getfield 51, 3) := by decide +kernel
theorem dX4_measure_66 : decode cX4_measure 66 = .ok (.iload_n 3, 1) := by decide +kernel
theorem dX4_measure_67 : decode cX4_measure 67 = .ok (.iaload, 1) := by decide +kernel
theorem dX4_measure_68 : decode cX4_measure 68 = .ok (.ior, 1) := by decide +kernel
theorem dX4_measure_69 : decode cX4_measure 69 = .ok (.iastore, 1) := by decide +kernel
theorem dX4_measure_70 : decode cX4_measure 70 = .ok (.iinc 4 1, 3) := by decide +kernel
theorem dX4_measure_73 : decode cX4_measure 73 = .ok (.goto (-61), 3) := by decide +kernel
theorem dX4_measure_76 : decode cX4_measure 76 = .ok (.iinc 3 1, 3) := by decide +kernel
theorem dX4_measure_79 : decode cX4_measure 79 = .ok (.goto (-77), 3) := by decide +kernel
theorem dX4_measure_82 : decode cX4_measure 82 = .ok (.return_, 1) := by decide +kernel
theorem dX4_ready_0 : decode cX4_ready 0 = .ok (.iconst 0, 1) := by decide +kernel
theorem dX4_ready_1 : decode cX4_ready 1 = .ok (.istore 4, 2) := by decide +kernel
theorem dX4_ready_3 : decode cX4_ready 3 = .ok (.iconst 0, 1) := by decide +kernel
theorem dX4_ready_4 : decode cX4_ready 4 = .ok (.istore 5, 2) := by decide +kernel
theorem dX4_ready_6 : decode cX4_ready 6 = .ok (.iload 5, 2) := by decide +kernel
theorem dX4_ready_8 : decode cX4_ready 8 = .ok (.iload_n 3, 1) := by decide +kernel
theorem dX4_ready_9 : decode cX4_ready 9 = .ok (.if_icmp .ge 41, 3) := by decide +kernel
theorem dX4_ready_12 : decode cX4_ready 12 = .ok (.iload_n 1, 1) := by decide +kernel
theorem dX4_ready_13 : decode cX4_ready 13 = .ok (.iconst 1, 1) := by decide +kernel
theorem dX4_ready_14 : decode cX4_ready 14 = .ok (.iload 5, 2) := by decide +kernel
theorem dX4_ready_16 : decode cX4_ready 16 = .ok (.ishl, 1) := by decide +kernel
theorem dX4_ready_17 : decode cX4_ready 17 = .ok (.iand, 1) := by decide +kernel
theorem dX4_ready_18 : decode cX4_ready 18 = .ok (.ifCond .ne 26, 3) := by decide +kernel
theorem dX4_ready_21 : decode cX4_ready 21 = .ok (.aload_n 2, 1) := by decide +kernel
theorem dX4_ready_22 : decode cX4_ready 22 = .ok (.getfield 52, 3) := by decide +kernel
theorem dX4_ready_25 : decode cX4_ready 25 = .ok (.iload 5, 2) := by decide +kernel
theorem dX4_ready_27 : decode cX4_ready 27 = .ok (.iaload, 1) := by decide +kernel
theorem dX4_ready_28 : decode cX4_ready 28 = .ok (.iload_n 1, 1) := by decide +kernel
theorem dX4_ready_29 : decode cX4_ready 29 = .ok (.iconst (-1), 1) := by decide +kernel
theorem dX4_ready_30 : decode cX4_ready 30 = .ok (.ixor, 1) := by decide +kernel
theorem dX4_ready_31 : decode cX4_ready 31 = .ok (.iand, 1) := by decide +kernel
theorem dX4_ready_32 : decode cX4_ready 32 = .ok (.ifCond .ne 12, 3) := by decide +kernel
theorem dX4_ready_35 : decode cX4_ready 35 = .ok (.iload 4, 2) := by decide +kernel
theorem dX4_ready_37 : decode cX4_ready 37 = .ok (.iconst 1, 1) := by decide +kernel
theorem dX4_ready_38 : decode cX4_ready 38 = .ok (.iload 5, 2) := by decide +kernel
theorem dX4_ready_40 : decode cX4_ready 40 = .ok (.ishl, 1) := by decide +kernel
theorem dX4_ready_41 : decode cX4_ready 41 = .ok (.ior, 1) := by decide +kernel
theorem dX4_ready_42 : decode cX4_ready 42 = .ok (.istore 4, 2) := by decide +kernel
theorem dX4_ready_44 : decode cX4_ready 44 = .ok (.iinc 5 1, 3) := by decide +kernel
theorem dX4_ready_47 : decode cX4_ready 47 = .ok (.goto (-41), 3) := by decide +kernel
theorem dX4_ready_50 : decode cX4_ready 50 = .ok (.iload 4, 2) := by decide +kernel
theorem dX4_ready_52 : decode cX4_ready 52 = .ok (.ireturn, 1) := by decide +kernel
theorem dX4_addStage_0 : decode cX4_addStage 0 = .ok (.iload_n 2, 1) := by decide +kernel
theorem dX4_addStage_1 : decode cX4_addStage 1 = .ok (.istore 4, 2) := by decide +kernel
theorem dX4_addStage_3 : decode cX4_addStage 3 = .ok (.iload 4, 2) := by decide +kernel
theorem dX4_addStage_5 : decode cX4_addStage 5 = .ok (.ifCond .le 96, 3) := by decide +kernel
theorem dX4_addStage_8 : decode cX4_addStage 8 = .ok (.iload 4, 2) := by decide +kernel
theorem dX4_addStage_10 : decode cX4_addStage 10 = .ok (.invokestatic 55, 3) := by decide +kernel
theorem dX4_addStage_13 : decode cX4_addStage 13 = .ok (.aload_n 3, 1) := by decide +kernel
theorem dX4_addStage_14 : decode cX4_addStage 14 = .ok (.iconst 1, 1) := by decide +kernel
theorem dX4_addStage_15 : decode cX4_addStage 15 = .ok (.iaload, 1) := by decide +kernel
theorem dX4_addStage_16 : decode cX4_addStage 16 = .ok (.if_icmp .gt 20, 3) := by decide +kernel
theorem dX4_addStage_19 : decode cX4_addStage 19 = .ok (.aload_n 0, 1) := by decide +kernel
theorem dX4_addStage_20 : decode cX4_addStage 20 = .ok (.getfield 15, 3) := by decide +kernel
theorem dX4_addStage_23 : decode cX4_addStage 23 = .ok (.iload 4, 2) := by decide +kernel
theorem dX4_addStage_25 : decode cX4_addStage 25 = .ok (.iaload, 1) := by decide +kernel
theorem dX4_addStage_26 : decode cX4_addStage 26 = .ok (.aload_n 3, 1) := by decide +kernel
theorem dX4_addStage_27 : decode cX4_addStage 27 = .ok (.iconst 0, 1) := by decide +kernel
theorem dX4_addStage_28 : decode cX4_addStage 28 = .ok (.iaload, 1) := by decide +kernel
theorem dX4_addStage_29 : decode cX4_addStage 29 = .ok (.if_icmp .gt 7, 3) := by decide +kernel
theorem dX4_addStage_32 : decode cX4_addStage 32 = .ok (.iconst 1, 1) := by decide +kernel
theorem dX4_addStage_33 : decode cX4_addStage 33 = .ok (.goto 4, 3) := by decide +kernel
theorem dX4_addStage_36 : decode cX4_addStage 36 = .ok (.iconst 0, 1) := by decide +kernel
theorem dX4_addStage_37 : decode cX4_addStage 37 = .ok (.istore 5, 2) := by decide +kernel
theorem dX4_addStage_39 : decode cX4_addStage 39 = .ok (.iload 5, 2) := by decide +kernel
theorem dX4_addStage_41 : decode cX4_addStage 41 = .ok (.ifCond .eq 49, 3) := by decide +kernel
theorem dX4_addStage_44 : decode cX4_addStage 44 = .ok (.aload_n 0, 1) := by decide +kernel
theorem dX4_addStage_45 : decode cX4_addStage 45 = .ok (.getfield 18, 3) := by decide +kernel
theorem dX4_addStage_48 : decode cX4_addStage 48 = .ok (.iload 4, 2) := by decide +kernel
theorem dX4_addStage_50 : decode cX4_addStage 50 = .ok (.iaload, 1) := by decide +kernel
theorem dX4_addStage_51 : decode cX4_addStage 51 = .ok (.iload_n 1, 1) := by decide +kernel
theorem dX4_addStage_52 : decode cX4_addStage 52 = .ok (.iload 4, 2) := by decide +kernel
theorem dX4_addStage_54 : decode cX4_addStage 54 = .ok (.ior, 1) := by decide +kernel
theorem dX4_addStage_55 : decode cX4_addStage 55 = .ok (.iconst (-1), 1) := by decide +kernel
theorem dX4_addStage_56 : decode cX4_addStage 56 = .ok (.ixor, 1) := by decide +kernel
theorem dX4_addStage_57 : decode cX4_addStage 57 = .ok (.iand, 1) := by decide +kernel
theorem dX4_addStage_58 : decode cX4_addStage 58 = .ok (.ifCond .ne 32, 3) := by decide +kernel
theorem dX4_addStage_61 : decode cX4_addStage 61 = .ok (.aload_n 0, 1) := by decide +kernel
theorem dX4_addStage_62 : decode cX4_addStage 62 = .ok (.getfield 9, 3) := by decide +kernel
theorem dX4_addStage_65 : decode cX4_addStage 65 = .ok (.iload_n 1, 1) := by decide +kernel
theorem dX4_addStage_66 : decode cX4_addStage 66 = .ok (.iload 4, 2) := by decide +kernel
theorem dX4_addStage_68 : decode cX4_addStage 68 = .ok (.ior, 1) := by decide +kernel
theorem dX4_addStage_69 : decode cX4_addStage 69 = .ok (.aload_n 0, 1) := by decide +kernel
theorem dX4_addStage_70 : decode cX4_addStage 70 = .ok (.getfield 9, 3) := by decide +kernel
theorem dX4_addStage_73 : decode cX4_addStage 73 = .ok (.iload_n 1, 1) := by decide +kernel
theorem dX4_addStage_74 : decode cX4_addStage 74 = .ok (.iload 4, 2) := by decide +kernel
theorem dX4_addStage_76 : decode cX4_addStage 76 = .ok (.ior, 1) := by decide +kernel
theorem dX4_addStage_77 : decode cX4_addStage 77 = .ok (.iaload, 1) := by decide +kernel
theorem dX4_addStage_78 : decode cX4_addStage 78 = .ok (.aload_n 0, 1) := by decide +kernel
theorem dX4_addStage_79 : decode cX4_addStage 79 = .ok (.getfield 9, 3) := by decide +kernel
theorem dX4_addStage_82 : decode cX4_addStage 82 = .ok (.iload_n 1, 1) := by decide +kernel
theorem dX4_addStage_83 : decode cX4_addStage 83 = .ok (.iaload, 1) := by decide +kernel
theorem dX4_addStage_84 : decode cX4_addStage 84 = .ok (.iconst 1, 1) := by decide +kernel
theorem dX4_addStage_85 : decode cX4_addStage 85 = .ok (.iadd, 1) := by decide +kernel
theorem dX4_addStage_86 : decode cX4_addStage 86 = .ok (.invokestatic 61, 3) := by decide +kernel
theorem dX4_addStage_89 : decode cX4_addStage 89 = .ok (.iastore, 1) := by decide +kernel
theorem dX4_addStage_90 : decode cX4_addStage 90 = .ok (.iload 4, 2) := by decide +kernel
theorem dX4_addStage_92 : decode cX4_addStage 92 = .ok (.iconst 1, 1) := by decide +kernel
theorem dX4_addStage_93 : decode cX4_addStage 93 = .ok (.isub, 1) := by decide +kernel
theorem dX4_addStage_94 : decode cX4_addStage 94 = .ok (.iload_n 2, 1) := by decide +kernel
theorem dX4_addStage_95 : decode cX4_addStage 95 = .ok (.iand, 1) := by decide +kernel
theorem dX4_addStage_96 : decode cX4_addStage 96 = .ok (.istore 4, 2) := by decide +kernel
theorem dX4_addStage_98 : decode cX4_addStage 98 = .ok (.goto (-95), 3) := by decide +kernel
theorem dX4_addStage_101 : decode cX4_addStage 101 = .ok (.return_, 1) := by decide +kernel
theorem dX5_init_0 : decode cX5_init 0 = .ok (.aload_n 0, 1) := by decide +kernel
theorem dX5_init_1 : decode cX5_init 1 = .ok (.invokespecial 3, 3) := by decide +kernel
theorem dX5_init_4 : decode cX5_init 4 = .ok (.aload_n 0, 1) := by decide +kernel
theorem dX5_init_5 : decode cX5_init 5 = .ok (.iconst 4, 1) := by decide +kernel
theorem dX5_init_6 : decode cX5_init 6 = .ok (.newarray .int, 2) := by decide +kernel
theorem dX5_init_8 : decode cX5_init 8 = .ok (.putfield 9, 3) := by decide +kernel
theorem dX5_init_11 : decode cX5_init 11 = .ok (.aload_n 0, 1) := by decide +kernel
theorem dX5_init_12 : decode cX5_init 12 = .ok (.iconst 5, 1) := by decide +kernel
theorem dX5_init_13 : decode cX5_init 13 = .ok (.anewarray 15, 3) := by decide +kernel
theorem dX5_init_16 : decode cX5_init 16 = .ok (.putfield 17, 3) := by decide +kernel
theorem dX5_init_19 : decode cX5_init 19 = .ok (.iconst 0, 1) := by decide +kernel
theorem dX5_init_20 : decode cX5_init 20 = .ok (.istore_n 1, 1) := by decide +kernel
theorem dX5_init_21 : decode cX5_init 21 = .ok (.iload_n 1, 1) := by decide +kernel
theorem dX5_init_22 : decode cX5_init 22 = .ok (.iconst 4, 1) := by decide +kernel
theorem dX5_init_23 : decode cX5_init 23 = .ok (.if_icmp .gt 22, 3) := by decide +kernel
theorem dX5_init_26 : decode cX5_init 26 = .ok (.aload_n 0, 1) := by decide +kernel
theorem dX5_init_27 : decode cX5_init 27 = .ok (.getfield 17, 3) := by decide +kernel
theorem dX5_init_30 : decode cX5_init 30 = .ok (.iload_n 1, 1) := by decide +kernel
theorem dX5_init_31 : decode cX5_init 31 = .ok (.new 15, 3) := by decide +kernel
theorem dX5_init_34 : decode cX5_init 34 = .ok (.dup, 1) := by decide +kernel
theorem dX5_init_35 : decode cX5_init 35 = .ok (.invokespecial 21, 3) := by decide +kernel
theorem dX5_init_38 : decode cX5_init 38 = .ok (.aastore, 1) := by decide +kernel
theorem dX5_init_39 : decode cX5_init 39 = .ok (.iinc 1 1, 3) := by decide +kernel
theorem dX5_init_42 : decode cX5_init 42 = .ok (.goto (-21), 3) := by decide +kernel
theorem dX5_init_45 : decode cX5_init 45 = .ok (.return_, 1) := by decide +kernel
theorem dX5_begin_0 : decode cX5_begin 0 = .ok (.aload_n 0, 1) := by decide +kernel
theorem dX5_begin_1 : decode cX5_begin 1 = .ok (.iload_n 1, 1) := by decide +kernel
theorem dX5_begin_2 : decode cX5_begin 2 = .ok (.putfield 22, 3) := by decide +kernel
theorem dX5_begin_5 : decode cX5_begin 5 = .ok (.aload_n 0, 1) := by decide +kernel
theorem dX5_begin_6 : decode cX5_begin 6 = .ok (.iconst 0, 1) := by decide +kernel
theorem dX5_begin_7 : decode cX5_begin 7 = .ok (.putfield 26, 3) := by decide +kernel
theorem dX5_begin_10 : decode cX5_begin 10 = .ok (.aload_n 0, 1) := by decide +kernel
theorem dX5_begin_11 : decode cX5_begin 11 = .ok (.getfield 17, 3) := by decide +kernel
theorem dX5_begin_14 : decode cX5_begin 14 = .ok (.iconst 4, 1) := by decide +kernel
theorem dX5_begin_15 : decode cX5_begin 15 = .ok (.aaload, 1) := by decide +kernel
theorem dX5_begin_16 : decode cX5_begin 16 = .ok (.iconst 0, 1) := by decide +kernel
theorem dX5_begin_17 : decode cX5_begin 17 = .ok (.bipush (-6), 2) := by decide +kernel
theorem dX5_begin_19 : decode cX5_begin 19 = .ok (.bipush (-6), 2) := by decide +kernel
theorem dX5_begin_21 : decode cX5_begin 21 = .ok (.invokevirtual 29, 3) := by decide +kernel
theorem dX5_begin_24 : decode cX5_begin 24 = .ok (.return_, 1) := by decide +kernel
theorem dX5_copy_0 : decode cX5_copy 0 = .ok (.aload_n 0, 1) := by decide +kernel
theorem dX5_copy_1 : decode cX5_copy 1 = .ok (.aload_n 1, 1) := by decide +kernel
theorem dX5_copy_2 : decode cX5_copy 2 = .ok (.getfield 22, 3) := by decide +kernel
theorem dX5_copy_5 : decode cX5_copy 5 = .ok (.putfield 22, 3) := by decide +kernel
theorem dX5_copy_8 : decode cX5_copy 8 = .ok (.aload_n 0, 1) := by decide +kernel
theorem dX5_copy_9 : decode cX5_copy 9 = .ok (.aload_n 1, 1) := by decide +kernel
theorem dX5_copy_10 : decode cX5_copy 10 = .ok (.getfield 26, 3) := by decide +kernel
theorem dX5_copy_13 : decode cX5_copy 13 = .ok (.putfield 26, 3) := by decide +kernel
theorem dX5_copy_16 : decode cX5_copy 16 = .ok (.aload_n 1, 1) := by decide +kernel
theorem dX5_copy_17 : decode cX5_copy 17 = .ok (.getfield 9, 3) := by decide +kernel
theorem dX5_copy_20 : decode cX5_copy 20 = .ok (.iconst 0, 1) := by decide +kernel
theorem dX5_copy_21 : decode cX5_copy 21 = .ok (.aload_n 0, 1) := by decide +kernel
theorem dX5_copy_22 : decode cX5_copy 22 = .ok (.getfield 9, 3) := by decide +kernel
theorem dX5_copy_25 : decode cX5_copy 25 = .ok (.iconst 0, 1) := by decide +kernel
theorem dX5_copy_26 : decode cX5_copy 26 = .ok (.iconst 4, 1) := by decide +kernel
theorem dX5_copy_27 : decode cX5_copy 27 = .ok (.invokestatic 33, 3) := by decide +kernel
theorem dX5_copy_30 : decode cX5_copy 30 = .ok (.iconst 0, 1) := by decide +kernel
theorem dX5_copy_31 : decode cX5_copy 31 = .ok (.istore_n 2, 1) := by decide +kernel
theorem dX5_copy_32 : decode cX5_copy 32 = .ok (.iload_n 2, 1) := by decide +kernel
theorem dX5_copy_33 : decode cX5_copy 33 = .ok (.iconst 4, 1) := by decide +kernel
theorem dX5_copy_34 : decode cX5_copy 34 = .ok (.if_icmp .gt 24, 3) := by decide +kernel
theorem dX5_copy_37 : decode cX5_copy 37 = .ok (.aload_n 0, 1) := by decide +kernel
theorem dX5_copy_38 : decode cX5_copy 38 = .ok (.getfield 17, 3) := by decide +kernel
theorem dX5_copy_41 : decode cX5_copy 41 = .ok (.iload_n 2, 1) := by decide +kernel
theorem dX5_copy_42 : decode cX5_copy 42 = .ok (.aaload, 1) := by decide +kernel
theorem dX5_copy_43 : decode cX5_copy 43 = .ok (.aload_n 1, 1) := by decide +kernel
theorem dX5_copy_44 : decode cX5_copy 44 = .ok (.getfield 17, 3) := by decide +kernel
theorem dX5_copy_47 : decode cX5_copy 47 = .ok (.iload_n 2, 1) := by decide +kernel
theorem dX5_copy_48 : decode cX5_copy 48 = .ok (.aaload, 1) := by decide +kernel
theorem dX5_copy_49 : decode cX5_copy 49 = .ok (.invokevirtual 39, 3) := by decide +kernel
theorem dX5_copy_52 : decode cX5_copy 52 = .ok (.iinc 2 1, 3) := by decide +kernel
theorem dX5_copy_55 : decode cX5_copy 55 = .ok (.goto (-23), 3) := by decide +kernel
theorem dX5_copy_58 : decode cX5_copy 58 = .ok (.return_, 1) := by decide +kernel
theorem dX5_size_0 : decode cX5_size 0 = .ok (.aload_n 0, 1) := by decide +kernel
theorem dX5_size_1 : decode cX5_size 1 = .ok (.getfield 26, 3) := by decide +kernel
theorem dX5_size_4 : decode cX5_size 4 = .ok (.iconst 1, 1) := by decide +kernel
theorem dX5_size_5 : decode cX5_size 5 = .ok (.iadd, 1) := by decide +kernel
theorem dX5_size_6 : decode cX5_size 6 = .ok (.ireturn, 1) := by decide +kernel
theorem dX5_slotOf_0 : decode cX5_slotOf 0 = .ok (.iconst 0, 1) := by decide +kernel
theorem dX5_slotOf_1 : decode cX5_slotOf 1 = .ok (.istore_n 2, 1) := by decide +kernel
theorem dX5_slotOf_2 : decode cX5_slotOf 2 = .ok (.iload_n 2, 1) := by decide +kernel
theorem dX5_slotOf_3 : decode cX5_slotOf 3 = .ok (.aload_n 0, 1) := by decide +kernel
theorem dX5_slotOf_4 : decode cX5_slotOf 4 = .ok (.getfield 26, 3) := by decide +kernel
theorem dX5_slotOf_7 : decode cX5_slotOf 7 = .ok (.if_icmp .ge 21, 3) := by decide +kernel
theorem dX5_slotOf_10 : decode cX5_slotOf 10 = .ok (.aload_n 0, 1) := by decide +kernel
theorem dX5_slotOf_11 : decode cX5_slotOf 11 = .ok (.getfield 9, 3) := by decide +kernel
theorem dX5_slotOf_14 : decode cX5_slotOf 14 = .ok (.iload_n 2, 1) := by decide +kernel
theorem dX5_slotOf_15 : decode cX5_slotOf 15 = .ok (.iaload, 1) := by decide +kernel
theorem dX5_slotOf_16 : decode cX5_slotOf 16 = .ok (.iload_n 1, 1) := by decide +kernel
theorem dX5_slotOf_17 : decode cX5_slotOf 17 = .ok (.if_icmp .ne 5, 3) := by decide +kernel
theorem dX5_slotOf_20 : decode cX5_slotOf 20 = .ok (.iload_n 2, 1) := by decide +kernel
theorem dX5_slotOf_21 : decode cX5_slotOf 21 = .ok (.ireturn, 1) := by decide +kernel
theorem dX5_slotOf_22 : decode cX5_slotOf 22 = .ok (.iinc 2 1, 3) := by decide +kernel
theorem dX5_slotOf_25 : decode cX5_slotOf 25 = .ok (.goto (-23), 3) := by decide +kernel
theorem dX5_slotOf_28 : decode cX5_slotOf 28 = .ok (.iconst 4, 1) := by decide +kernel
theorem dX5_slotOf_29 : decode cX5_slotOf 29 = .ok (.ireturn, 1) := by decide +kernel
theorem dX5_addEntry_0 : decode cX5_addEntry 0 = .ok (.aload_n 0, 1) := by decide +kernel
theorem dX5_addEntry_1 : decode cX5_addEntry 1 = .ok (.getfield 9, 3) := by decide +kernel
theorem dX5_addEntry_4 : decode cX5_addEntry 4 = .ok (.aload_n 0, 1) := by decide +kernel
theorem dX5_addEntry_5 : decode cX5_addEntry 5 = .ok (.getfield 26, 3) := by decide +kernel
theorem dX5_addEntry_8 : decode cX5_addEntry 8 = .ok (.iload_n 1, 1) := by decide +kernel
theorem dX5_addEntry_9 : decode cX5_addEntry 9 = .ok (.iastore, 1) := by decide +kernel
theorem dX5_addEntry_10 : decode cX5_addEntry 10 = .ok (.aload_n 0, 1) := by decide +kernel
theorem dX5_addEntry_11 : decode cX5_addEntry 11 = .ok (.getfield 17, 3) := by decide +kernel
theorem dX5_addEntry_14 : decode cX5_addEntry 14 = .ok (.aload_n 0, 1) := by decide +kernel
theorem dX5_addEntry_15 : decode cX5_addEntry 15 = .ok (.getfield 26, 3) := by decide +kernel
theorem dX5_addEntry_18 : decode cX5_addEntry 18 = .ok (.aaload, 1) := by decide +kernel
theorem dX5_addEntry_19 : decode cX5_addEntry 19 = .ok (.iload_n 2, 1) := by decide +kernel
theorem dX5_addEntry_20 : decode cX5_addEntry 20 = .ok (.iload_n 3, 1) := by decide +kernel
theorem dX5_addEntry_21 : decode cX5_addEntry 21 = .ok (.iload 4, 2) := by decide +kernel
theorem dX5_addEntry_23 : decode cX5_addEntry 23 = .ok (.invokevirtual 29, 3) := by decide +kernel
theorem dX5_addEntry_26 : decode cX5_addEntry 26 = .ok (.aload_n 0, 1) := by decide +kernel
theorem dX5_addEntry_27 : decode cX5_addEntry 27 = .ok (.dup, 1) := by decide +kernel
theorem dX5_addEntry_28 : decode cX5_addEntry 28 = .ok (.getfield 26, 3) := by decide +kernel
theorem dX5_addEntry_31 : decode cX5_addEntry 31 = .ok (.iconst 1, 1) := by decide +kernel
theorem dX5_addEntry_32 : decode cX5_addEntry 32 = .ok (.iadd, 1) := by decide +kernel
theorem dX5_addEntry_33 : decode cX5_addEntry 33 = .ok (.putfield 26, 3) := by decide +kernel
theorem dX5_addEntry_36 : decode cX5_addEntry 36 = .ok (.aload_n 0, 1) := by decide +kernel
theorem dX5_addEntry_37 : decode cX5_addEntry 37 = .ok (.getfield 26, 3) := by decide +kernel
theorem dX5_addEntry_40 : decode cX5_addEntry 40 = .ok (.ireturn, 1) := by decide +kernel
theorem dX5_removeEntry_0 : decode cX5_removeEntry 0 = .ok (.iload_n 1, 1) := by decide +kernel
theorem dX5_removeEntry_1 : decode cX5_removeEntry 1 = .ok (.istore_n 2, 1) := by decide +kernel
theorem dX5_removeEntry_2 : decode cX5_removeEntry 2 = .ok (.iload_n 2, 1) := by decide +kernel
theorem dX5_removeEntry_3 : decode cX5_removeEntry 3 = .ok (.iconst 1, 1) := by decide +kernel
theorem dX5_removeEntry_4 : decode cX5_removeEntry 4 = .ok (.iadd, 1) := by decide +kernel
theorem dX5_removeEntry_5 : decode cX5_removeEntry 5 = .ok (.aload_n 0, 1) := by decide +kernel
theorem dX5_removeEntry_6 : decode cX5_removeEntry 6 = .ok (.getfield 26, 3) := by decide +kernel
theorem dX5_removeEntry_9 : decode cX5_removeEntry 9 = .ok (.if_icmp .ge 40, 3) := by decide +kernel
theorem dX5_removeEntry_12 : decode cX5_removeEntry 12 = .ok (.aload_n 0, 1) := by decide +kernel
theorem dX5_removeEntry_13 : decode cX5_removeEntry 13 = .ok (.getfield 9, 3) := by decide +kernel
theorem dX5_removeEntry_16 : decode cX5_removeEntry 16 = .ok (.iload_n 2, 1) := by decide +kernel
theorem dX5_removeEntry_17 : decode cX5_removeEntry 17 = .ok (.aload_n 0, 1) := by decide +kernel
theorem dX5_removeEntry_18 : decode cX5_removeEntry 18 = .ok (.getfield 9, 3) := by decide +kernel
theorem dX5_removeEntry_21 : decode cX5_removeEntry 21 = .ok (.iload_n 2, 1) := by decide +kernel
theorem dX5_removeEntry_22 : decode cX5_removeEntry 22 = .ok (.iconst 1, 1) := by decide +kernel
theorem dX5_removeEntry_23 : decode cX5_removeEntry 23 = .ok (.iadd, 1) := by decide +kernel
theorem dX5_removeEntry_24 : decode cX5_removeEntry 24 = .ok (.iaload, 1) := by decide +kernel
theorem dX5_removeEntry_25 : decode cX5_removeEntry 25 = .ok (.iastore, 1) := by decide +kernel
theorem dX5_removeEntry_26 : decode cX5_removeEntry 26 = .ok (.aload_n 0, 1) := by decide +kernel
theorem dX5_removeEntry_27 : decode cX5_removeEntry 27 = .ok (.getfield 17, 3) := by decide +kernel
theorem dX5_removeEntry_30 : decode cX5_removeEntry 30 = .ok (.iload_n 2, 1) := by decide +kernel
theorem dX5_removeEntry_31 : decode cX5_removeEntry 31 = .ok (.aaload, 1) := by decide +kernel
theorem dX5_removeEntry_32 : decode cX5_removeEntry 32 = .ok (.aload_n 0, 1) := by decide +kernel
theorem dX5_removeEntry_33 : decode cX5_removeEntry 33 = .ok (.getfield 17, 3) := by decide +kernel
theorem dX5_removeEntry_36 : decode cX5_removeEntry 36 = .ok (.iload_n 2, 1) := by decide +kernel
theorem dX5_removeEntry_37 : decode cX5_removeEntry 37 = .ok (.iconst 1, 1) := by decide +kernel
theorem dX5_removeEntry_38 : decode cX5_removeEntry 38 = .ok (.iadd, 1) := by decide +kernel
theorem dX5_removeEntry_39 : decode cX5_removeEntry 39 = .ok (.aaload, 1) := by decide +kernel
theorem dX5_removeEntry_40 : decode cX5_removeEntry 40 = .ok (.invokevirtual 39, 3) := by decide +kernel
theorem dX5_removeEntry_43 : decode cX5_removeEntry 43 = .ok (.iinc 2 1, 3) := by decide +kernel
theorem dX5_removeEntry_46 : decode cX5_removeEntry 46 = .ok (.goto (-44), 3) := by decide +kernel
theorem dX5_removeEntry_49 : decode cX5_removeEntry 49 = .ok (.aload_n 0, 1) := by decide +kernel
theorem dX5_removeEntry_50 : decode cX5_removeEntry 50 = .ok (.dup, 1) := by decide +kernel
theorem dX5_removeEntry_51 : decode cX5_removeEntry 51 = .ok (.getfield 26, 3) := by decide +kernel
theorem dX5_removeEntry_54 : decode cX5_removeEntry 54 = .ok (.iconst 1, 1) := by decide +kernel
theorem dX5_removeEntry_55 : decode cX5_removeEntry 55 = .ok (.isub, 1) := by decide +kernel
theorem dX5_removeEntry_56 : decode cX5_removeEntry 56 = .ok (.putfield 26, 3) := by decide +kernel
theorem dX5_removeEntry_59 : decode cX5_removeEntry 59 = .ok (.aload_n 0, 1) := by decide +kernel
theorem dX5_removeEntry_60 : decode cX5_removeEntry 60 = .ok (.getfield 26, 3) := by decide +kernel
theorem dX5_removeEntry_63 : decode cX5_removeEntry 63 = .ok (.ireturn, 1) := by decide +kernel
theorem dX5_isUsed_0 : decode cX5_isUsed 0 = .ok (.iload_n 1, 1) := by decide +kernel
theorem dX5_isUsed_1 : decode cX5_isUsed 1 = .ok (.aload_n 0, 1) := by decide +kernel
theorem dX5_isUsed_2 : decode cX5_isUsed 2 = .ok (.getfield 26, 3) := by decide +kernel
theorem dX5_isUsed_5 : decode cX5_isUsed 5 = .ok (.if_icmp .lt 8, 3) := by decide +kernel
theorem dX5_isUsed_8 : decode cX5_isUsed 8 = .ok (.iload_n 1, 1) := by decide +kernel
theorem dX5_isUsed_9 : decode cX5_isUsed 9 = .ok (.iconst 4, 1) := by decide +kernel
theorem dX5_isUsed_10 : decode cX5_isUsed 10 = .ok (.if_icmp .ne 7, 3) := by decide +kernel
theorem dX5_isUsed_13 : decode cX5_isUsed 13 = .ok (.iconst 1, 1) := by decide +kernel
theorem dX5_isUsed_14 : decode cX5_isUsed 14 = .ok (.goto 4, 3) := by decide +kernel
theorem dX5_isUsed_17 : decode cX5_isUsed 17 = .ok (.iconst 0, 1) := by decide +kernel
theorem dX5_isUsed_18 : decode cX5_isUsed 18 = .ok (.ireturn, 1) := by decide +kernel
theorem dX5_writtenFields_0 : decode cX5_writtenFields 0 = .ok (.iconst 0, 1) := by decide +kernel
theorem dX5_writtenFields_1 : decode cX5_writtenFields 1 = .ok (.istore_n 1, 1) := by decide +kernel
theorem dX5_writtenFields_2 : decode cX5_writtenFields 2 = .ok (.iconst 0, 1) := by decide +kernel
theorem dX5_writtenFields_3 : decode cX5_writtenFields 3 = .ok (.istore_n 2, 1) := by decide +kernel
theorem dX5_writtenFields_4 : decode cX5_writtenFields 4 = .ok (.iload_n 2, 1) := by decide +kernel
theorem dX5_writtenFields_5 : decode cX5_writtenFields 5 = .ok (.iconst 4, 1) := by decide +kernel
theorem dX5_writtenFields_6 : decode cX5_writtenFields 6 = .ok (.if_icmp .gt 33, 3) := by decide +kernel
theorem dX5_writtenFields_9 : decode cX5_writtenFields 9 = .ok (.iload_n 1, 1) := by decide +kernel
theorem dX5_writtenFields_10 : decode cX5_writtenFields 10 = .ok (.aload_n 0, 1) := by decide +kernel
theorem dX5_writtenFields_11 : decode cX5_writtenFields 11 = .ok (.iload_n 2, 1) := by decide +kernel
theorem dX5_writtenFields_12 : decode cX5_writtenFields 12 = .ok (.invokevirtual 43, 3) := by decide +kernel
theorem dX5_writtenFields_15 : decode cX5_writtenFields 15 = .ok (.ifCond .eq 15, 3) := by decide +kernel
theorem dX5_writtenFields_18 : decode cX5_writtenFields 18 = .ok (.aload_n 0, 1) := by decide +kernel
theorem dX5_writtenFields_19 : decode cX5_writtenFields 19 = .ok (.getfield 17, 3) := by decide +kernel
theorem dX5_writtenFields_22 : decode cX5_writtenFields 22 = .ok (.iload_n 2, 1) := by decide +kernel
theorem dX5_writtenFields_23 : decode cX5_writtenFields 23 = .ok (.aaload, 1) := by decide +kernel
theorem dX5_writtenFields_24 : decode cX5_writtenFields 24 = .ok (.invokevirtual 47, 3) := by decide +kernel
theorem dX5_writtenFields_27 : decode cX5_writtenFields 27 = .ok (.goto 4, 3) := by decide +kernel
theorem dX5_writtenFields_30 : decode cX5_writtenFields 30 = .ok (.iconst 0, 1) := by decide +kernel
theorem dX5_writtenFields_31 : decode cX5_writtenFields 31 = .ok (.ior, 1) := by decide +kernel
theorem dX5_writtenFields_32 : decode cX5_writtenFields 32 = .ok (.istore_n 1, 1) := by decide +kernel
theorem dX5_writtenFields_33 : decode cX5_writtenFields 33 = .ok (.iinc 2 1, 3) := by decide +kernel
theorem dX5_writtenFields_36 : decode cX5_writtenFields 36 = .ok (.goto (-32), 3) := by decide +kernel
theorem dX5_writtenFields_39 : decode cX5_writtenFields 39 = .ok (.iload_n 1, 1) := by decide +kernel
theorem dX5_writtenFields_40 : decode cX5_writtenFields 40 = .ok (.ireturn, 1) := by decide +kernel
theorem dX5_readFields_0 : decode cX5_readFields 0 = .ok (.iconst 1, 1) := by decide +kernel
theorem dX5_readFields_1 : decode cX5_readFields 1 = .ok (.aload_n 0, 1) := by decide +kernel
theorem dX5_readFields_2 : decode cX5_readFields 2 = .ok (.getfield 22, 3) := by decide +kernel
theorem dX5_readFields_5 : decode cX5_readFields 5 = .ok (.ishl, 1) := by decide +kernel
theorem dX5_readFields_6 : decode cX5_readFields 6 = .ok (.istore_n 1, 1) := by decide +kernel
theorem dX5_readFields_7 : decode cX5_readFields 7 = .ok (.iconst 0, 1) := by decide +kernel
theorem dX5_readFields_8 : decode cX5_readFields 8 = .ok (.istore_n 2, 1) := by decide +kernel
theorem dX5_readFields_9 : decode cX5_readFields 9 = .ok (.iload_n 2, 1) := by decide +kernel
theorem dX5_readFields_10 : decode cX5_readFields 10 = .ok (.iconst 4, 1) := by decide +kernel
theorem dX5_readFields_11 : decode cX5_readFields 11 = .ok (.if_icmp .gt 33, 3) := by decide +kernel
theorem dX5_readFields_14 : decode cX5_readFields 14 = .ok (.iload_n 1, 1) := by decide +kernel
theorem dX5_readFields_15 : decode cX5_readFields 15 = .ok (.aload_n 0, 1) := by decide +kernel
theorem dX5_readFields_16 : decode cX5_readFields 16 = .ok (.iload_n 2, 1) := by decide +kernel
theorem dX5_readFields_17 : decode cX5_readFields 17 = .ok (.invokevirtual 43, 3) := by decide +kernel
theorem dX5_readFields_20 : decode cX5_readFields 20 = .ok (.ifCond .eq 15, 3) := by decide +kernel
theorem dX5_readFields_23 : decode cX5_readFields 23 = .ok (.aload_n 0, 1) := by decide +kernel
theorem dX5_readFields_24 : decode cX5_readFields 24 = .ok (.getfield 17, 3) := by decide +kernel
theorem dX5_readFields_27 : decode cX5_readFields 27 = .ok (.iload_n 2, 1) := by decide +kernel
theorem dX5_readFields_28 : decode cX5_readFields 28 = .ok (.aaload, 1) := by decide +kernel
theorem dX5_readFields_29 : decode cX5_readFields 29 = .ok (.invokevirtual 51, 3) := by decide +kernel
theorem dX5_readFields_32 : decode cX5_readFields 32 = .ok (.goto 4, 3) := by decide +kernel
theorem dX5_readFields_35 : decode cX5_readFields 35 = .ok (.iconst 0, 1) := by decide +kernel
theorem dX5_readFields_36 : decode cX5_readFields 36 = .ok (.ior, 1) := by decide +kernel
theorem dX5_readFields_37 : decode cX5_readFields 37 = .ok (.istore_n 1, 1) := by decide +kernel
theorem dX5_readFields_38 : decode cX5_readFields 38 = .ok (.iinc 2 1, 3) := by decide +kernel
theorem dX5_readFields_41 : decode cX5_readFields 41 = .ok (.goto (-32), 3) := by decide +kernel
theorem dX5_readFields_44 : decode cX5_readFields 44 = .ok (.iload_n 1, 1) := by decide +kernel
theorem dX5_readFields_45 : decode cX5_readFields 45 = .ok (.ireturn, 1) := by decide +kernel
theorem dX5_ownRegisters_0 : decode cX5_ownRegisters 0 = .ok (.iconst 0, 1) := by decide +kernel
theorem dX5_ownRegisters_1 : decode cX5_ownRegisters 1 = .ok (.istore_n 1, 1) := by decide +kernel
theorem dX5_ownRegisters_2 : decode cX5_ownRegisters 2 = .ok (.iconst 0, 1) := by decide +kernel
theorem dX5_ownRegisters_3 : decode cX5_ownRegisters 3 = .ok (.istore_n 2, 1) := by decide +kernel
theorem dX5_ownRegisters_4 : decode cX5_ownRegisters 4 = .ok (.iload_n 2, 1) := by decide +kernel
theorem dX5_ownRegisters_5 : decode cX5_ownRegisters 5 = .ok (.iconst 4, 1) := by decide +kernel
theorem dX5_ownRegisters_6 : decode cX5_ownRegisters 6 = .ok (.if_icmp .gt 33, 3) := by decide +kernel
theorem dX5_ownRegisters_9 : decode cX5_ownRegisters 9 = .ok (.iload_n 1, 1) := by decide +kernel
theorem dX5_ownRegisters_10 : decode cX5_ownRegisters 10 = .ok (.aload_n 0, 1) := by decide +kernel
theorem dX5_ownRegisters_11 : decode cX5_ownRegisters 11 = .ok (.iload_n 2, 1) := by decide +kernel
theorem dX5_ownRegisters_12 : decode cX5_ownRegisters 12 = .ok (.invokevirtual 43, 3) := by decide +kernel
theorem dX5_ownRegisters_15 : decode cX5_ownRegisters 15 = .ok (.ifCond .eq 15, 3) := by decide +kernel
theorem dX5_ownRegisters_18 : decode cX5_ownRegisters 18 = .ok (.aload_n 0, 1) := by decide +kernel
theorem dX5_ownRegisters_19 : decode cX5_ownRegisters 19 = .ok (.getfield 17, 3) := by decide +kernel
theorem dX5_ownRegisters_22 : decode cX5_ownRegisters 22 = .ok (.iload_n 2, 1) := by decide +kernel
theorem dX5_ownRegisters_23 : decode cX5_ownRegisters 23 = .ok (.aaload, 1) := by decide +kernel
theorem dX5_ownRegisters_24 : decode cX5_ownRegisters 24 = .ok (.invokevirtual 54, 3) := by decide +kernel
theorem dX5_ownRegisters_27 : decode cX5_ownRegisters 27 = .ok (.goto 4, 3) := by decide +kernel
theorem dX5_ownRegisters_30 : decode cX5_ownRegisters 30 = .ok (.iconst 0, 1) := by decide +kernel
theorem dX5_ownRegisters_31 : decode cX5_ownRegisters 31 = .ok (.ior, 1) := by decide +kernel
theorem dX5_ownRegisters_32 : decode cX5_ownRegisters 32 = .ok (.istore_n 1, 1) := by decide +kernel
theorem dX5_ownRegisters_33 : decode cX5_ownRegisters 33 = .ok (.iinc 2 1, 3) := by decide +kernel
theorem dX5_ownRegisters_36 : decode cX5_ownRegisters 36 = .ok (.goto (-32), 3) := by decide +kernel
theorem dX5_ownRegisters_39 : decode cX5_ownRegisters 39 = .ok (.iload_n 1, 1) := by decide +kernel
theorem dX5_ownRegisters_40 : decode cX5_ownRegisters 40 = .ok (.ireturn, 1) := by decide +kernel
theorem dX5_partOfAct_0 : decode cX5_partOfAct 0 = .ok (.iload_n 1, 1) := by decide +kernel
theorem dX5_partOfAct_1 : decode cX5_partOfAct 1 = .ok (.bipush 10, 2) := by decide +kernel
theorem dX5_partOfAct_3 : decode cX5_partOfAct 3 = .ok (.if_icmp .lt 20, 3) := by decide +kernel
theorem dX5_partOfAct_6 : decode cX5_partOfAct 6 = .ok (.iload_n 1, 1) := by decide +kernel
theorem dX5_partOfAct_7 : decode cX5_partOfAct 7 = .ok (.bipush 10, 2) := by decide +kernel
theorem dX5_partOfAct_9 : decode cX5_partOfAct 9 = .ok (.iconst 4, 1) := by decide +kernel
theorem dX5_partOfAct_10 : decode cX5_partOfAct 10 = .ok (.aload_n 0, 1) := by decide +kernel
theorem dX5_partOfAct_11 : decode cX5_partOfAct 11 = .ok (.getfield 26, 3) := by decide +kernel
theorem dX5_partOfAct_14 : decode cX5_partOfAct 14 = .ok (.imul, 1) := by decide +kernel
theorem dX5_partOfAct_15 : decode cX5_partOfAct 15 = .ok (.iadd, 1) := by decide +kernel
theorem dX5_partOfAct_16 : decode cX5_partOfAct 16 = .ok (.if_icmp .ge 7, 3) := by decide +kernel
theorem dX5_partOfAct_19 : decode cX5_partOfAct 19 = .ok (.iconst 1, 1) := by decide +kernel
theorem dX5_partOfAct_20 : decode cX5_partOfAct 20 = .ok (.goto 4, 3) := by decide +kernel
theorem dX5_partOfAct_23 : decode cX5_partOfAct 23 = .ok (.iconst 0, 1) := by decide +kernel
theorem dX5_partOfAct_24 : decode cX5_partOfAct 24 = .ok (.istore_n 2, 1) := by decide +kernel
theorem dX5_partOfAct_25 : decode cX5_partOfAct 25 = .ok (.iload_n 1, 1) := by decide +kernel
theorem dX5_partOfAct_26 : decode cX5_partOfAct 26 = .ok (.bipush 31, 2) := by decide +kernel
theorem dX5_partOfAct_28 : decode cX5_partOfAct 28 = .ok (.if_icmp .lt 13, 3) := by decide +kernel
theorem dX5_partOfAct_31 : decode cX5_partOfAct 31 = .ok (.iload_n 1, 1) := by decide +kernel
theorem dX5_partOfAct_32 : decode cX5_partOfAct 32 = .ok (.bipush 33, 2) := by decide +kernel
theorem dX5_partOfAct_34 : decode cX5_partOfAct 34 = .ok (.if_icmp .gt 7, 3) := by decide +kernel
theorem dX5_partOfAct_37 : decode cX5_partOfAct 37 = .ok (.iconst 1, 1) := by decide +kernel
theorem dX5_partOfAct_38 : decode cX5_partOfAct 38 = .ok (.goto 4, 3) := by decide +kernel
theorem dX5_partOfAct_41 : decode cX5_partOfAct 41 = .ok (.iconst 0, 1) := by decide +kernel
theorem dX5_partOfAct_42 : decode cX5_partOfAct 42 = .ok (.istore_n 3, 1) := by decide +kernel
theorem dX5_partOfAct_43 : decode cX5_partOfAct 43 = .ok (.iload_n 2, 1) := by decide +kernel
theorem dX5_partOfAct_44 : decode cX5_partOfAct 44 = .ok (.ifCond .ne 10, 3) := by decide +kernel
theorem dX5_partOfAct_47 : decode cX5_partOfAct 47 = .ok (.iload_n 3, 1) := by decide +kernel
theorem dX5_partOfAct_48 : decode cX5_partOfAct 48 = .ok (.ifCond .ne 6, 3) := by decide +kernel
theorem dX5_partOfAct_51 : decode cX5_partOfAct 51 = .ok (.bipush (-2), 2) := by decide +kernel
theorem dX5_partOfAct_53 : decode cX5_partOfAct 53 = .ok (.ireturn, 1) := by decide +kernel
theorem dX5_partOfAct_54 : decode cX5_partOfAct 54 = .ok (.iload_n 2, 1) := by decide +kernel
theorem dX5_partOfAct_55 : decode cX5_partOfAct 55 = .ok (.ifCond .eq 12, 3) := by decide +kernel
theorem dX5_partOfAct_58 : decode cX5_partOfAct 58 = .ok (.iload_n 1, 1) := by decide +kernel
theorem dX5_partOfAct_59 : decode cX5_partOfAct 59 = .ok (.bipush 10, 2) := by decide +kernel
theorem dX5_partOfAct_61 : decode cX5_partOfAct 61 = .ok (.isub, 1) := by decide +kernel
theorem dX5_partOfAct_62 : decode cX5_partOfAct 62 = .ok (.iconst 4, 1) := by decide +kernel
theorem dX5_partOfAct_63 : decode cX5_partOfAct 63 = .ok (.idiv, 1) := by decide +kernel
theorem dX5_partOfAct_64 : decode cX5_partOfAct 64 = .ok (.goto 4, 3) := by decide +kernel
theorem dX5_partOfAct_67 : decode cX5_partOfAct 67 = .ok (.iconst 4, 1) := by decide +kernel
theorem dX5_partOfAct_68 : decode cX5_partOfAct 68 = .ok (.istore 4, 2) := by decide +kernel
theorem dX5_partOfAct_70 : decode cX5_partOfAct 70 = .ok (.iload_n 1, 1) := by decide +kernel
theorem dX5_partOfAct_71 : decode cX5_partOfAct 71 = .ok (.bipush 10, 2) := by decide +kernel
theorem dX5_partOfAct_73 : decode cX5_partOfAct 73 = .ok (.isub, 1) := by decide +kernel
theorem dX5_partOfAct_74 : decode cX5_partOfAct 74 = .ok (.iconst 4, 1) := by decide +kernel
theorem dX5_partOfAct_75 : decode cX5_partOfAct 75 = .ok (.irem, 1) := by decide +kernel
theorem dX5_partOfAct_76 : decode cX5_partOfAct 76 = .ok (.tableswitch 58 0 2 #[28, 36, 47], 28) := by decide +kernel
theorem dX5_partOfAct_104 : decode cX5_partOfAct 104 = .ok (.aload_n 0, 1) := by decide +kernel
theorem dX5_partOfAct_105 : decode cX5_partOfAct 105 = .ok (.getfield 9, 3) := by decide +kernel
theorem dX5_partOfAct_108 : decode cX5_partOfAct 108 = .ok (.iload 4, 2) := by decide +kernel
theorem dX5_partOfAct_110 : decode cX5_partOfAct 110 = .ok (.iaload, 1) := by decide +kernel
theorem dX5_partOfAct_111 : decode cX5_partOfAct 111 = .ok (.ireturn, 1) := by decide +kernel
theorem dX5_partOfAct_112 : decode cX5_partOfAct 112 = .ok (.aload_n 0, 1) := by decide +kernel
theorem dX5_partOfAct_113 : decode cX5_partOfAct 113 = .ok (.getfield 17, 3) := by decide +kernel
theorem dX5_partOfAct_116 : decode cX5_partOfAct 116 = .ok (.iload 4, 2) := by decide +kernel
theorem dX5_partOfAct_118 : decode cX5_partOfAct 118 = .ok (.aaload, 1) := by decide +kernel
theorem dX5_partOfAct_119 : decode cX5_partOfAct 119 = .ok (.getfield 57, 3) := by decide +kernel
theorem dX5_partOfAct_122 : decode cX5_partOfAct 122 = .ok (.ireturn, 1) := by decide +kernel
theorem dX5_partOfAct_123 : decode cX5_partOfAct 123 = .ok (.aload_n 0, 1) := by decide +kernel
theorem dX5_partOfAct_124 : decode cX5_partOfAct 124 = .ok (.getfield 17, 3) := by decide +kernel
theorem dX5_partOfAct_127 : decode cX5_partOfAct 127 = .ok (.iload 4, 2) := by decide +kernel
theorem dX5_partOfAct_129 : decode cX5_partOfAct 129 = .ok (.aaload, 1) := by decide +kernel
theorem dX5_partOfAct_130 : decode cX5_partOfAct 130 = .ok (.getfield 60, 3) := by decide +kernel
theorem dX5_partOfAct_133 : decode cX5_partOfAct 133 = .ok (.ireturn, 1) := by decide +kernel
theorem dX5_partOfAct_134 : decode cX5_partOfAct 134 = .ok (.aload_n 0, 1) := by decide +kernel
theorem dX5_partOfAct_135 : decode cX5_partOfAct 135 = .ok (.getfield 17, 3) := by decide +kernel
theorem dX5_partOfAct_138 : decode cX5_partOfAct 138 = .ok (.iload 4, 2) := by decide +kernel
theorem dX5_partOfAct_140 : decode cX5_partOfAct 140 = .ok (.aaload, 1) := by decide +kernel
theorem dX5_partOfAct_141 : decode cX5_partOfAct 141 = .ok (.getfield 63, 3) := by decide +kernel
theorem dX5_partOfAct_144 : decode cX5_partOfAct 144 = .ok (.ireturn, 1) := by decide +kernel
