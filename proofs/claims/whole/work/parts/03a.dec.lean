/-! decode rows -/
theorem dX0_init_0 : decode cX0_init 0 = .ok (.aload_n 0, 1) := by decide +kernel
theorem dX0_init_1 : decode cX0_init 1 = .ok (.invokespecial 3, 3) := by decide +kernel
theorem dX0_init_4 : decode cX0_init 4 = .ok (.aload_n 0, 1) := by decide +kernel
theorem dX0_init_5 : decode cX0_init 5 = .ok (.iconst 0, 1) := by decide +kernel
theorem dX0_init_6 : decode cX0_init 6 = .ok (.putfield 9, 3) := by decide +kernel
theorem dX0_init_9 : decode cX0_init 9 = .ok (.aload_n 0, 1) := by decide +kernel
theorem dX0_init_10 : decode cX0_init 10 = .ok (.bipush (-6), 2) := by decide +kernel
theorem dX0_init_12 : decode cX0_init 12 = .ok (.putfield 15, 3) := by decide +kernel
theorem dX0_init_15 : decode cX0_init 15 = .ok (.aload_n 0, 1) := by decide +kernel
theorem dX0_init_16 : decode cX0_init 16 = .ok (.bipush (-6), 2) := by decide +kernel
theorem dX0_init_18 : decode cX0_init 18 = .ok (.putfield 18, 3) := by decide +kernel
theorem dX0_init_21 : decode cX0_init 21 = .ok (.return_, 1) := by decide +kernel
theorem dX0_become_0 : decode cX0_become 0 = .ok (.aload_n 0, 1) := by decide +kernel
theorem dX0_become_1 : decode cX0_become 1 = .ok (.iload_n 1, 1) := by decide +kernel
theorem dX0_become_2 : decode cX0_become 2 = .ok (.putfield 9, 3) := by decide +kernel
theorem dX0_become_5 : decode cX0_become 5 = .ok (.aload_n 0, 1) := by decide +kernel
theorem dX0_become_6 : decode cX0_become 6 = .ok (.iload_n 1, 1) := by decide +kernel
theorem dX0_become_7 : decode cX0_become 7 = .ok (.invokestatic 21, 3) := by decide +kernel
theorem dX0_become_10 : decode cX0_become 10 = .ok (.ifCond .eq 7, 3) := by decide +kernel
theorem dX0_become_13 : decode cX0_become 13 = .ok (.iload_n 2, 1) := by decide +kernel
theorem dX0_become_14 : decode cX0_become 14 = .ok (.goto 5, 3) := by decide +kernel
theorem dX0_become_17 : decode cX0_become 17 = .ok (.bipush (-6), 2) := by decide +kernel
theorem dX0_become_19 : decode cX0_become 19 = .ok (.putfield 15, 3) := by decide +kernel
theorem dX0_become_22 : decode cX0_become 22 = .ok (.aload_n 0, 1) := by decide +kernel
theorem dX0_become_23 : decode cX0_become 23 = .ok (.iload_n 1, 1) := by decide +kernel
theorem dX0_become_24 : decode cX0_become 24 = .ok (.invokestatic 21, 3) := by decide +kernel
theorem dX0_become_27 : decode cX0_become 27 = .ok (.ifCond .eq 7, 3) := by decide +kernel
theorem dX0_become_30 : decode cX0_become 30 = .ok (.iload_n 3, 1) := by decide +kernel
theorem dX0_become_31 : decode cX0_become 31 = .ok (.goto 5, 3) := by decide +kernel
theorem dX0_become_34 : decode cX0_become 34 = .ok (.bipush (-6), 2) := by decide +kernel
theorem dX0_become_36 : decode cX0_become 36 = .ok (.putfield 18, 3) := by decide +kernel
theorem dX0_become_39 : decode cX0_become 39 = .ok (.return_, 1) := by decide +kernel
theorem dX0_copy_0 : decode cX0_copy 0 = .ok (.aload_n 0, 1) := by decide +kernel
theorem dX0_copy_1 : decode cX0_copy 1 = .ok (.aload_n 1, 1) := by decide +kernel
theorem dX0_copy_2 : decode cX0_copy 2 = .ok (.getfield 9, 3) := by decide +kernel
theorem dX0_copy_5 : decode cX0_copy 5 = .ok (.putfield 9, 3) := by decide +kernel
theorem dX0_copy_8 : decode cX0_copy 8 = .ok (.aload_n 0, 1) := by decide +kernel
theorem dX0_copy_9 : decode cX0_copy 9 = .ok (.aload_n 1, 1) := by decide +kernel
theorem dX0_copy_10 : decode cX0_copy 10 = .ok (.getfield 15, 3) := by decide +kernel
theorem dX0_copy_13 : decode cX0_copy 13 = .ok (.putfield 15, 3) := by decide +kernel
theorem dX0_copy_16 : decode cX0_copy 16 = .ok (.aload_n 0, 1) := by decide +kernel
theorem dX0_copy_17 : decode cX0_copy 17 = .ok (.aload_n 1, 1) := by decide +kernel
theorem dX0_copy_18 : decode cX0_copy 18 = .ok (.getfield 18, 3) := by decide +kernel
theorem dX0_copy_21 : decode cX0_copy 21 = .ok (.putfield 18, 3) := by decide +kernel
theorem dX0_copy_24 : decode cX0_copy 24 = .ok (.return_, 1) := by decide +kernel
theorem dX0_writtenFields_0 : decode cX0_writtenFields 0 = .ok (.aload_n 0, 1) := by decide +kernel
theorem dX0_writtenFields_1 : decode cX0_writtenFields 1 = .ok (.getfield 9, 3) := by decide +kernel
theorem dX0_writtenFields_4 : decode cX0_writtenFields 4 = .ok (.invokestatic 21, 3) := by decide +kernel
theorem dX0_writtenFields_7 : decode cX0_writtenFields 7 = .ok (.ifCond .eq 12, 3) := by decide +kernel
theorem dX0_writtenFields_10 : decode cX0_writtenFields 10 = .ok (.iconst 1, 1) := by decide +kernel
theorem dX0_writtenFields_11 : decode cX0_writtenFields 11 = .ok (.aload_n 0, 1) := by decide +kernel
theorem dX0_writtenFields_12 : decode cX0_writtenFields 12 = .ok (.getfield 15, 3) := by decide +kernel
theorem dX0_writtenFields_15 : decode cX0_writtenFields 15 = .ok (.ishl, 1) := by decide +kernel
theorem dX0_writtenFields_16 : decode cX0_writtenFields 16 = .ok (.goto 4, 3) := by decide +kernel
theorem dX0_writtenFields_19 : decode cX0_writtenFields 19 = .ok (.iconst 0, 1) := by decide +kernel
theorem dX0_writtenFields_20 : decode cX0_writtenFields 20 = .ok (.ireturn, 1) := by decide +kernel
theorem dX0_readFields_0 : decode cX0_readFields 0 = .ok (.aload_n 0, 1) := by decide +kernel
theorem dX0_readFields_1 : decode cX0_readFields 1 = .ok (.getfield 9, 3) := by decide +kernel
theorem dX0_readFields_4 : decode cX0_readFields 4 = .ok (.tableswitch 68 2 7 #[40, 47, 54, 68, 47, 47], 40) := by decide +kernel
theorem dX0_readFields_44 : decode cX0_readFields 44 = .ok (.iconst 1, 1) := by decide +kernel
theorem dX0_readFields_45 : decode cX0_readFields 45 = .ok (.aload_n 0, 1) := by decide +kernel
theorem dX0_readFields_46 : decode cX0_readFields 46 = .ok (.getfield 18, 3) := by decide +kernel
theorem dX0_readFields_49 : decode cX0_readFields 49 = .ok (.ishl, 1) := by decide +kernel
theorem dX0_readFields_50 : decode cX0_readFields 50 = .ok (.ireturn, 1) := by decide +kernel
theorem dX0_readFields_51 : decode cX0_readFields 51 = .ok (.iconst 1, 1) := by decide +kernel
theorem dX0_readFields_52 : decode cX0_readFields 52 = .ok (.aload_n 0, 1) := by decide +kernel
theorem dX0_readFields_53 : decode cX0_readFields 53 = .ok (.getfield 15, 3) := by decide +kernel
theorem dX0_readFields_56 : decode cX0_readFields 56 = .ok (.ishl, 1) := by decide +kernel
theorem dX0_readFields_57 : decode cX0_readFields 57 = .ok (.ireturn, 1) := by decide +kernel
theorem dX0_readFields_58 : decode cX0_readFields 58 = .ok (.iconst 1, 1) := by decide +kernel
theorem dX0_readFields_59 : decode cX0_readFields 59 = .ok (.aload_n 0, 1) := by decide +kernel
theorem dX0_readFields_60 : decode cX0_readFields 60 = .ok (.getfield 15, 3) := by decide +kernel
theorem dX0_readFields_63 : decode cX0_readFields 63 = .ok (.ishl, 1) := by decide +kernel
theorem dX0_readFields_64 : decode cX0_readFields 64 = .ok (.iconst 1, 1) := by decide +kernel
theorem dX0_readFields_65 : decode cX0_readFields 65 = .ok (.aload_n 0, 1) := by decide +kernel
theorem dX0_readFields_66 : decode cX0_readFields 66 = .ok (.getfield 18, 3) := by decide +kernel
theorem dX0_readFields_69 : decode cX0_readFields 69 = .ok (.ishl, 1) := by decide +kernel
theorem dX0_readFields_70 : decode cX0_readFields 70 = .ok (.ior, 1) := by decide +kernel
theorem dX0_readFields_71 : decode cX0_readFields 71 = .ok (.ireturn, 1) := by decide +kernel
theorem dX0_readFields_72 : decode cX0_readFields 72 = .ok (.iconst 0, 1) := by decide +kernel
theorem dX0_readFields_73 : decode cX0_readFields 73 = .ok (.ireturn, 1) := by decide +kernel
theorem dX0_ownRegisters_0 : decode cX0_ownRegisters 0 = .ok (.aload_n 0, 1) := by decide +kernel
theorem dX0_ownRegisters_1 : decode cX0_ownRegisters 1 = .ok (.getfield 9, 3) := by decide +kernel
theorem dX0_ownRegisters_4 : decode cX0_ownRegisters 4 = .ok (.invokestatic 25, 3) := by decide +kernel
theorem dX0_ownRegisters_7 : decode cX0_ownRegisters 7 = .ok (.ifCond .eq 12, 3) := by decide +kernel
theorem dX0_ownRegisters_10 : decode cX0_ownRegisters 10 = .ok (.iconst 1, 1) := by decide +kernel
theorem dX0_ownRegisters_11 : decode cX0_ownRegisters 11 = .ok (.aload_n 0, 1) := by decide +kernel
theorem dX0_ownRegisters_12 : decode cX0_ownRegisters 12 = .ok (.getfield 18, 3) := by decide +kernel
theorem dX0_ownRegisters_15 : decode cX0_ownRegisters 15 = .ok (.ishl, 1) := by decide +kernel
theorem dX0_ownRegisters_16 : decode cX0_ownRegisters 16 = .ok (.goto 4, 3) := by decide +kernel
theorem dX0_ownRegisters_19 : decode cX0_ownRegisters 19 = .ok (.iconst 0, 1) := by decide +kernel
theorem dX0_ownRegisters_20 : decode cX0_ownRegisters 20 = .ok (.ireturn, 1) := by decide +kernel
theorem dX1_init_0 : decode cX1_init 0 = .ok (.aload_n 0, 1) := by decide +kernel
theorem dX1_init_1 : decode cX1_init 1 = .ok (.invokespecial 3, 3) := by decide +kernel
theorem dX1_init_4 : decode cX1_init 4 = .ok (.aload_n 0, 1) := by decide +kernel
theorem dX1_init_5 : decode cX1_init 5 = .ok (.bipush 6, 2) := by decide +kernel
theorem dX1_init_7 : decode cX1_init 7 = .ok (.newarray .int, 2) := by decide +kernel
theorem dX1_init_9 : decode cX1_init 9 = .ok (.putfield 9, 3) := by decide +kernel
theorem dX1_init_12 : decode cX1_init 12 = .ok (.aload_n 0, 1) := by decide +kernel
theorem dX1_init_13 : decode cX1_init 13 = .ok (.iconst 4, 1) := by decide +kernel
theorem dX1_init_14 : decode cX1_init 14 = .ok (.bipush 8, 2) := by decide +kernel
theorem dX1_init_16 : decode cX1_init 16 = .ok (.multianewarray 15 2, 4) := by decide +kernel
theorem dX1_init_20 : decode cX1_init 20 = .ok (.putfield 17, 3) := by decide +kernel
theorem dX1_init_23 : decode cX1_init 23 = .ok (.return_, 1) := by decide +kernel
theorem dX1_passThrough_0 : decode cX1_passThrough 0 = .ok (.aload_n 1, 1) := by decide +kernel
theorem dX1_passThrough_1 : decode cX1_passThrough 1 = .ok (.getfield 20, 3) := by decide +kernel
theorem dX1_passThrough_4 : decode cX1_passThrough 4 = .ok (.iconst 0, 1) := by decide +kernel
theorem dX1_passThrough_5 : decode cX1_passThrough 5 = .ok (.aload_n 0, 1) := by decide +kernel
theorem dX1_passThrough_6 : decode cX1_passThrough 6 = .ok (.getfield 9, 3) := by decide +kernel
theorem dX1_passThrough_9 : decode cX1_passThrough 9 = .ok (.iconst 0, 1) := by decide +kernel
theorem dX1_passThrough_10 : decode cX1_passThrough 10 = .ok (.bipush 6, 2) := by decide +kernel
theorem dX1_passThrough_12 : decode cX1_passThrough 12 = .ok (.invokestatic 25, 3) := by decide +kernel
theorem dX1_passThrough_15 : decode cX1_passThrough 15 = .ok (.aload_n 0, 1) := by decide +kernel
theorem dX1_passThrough_16 : decode cX1_passThrough 16 = .ok (.aload_n 1, 1) := by decide +kernel
theorem dX1_passThrough_17 : decode cX1_passThrough 17 = .ok (.getfield 31, 3) := by decide +kernel
theorem dX1_passThrough_20 : decode cX1_passThrough 20 = .ok (.putfield 35, 3) := by decide +kernel
theorem dX1_passThrough_23 : decode cX1_passThrough 23 = .ok (.aload_n 0, 1) := by decide +kernel
theorem dX1_passThrough_24 : decode cX1_passThrough 24 = .ok (.iconst 0, 1) := by decide +kernel
theorem dX1_passThrough_25 : decode cX1_passThrough 25 = .ok (.putfield 38, 3) := by decide +kernel
theorem dX1_passThrough_28 : decode cX1_passThrough 28 = .ok (.iconst 1, 1) := by decide +kernel
theorem dX1_passThrough_29 : decode cX1_passThrough 29 = .ok (.istore_n 2, 1) := by decide +kernel
theorem dX1_passThrough_30 : decode cX1_passThrough 30 = .ok (.iconst 0, 1) := by decide +kernel
theorem dX1_passThrough_31 : decode cX1_passThrough 31 = .ok (.istore_n 3, 1) := by decide +kernel
theorem dX1_passThrough_32 : decode cX1_passThrough 32 = .ok (.iload_n 3, 1) := by decide +kernel
theorem dX1_passThrough_33 : decode cX1_passThrough 33 = .ok (.aload_n 1, 1) := by decide +kernel
theorem dX1_passThrough_34 : decode cX1_passThrough 34 = .ok (.getfield 42, 3) := by decide +kernel
theorem dX1_passThrough_37 : decode cX1_passThrough 37 = .ok (.iconst 3, 1) := by decide +kernel
theorem dX1_passThrough_38 : decode cX1_passThrough 38 = .ok (.iaload, 1) := by decide +kernel
theorem dX1_passThrough_39 : decode cX1_passThrough 39 = .ok (.if_icmp .ge 56, 3) := by decide +kernel
theorem dX1_passThrough_42 : decode cX1_passThrough 42 = .ok (.iload_n 2, 1) := by decide +kernel
theorem dX1_passThrough_43 : decode cX1_passThrough 43 = .ok (.ifCond .eq 52, 3) := by decide +kernel
theorem dX1_passThrough_46 : decode cX1_passThrough 46 = .ok (.aload_n 0, 1) := by decide +kernel
theorem dX1_passThrough_47 : decode cX1_passThrough 47 = .ok (.iconst 0, 1) := by decide +kernel
theorem dX1_passThrough_48 : decode cX1_passThrough 48 = .ok (.putfield 45, 3) := by decide +kernel
theorem dX1_passThrough_51 : decode cX1_passThrough 51 = .ok (.aload_n 0, 1) := by decide +kernel
theorem dX1_passThrough_52 : decode cX1_passThrough 52 = .ok (.aload_n 1, 1) := by decide +kernel
theorem dX1_passThrough_53 : decode cX1_passThrough 53 = .ok (.aload_n 0, 1) := by decide +kernel
theorem dX1_passThrough_54 : decode cX1_passThrough 54 = .ok (.getfield 17, 3) := by decide +kernel
theorem dX1_passThrough_57 : decode cX1_passThrough 57 = .ok (.iload_n 3, 1) := by decide +kernel
theorem dX1_passThrough_58 : decode cX1_passThrough 58 = .ok (.aaload, 1) := by decide +kernel
theorem dX1_passThrough_59 : decode cX1_passThrough 59 = .ok (.invokevirtual 48, 3) := by decide +kernel
theorem dX1_passThrough_62 : decode cX1_passThrough 62 = .ok (.aload_n 0, 1) := by decide +kernel
theorem dX1_passThrough_63 : decode cX1_passThrough 63 = .ok (.iload_n 3, 1) := by decide +kernel
theorem dX1_passThrough_64 : decode cX1_passThrough 64 = .ok (.iconst 1, 1) := by decide +kernel
theorem dX1_passThrough_65 : decode cX1_passThrough 65 = .ok (.iadd, 1) := by decide +kernel
theorem dX1_passThrough_66 : decode cX1_passThrough 66 = .ok (.putfield 52, 3) := by decide +kernel
theorem dX1_passThrough_69 : decode cX1_passThrough 69 = .ok (.aload_n 0, 1) := by decide +kernel
theorem dX1_passThrough_70 : decode cX1_passThrough 70 = .ok (.getfield 45, 3) := by decide +kernel
theorem dX1_passThrough_73 : decode cX1_passThrough 73 = .ok (.ifCond .eq 14, 3) := by decide +kernel
theorem dX1_passThrough_76 : decode cX1_passThrough 76 = .ok (.aload_n 0, 1) := by decide +kernel
theorem dX1_passThrough_77 : decode cX1_passThrough 77 = .ok (.getfield 38, 3) := by decide +kernel
theorem dX1_passThrough_80 : decode cX1_passThrough 80 = .ok (.ifCond .ne 7, 3) := by decide +kernel
theorem dX1_passThrough_83 : decode cX1_passThrough 83 = .ok (.iconst 1, 1) := by decide +kernel
theorem dX1_passThrough_84 : decode cX1_passThrough 84 = .ok (.goto 4, 3) := by decide +kernel
theorem dX1_passThrough_87 : decode cX1_passThrough 87 = .ok (.iconst 0, 1) := by decide +kernel
theorem dX1_passThrough_88 : decode cX1_passThrough 88 = .ok (.istore_n 2, 1) := by decide +kernel
theorem dX1_passThrough_89 : decode cX1_passThrough 89 = .ok (.iinc 3 1, 3) := by decide +kernel
theorem dX1_passThrough_92 : decode cX1_passThrough 92 = .ok (.goto (-60), 3) := by decide +kernel
theorem dX1_passThrough_95 : decode cX1_passThrough 95 = .ok (.return_, 1) := by decide +kernel
theorem dX1_doRound_0 : decode cX1_doRound 0 = .ok (.iconst 0, 1) := by decide +kernel
theorem dX1_doRound_1 : decode cX1_doRound 1 = .ok (.istore_n 3, 1) := by decide +kernel
theorem dX1_doRound_2 : decode cX1_doRound 2 = .ok (.iload_n 3, 1) := by decide +kernel
theorem dX1_doRound_3 : decode cX1_doRound 3 = .ok (.aload_n 1, 1) := by decide +kernel
theorem dX1_doRound_4 : decode cX1_doRound 4 = .ok (.getfield 31, 3) := by decide +kernel
theorem dX1_doRound_7 : decode cX1_doRound 7 = .ok (.if_icmp .ge 52, 3) := by decide +kernel
theorem dX1_doRound_10 : decode cX1_doRound 10 = .ok (.aload_n 1, 1) := by decide +kernel
theorem dX1_doRound_11 : decode cX1_doRound 11 = .ok (.getfield 55, 3) := by decide +kernel
theorem dX1_doRound_14 : decode cX1_doRound 14 = .ok (.iload_n 3, 1) := by decide +kernel
theorem dX1_doRound_15 : decode cX1_doRound 15 = .ok (.aaload, 1) := by decide +kernel
theorem dX1_doRound_16 : decode cX1_doRound 16 = .ok (.astore 4, 2) := by decide +kernel
theorem dX1_doRound_18 : decode cX1_doRound 18 = .ok (.aload_n 2, 1) := by decide +kernel
theorem dX1_doRound_19 : decode cX1_doRound 19 = .ok (.iload_n 3, 1) := by decide +kernel
theorem dX1_doRound_20 : decode cX1_doRound 20 = .ok (.aload 4, 2) := by decide +kernel
theorem dX1_doRound_22 : decode cX1_doRound 22 = .ok (.aload_n 0, 1) := by decide +kernel
theorem dX1_doRound_23 : decode cX1_doRound 23 = .ok (.getfield 9, 3) := by decide +kernel
theorem dX1_doRound_26 : decode cX1_doRound 26 = .ok (.aload 4, 2) := by decide +kernel
theorem dX1_doRound_28 : decode cX1_doRound 28 = .ok (.getfield 58, 3) := by decide +kernel
theorem dX1_doRound_31 : decode cX1_doRound 31 = .ok (.iaload, 1) := by decide +kernel
theorem dX1_doRound_32 : decode cX1_doRound 32 = .ok (.invokevirtual 63, 3) := by decide +kernel
theorem dX1_doRound_35 : decode cX1_doRound 35 = .ok (.iastore, 1) := by decide +kernel
theorem dX1_doRound_36 : decode cX1_doRound 36 = .ok (.aload_n 0, 1) := by decide +kernel
theorem dX1_doRound_37 : decode cX1_doRound 37 = .ok (.aload 4, 2) := by decide +kernel
theorem dX1_doRound_39 : decode cX1_doRound 39 = .ok (.getfield 67, 3) := by decide +kernel
theorem dX1_doRound_42 : decode cX1_doRound 42 = .ok (.aload_n 2, 1) := by decide +kernel
theorem dX1_doRound_43 : decode cX1_doRound 43 = .ok (.iload_n 3, 1) := by decide +kernel
theorem dX1_doRound_44 : decode cX1_doRound 44 = .ok (.iaload, 1) := by decide +kernel
theorem dX1_doRound_45 : decode cX1_doRound 45 = .ok (.aaload, 1) := by decide +kernel
theorem dX1_doRound_46 : decode cX1_doRound 46 = .ok (.aload_n 1, 1) := by decide +kernel
theorem dX1_doRound_47 : decode cX1_doRound 47 = .ok (.getfield 71, 3) := by decide +kernel
theorem dX1_doRound_50 : decode cX1_doRound 50 = .ok (.invokevirtual 74, 3) := by decide +kernel
theorem dX1_doRound_53 : decode cX1_doRound 53 = .ok (.iinc 3 1, 3) := by decide +kernel
theorem dX1_doRound_56 : decode cX1_doRound 56 = .ok (.goto (-54), 3) := by decide +kernel
theorem dX1_doRound_59 : decode cX1_doRound 59 = .ok (.return_, 1) := by decide +kernel
theorem dX1_apply_0 : decode cX1_apply 0 = .ok (.aload_n 1, 1) := by decide +kernel
theorem dX1_apply_1 : decode cX1_apply 1 = .ok (.getfield 78, 3) := by decide +kernel
theorem dX1_apply_4 : decode cX1_apply 4 = .ok (.tableswitch 230 1 9 #[52, 68, 89, 119, 143, 182, 198, 214, 222], 52) := by decide +kernel
theorem dX1_apply_56 : decode cX1_apply 56 = .ok (.aload_n 0, 1) := by decide +kernel
theorem dX1_apply_57 : decode cX1_apply 57 = .ok (.getfield 9, 3) := by decide +kernel
theorem dX1_apply_60 : decode cX1_apply 60 = .ok (.aload_n 1, 1) := by decide +kernel
theorem dX1_apply_61 : decode cX1_apply 61 = .ok (.getfield 83, 3) := by decide +kernel
theorem dX1_apply_64 : decode cX1_apply 64 = .ok (.aload_n 1, 1) := by decide +kernel
theorem dX1_apply_65 : decode cX1_apply 65 = .ok (.getfield 86, 3) := by decide +kernel
theorem dX1_apply_68 : decode cX1_apply 68 = .ok (.iastore, 1) := by decide +kernel
theorem dX1_apply_69 : decode cX1_apply 69 = .ok (.goto 165, 3) := by decide +kernel
theorem dX1_apply_72 : decode cX1_apply 72 = .ok (.aload_n 0, 1) := by decide +kernel
theorem dX1_apply_73 : decode cX1_apply 73 = .ok (.getfield 9, 3) := by decide +kernel
theorem dX1_apply_76 : decode cX1_apply 76 = .ok (.aload_n 1, 1) := by decide +kernel
theorem dX1_apply_77 : decode cX1_apply 77 = .ok (.getfield 83, 3) := by decide +kernel
theorem dX1_apply_80 : decode cX1_apply 80 = .ok (.aload_n 0, 1) := by decide +kernel
theorem dX1_apply_81 : decode cX1_apply 81 = .ok (.getfield 9, 3) := by decide +kernel
theorem dX1_apply_84 : decode cX1_apply 84 = .ok (.aload_n 1, 1) := by decide +kernel
theorem dX1_apply_85 : decode cX1_apply 85 = .ok (.getfield 86, 3) := by decide +kernel
theorem dX1_apply_88 : decode cX1_apply 88 = .ok (.iaload, 1) := by decide +kernel
theorem dX1_apply_89 : decode cX1_apply 89 = .ok (.iastore, 1) := by decide +kernel
theorem dX1_apply_90 : decode cX1_apply 90 = .ok (.goto 144, 3) := by decide +kernel
theorem dX1_apply_93 : decode cX1_apply 93 = .ok (.aload_n 0, 1) := by decide +kernel
theorem dX1_apply_94 : decode cX1_apply 94 = .ok (.getfield 9, 3) := by decide +kernel
theorem dX1_apply_97 : decode cX1_apply 97 = .ok (.aload_n 1, 1) := by decide +kernel
theorem dX1_apply_98 : decode cX1_apply 98 = .ok (.getfield 83, 3) := by decide +kernel
theorem dX1_apply_101 : decode cX1_apply 101 = .ok (.aload_n 0, 1) := by decide +kernel
theorem dX1_apply_102 : decode cX1_apply 102 = .ok (.getfield 9, 3) := by decide +kernel
theorem dX1_apply_105 : decode cX1_apply 105 = .ok (.aload_n 1, 1) := by decide +kernel
theorem dX1_apply_106 : decode cX1_apply 106 = .ok (.getfield 83, 3) := by decide +kernel
theorem dX1_apply_109 : decode cX1_apply 109 = .ok (.iaload, 1) := by decide +kernel
theorem dX1_apply_110 : decode cX1_apply 110 = .ok (.aload_n 1, 1) := by decide +kernel
theorem dX1_apply_111 : decode cX1_apply 111 = .ok (.getfield 86, 3) := by decide +kernel
theorem dX1_apply_114 : decode cX1_apply 114 = .ok (.iadd, 1) := by decide +kernel
theorem dX1_apply_115 : decode cX1_apply 115 = .ok (.sipush 255, 3) := by decide +kernel
theorem dX1_apply_118 : decode cX1_apply 118 = .ok (.iand, 1) := by decide +kernel
theorem dX1_apply_119 : decode cX1_apply 119 = .ok (.iastore, 1) := by decide +kernel
theorem dX1_apply_120 : decode cX1_apply 120 = .ok (.goto 114, 3) := by decide +kernel
theorem dX1_apply_123 : decode cX1_apply 123 = .ok (.aload_n 0, 1) := by decide +kernel
theorem dX1_apply_124 : decode cX1_apply 124 = .ok (.getfield 9, 3) := by decide +kernel
theorem dX1_apply_127 : decode cX1_apply 127 = .ok (.aload_n 1, 1) := by decide +kernel
theorem dX1_apply_128 : decode cX1_apply 128 = .ok (.getfield 83, 3) := by decide +kernel
theorem dX1_apply_131 : decode cX1_apply 131 = .ok (.dup2, 1) := by decide +kernel
theorem dX1_apply_132 : decode cX1_apply 132 = .ok (.iaload, 1) := by decide +kernel
theorem dX1_apply_133 : decode cX1_apply 133 = .ok (.aload_n 0, 1) := by decide +kernel
theorem dX1_apply_134 : decode cX1_apply 134 = .ok (.getfield 9, 3) := by decide +kernel
theorem dX1_apply_137 : decode cX1_apply 137 = .ok (.aload_n 1, 1) := by decide +kernel
theorem dX1_apply_138 : decode cX1_apply 138 = .ok (.getfield 86, 3) := by decide +kernel
theorem dX1_apply_141 : decode cX1_apply 141 = .ok (.iaload, 1) := by decide +kernel
theorem dX1_apply_142 : decode cX1_apply 142 = .ok (.ixor, 1) := by decide +kernel
theorem dX1_apply_143 : decode cX1_apply 143 = .ok (.iastore, 1) := by decide +kernel
theorem dX1_apply_144 : decode cX1_apply 144 = .ok (.goto 90, 3) := by decide +kernel
theorem dX1_apply_147 : decode cX1_apply 147 = .ok (.aload_n 2, 1) := by decide +kernel
theorem dX1_apply_148 : decode cX1_apply 148 = .ok (.aload_n 1, 1) := by decide +kernel
theorem dX1_apply_149 : decode cX1_apply 149 = .ok (.getfield 86, 3) := by decide +kernel
theorem dX1_apply_152 : decode cX1_apply 152 = .ok (.aload_n 2, 1) := by decide +kernel
theorem dX1_apply_153 : decode cX1_apply 153 = .ok (.aload_n 1, 1) := by decide +kernel
theorem dX1_apply_154 : decode cX1_apply 154 = .ok (.getfield 86, 3) := by decide +kernel
theorem dX1_apply_157 : decode cX1_apply 157 = .ok (.iaload, 1) := by decide +kernel
theorem dX1_apply_158 : decode cX1_apply 158 = .ok (.iconst 1, 1) := by decide +kernel
theorem dX1_apply_159 : decode cX1_apply 159 = .ok (.iadd, 1) := by decide +kernel
theorem dX1_apply_160 : decode cX1_apply 160 = .ok (.ldc 89, 2) := by decide +kernel
theorem dX1_apply_162 : decode cX1_apply 162 = .ok (.iand, 1) := by decide +kernel
theorem dX1_apply_163 : decode cX1_apply 163 = .ok (.iastore, 1) := by decide +kernel
theorem dX1_apply_164 : decode cX1_apply 164 = .ok (.aload_n 0, 1) := by decide +kernel
theorem dX1_apply_165 : decode cX1_apply 165 = .ok (.getfield 9, 3) := by decide +kernel
theorem dX1_apply_168 : decode cX1_apply 168 = .ok (.aload_n 1, 1) := by decide +kernel
theorem dX1_apply_169 : decode cX1_apply 169 = .ok (.getfield 83, 3) := by decide +kernel
theorem dX1_apply_172 : decode cX1_apply 172 = .ok (.aload_n 2, 1) := by decide +kernel
theorem dX1_apply_173 : decode cX1_apply 173 = .ok (.aload_n 1, 1) := by decide +kernel
theorem dX1_apply_174 : decode cX1_apply 174 = .ok (.getfield 86, 3) := by decide +kernel
theorem dX1_apply_177 : decode cX1_apply 177 = .ok (.iaload, 1) := by decide +kernel
theorem dX1_apply_178 : decode cX1_apply 178 = .ok (.sipush 255, 3) := by decide +kernel
theorem dX1_apply_181 : decode cX1_apply 181 = .ok (.iand, 1) := by decide +kernel
theorem dX1_apply_182 : decode cX1_apply 182 = .ok (.iastore, 1) := by decide +kernel
theorem dX1_apply_183 : decode cX1_apply 183 = .ok (.goto 51, 3) := by decide +kernel
theorem dX1_apply_186 : decode cX1_apply 186 = .ok (.aload_n 0, 1) := by decide +kernel
theorem dX1_apply_187 : decode cX1_apply 187 = .ok (.aload_n 1, 1) := by decide +kernel
theorem dX1_apply_188 : decode cX1_apply 188 = .ok (.getfield 83, 3) := by decide +kernel
theorem dX1_apply_191 : decode cX1_apply 191 = .ok (.aload_n 2, 1) := by decide +kernel
theorem dX1_apply_192 : decode cX1_apply 192 = .ok (.aload_n 1, 1) := by decide +kernel
theorem dX1_apply_193 : decode cX1_apply 193 = .ok (.getfield 86, 3) := by decide +kernel
theorem dX1_apply_196 : decode cX1_apply 196 = .ok (.invokevirtual 90, 3) := by decide +kernel
theorem dX1_apply_199 : decode cX1_apply 199 = .ok (.goto 35, 3) := by decide +kernel
theorem dX1_apply_202 : decode cX1_apply 202 = .ok (.aload_n 0, 1) := by decide +kernel
theorem dX1_apply_203 : decode cX1_apply 203 = .ok (.aload_n 1, 1) := by decide +kernel
theorem dX1_apply_204 : decode cX1_apply 204 = .ok (.getfield 83, 3) := by decide +kernel
theorem dX1_apply_207 : decode cX1_apply 207 = .ok (.aload_n 2, 1) := by decide +kernel
theorem dX1_apply_208 : decode cX1_apply 208 = .ok (.aload_n 1, 1) := by decide +kernel
theorem dX1_apply_209 : decode cX1_apply 209 = .ok (.getfield 86, 3) := by decide +kernel
theorem dX1_apply_212 : decode cX1_apply 212 = .ok (.invokevirtual 94, 3) := by decide +kernel
theorem dX1_apply_215 : decode cX1_apply 215 = .ok (.goto 19, 3) := by decide +kernel
theorem dX1_apply_218 : decode cX1_apply 218 = .ok (.aload_n 0, 1) := by decide +kernel
theorem dX1_apply_219 : decode cX1_apply 219 = .ok (.iconst 1, 1) := by decide +kernel
theorem dX1_apply_220 : decode cX1_apply 220 = .ok (.putfield 38, 3) := by decide +kernel
theorem dX1_apply_223 : decode cX1_apply 223 = .ok (.goto 11, 3) := by decide +kernel
theorem dX1_apply_226 : decode cX1_apply 226 = .ok (.aload_n 0, 1) := by decide +kernel
theorem dX1_apply_227 : decode cX1_apply 227 = .ok (.iconst 1, 1) := by decide +kernel
theorem dX1_apply_228 : decode cX1_apply 228 = .ok (.putfield 45, 3) := by decide +kernel
theorem dX1_apply_231 : decode cX1_apply 231 = .ok (.goto 3, 3) := by decide +kernel
theorem dX1_apply_234 : decode cX1_apply 234 = .ok (.return_, 1) := by decide +kernel
theorem dX1_keepTop_0 : decode cX1_keepTop 0 = .ok (.aload_n 0, 1) := by decide +kernel
theorem dX1_keepTop_1 : decode cX1_keepTop 1 = .ok (.getfield 9, 3) := by decide +kernel
theorem dX1_keepTop_4 : decode cX1_keepTop 4 = .ok (.iload_n 1, 1) := by decide +kernel
theorem dX1_keepTop_5 : decode cX1_keepTop 5 = .ok (.iaload, 1) := by decide +kernel
theorem dX1_keepTop_6 : decode cX1_keepTop 6 = .ok (.aload_n 2, 1) := by decide +kernel
theorem dX1_keepTop_7 : decode cX1_keepTop 7 = .ok (.iload_n 3, 1) := by decide +kernel
theorem dX1_keepTop_8 : decode cX1_keepTop 8 = .ok (.iaload, 1) := by decide +kernel
theorem dX1_keepTop_9 : decode cX1_keepTop 9 = .ok (.if_icmp .le 7, 3) := by decide +kernel
theorem dX1_keepTop_12 : decode cX1_keepTop 12 = .ok (.iconst 1, 1) := by decide +kernel
theorem dX1_keepTop_13 : decode cX1_keepTop 13 = .ok (.goto 4, 3) := by decide +kernel
theorem dX1_keepTop_16 : decode cX1_keepTop 16 = .ok (.iconst 0, 1) := by decide +kernel
theorem dX1_keepTop_17 : decode cX1_keepTop 17 = .ok (.istore 4, 2) := by decide +kernel
theorem dX1_keepTop_19 : decode cX1_keepTop 19 = .ok (.iload 4, 2) := by decide +kernel
theorem dX1_keepTop_21 : decode cX1_keepTop 21 = .ok (.ifCond .eq 12, 3) := by decide +kernel
theorem dX1_keepTop_24 : decode cX1_keepTop 24 = .ok (.aload_n 2, 1) := by decide +kernel
theorem dX1_keepTop_25 : decode cX1_keepTop 25 = .ok (.iload_n 3, 1) := by decide +kernel
theorem dX1_keepTop_26 : decode cX1_keepTop 26 = .ok (.aload_n 0, 1) := by decide +kernel
theorem dX1_keepTop_27 : decode cX1_keepTop 27 = .ok (.getfield 9, 3) := by decide +kernel
theorem dX1_keepTop_30 : decode cX1_keepTop 30 = .ok (.iload_n 1, 1) := by decide +kernel
theorem dX1_keepTop_31 : decode cX1_keepTop 31 = .ok (.iaload, 1) := by decide +kernel
theorem dX1_keepTop_32 : decode cX1_keepTop 32 = .ok (.iastore, 1) := by decide +kernel
theorem dX1_keepTop_33 : decode cX1_keepTop 33 = .ok (.aload_n 0, 1) := by decide +kernel
theorem dX1_keepTop_34 : decode cX1_keepTop 34 = .ok (.getfield 9, 3) := by decide +kernel
theorem dX1_keepTop_37 : decode cX1_keepTop 37 = .ok (.iload_n 1, 1) := by decide +kernel
theorem dX1_keepTop_38 : decode cX1_keepTop 38 = .ok (.iload 4, 2) := by decide +kernel
theorem dX1_keepTop_40 : decode cX1_keepTop 40 = .ok (.ifCond .eq 7, 3) := by decide +kernel
theorem dX1_keepTop_43 : decode cX1_keepTop 43 = .ok (.iconst 1, 1) := by decide +kernel
theorem dX1_keepTop_44 : decode cX1_keepTop 44 = .ok (.goto 4, 3) := by decide +kernel
theorem dX1_keepTop_47 : decode cX1_keepTop 47 = .ok (.iconst 0, 1) := by decide +kernel
theorem dX1_keepTop_48 : decode cX1_keepTop 48 = .ok (.iastore, 1) := by decide +kernel
theorem dX1_keepTop_49 : decode cX1_keepTop 49 = .ok (.return_, 1) := by decide +kernel
theorem dX1_swap_0 : decode cX1_swap 0 = .ok (.aload_n 2, 1) := by decide +kernel
theorem dX1_swap_1 : decode cX1_swap 1 = .ok (.iload_n 3, 1) := by decide +kernel
theorem dX1_swap_2 : decode cX1_swap 2 = .ok (.iaload, 1) := by decide +kernel
theorem dX1_swap_3 : decode cX1_swap 3 = .ok (.istore 4, 2) := by decide +kernel
theorem dX1_swap_5 : decode cX1_swap 5 = .ok (.aload_n 2, 1) := by decide +kernel
theorem dX1_swap_6 : decode cX1_swap 6 = .ok (.iload_n 3, 1) := by decide +kernel
theorem dX1_swap_7 : decode cX1_swap 7 = .ok (.aload_n 0, 1) := by decide +kernel
theorem dX1_swap_8 : decode cX1_swap 8 = .ok (.getfield 9, 3) := by decide +kernel
theorem dX1_swap_11 : decode cX1_swap 11 = .ok (.iload_n 1, 1) := by decide +kernel
theorem dX1_swap_12 : decode cX1_swap 12 = .ok (.iaload, 1) := by decide +kernel
theorem dX1_swap_13 : decode cX1_swap 13 = .ok (.iastore, 1) := by decide +kernel
theorem dX1_swap_14 : decode cX1_swap 14 = .ok (.aload_n 0, 1) := by decide +kernel
theorem dX1_swap_15 : decode cX1_swap 15 = .ok (.getfield 9, 3) := by decide +kernel
theorem dX1_swap_18 : decode cX1_swap 18 = .ok (.iload_n 1, 1) := by decide +kernel
theorem dX1_swap_19 : decode cX1_swap 19 = .ok (.iload 4, 2) := by decide +kernel
theorem dX1_swap_21 : decode cX1_swap 21 = .ok (.sipush 255, 3) := by decide +kernel
theorem dX1_swap_24 : decode cX1_swap 24 = .ok (.iand, 1) := by decide +kernel
theorem dX1_swap_25 : decode cX1_swap 25 = .ok (.iastore, 1) := by decide +kernel
theorem dX1_swap_26 : decode cX1_swap 26 = .ok (.return_, 1) := by decide +kernel
theorem dX2_init_0 : decode cX2_init 0 = .ok (.aload_n 0, 1) := by decide +kernel
theorem dX2_init_1 : decode cX2_init 1 = .ok (.invokespecial 3, 3) := by decide +kernel
theorem dX2_init_4 : decode cX2_init 4 = .ok (.aload_n 0, 1) := by decide +kernel
theorem dX2_init_5 : decode cX2_init 5 = .ok (.bipush 8, 2) := by decide +kernel
theorem dX2_init_7 : decode cX2_init 7 = .ok (.newarray .int, 2) := by decide +kernel
theorem dX2_init_9 : decode cX2_init 9 = .ok (.putfield 9, 3) := by decide +kernel
theorem dX2_init_12 : decode cX2_init 12 = .ok (.aload_n 0, 1) := by decide +kernel
theorem dX2_init_13 : decode cX2_init 13 = .ok (.bipush 8, 2) := by decide +kernel
theorem dX2_init_15 : decode cX2_init 15 = .ok (.newarray .int, 2) := by decide +kernel
theorem dX2_init_17 : decode cX2_init 17 = .ok (.putfield 15, 3) := by decide +kernel
theorem dX2_init_20 : decode cX2_init 20 = .ok (.aload_n 0, 1) := by decide +kernel
theorem dX2_init_21 : decode cX2_init 21 = .ok (.bipush 8, 2) := by decide +kernel
theorem dX2_init_23 : decode cX2_init 23 = .ok (.newarray .int, 2) := by decide +kernel
theorem dX2_init_25 : decode cX2_init 25 = .ok (.putfield 18, 3) := by decide +kernel
theorem dX2_init_28 : decode cX2_init 28 = .ok (.aload_n 0, 1) := by decide +kernel
theorem dX2_init_29 : decode cX2_init 29 = .ok (.bipush 8, 2) := by decide +kernel
theorem dX2_init_31 : decode cX2_init 31 = .ok (.newarray .int, 2) := by decide +kernel
theorem dX2_init_33 : decode cX2_init 33 = .ok (.putfield 21, 3) := by decide +kernel
theorem dX2_init_36 : decode cX2_init 36 = .ok (.aload_n 0, 1) := by decide +kernel
theorem dX2_init_37 : decode cX2_init 37 = .ok (.bipush 8, 2) := by decide +kernel
theorem dX2_init_39 : decode cX2_init 39 = .ok (.newarray .int, 2) := by decide +kernel
theorem dX2_init_41 : decode cX2_init 41 = .ok (.putfield 24, 3) := by decide +kernel
theorem dX2_init_44 : decode cX2_init 44 = .ok (.aload_n 0, 1) := by decide +kernel
theorem dX2_init_45 : decode cX2_init 45 = .ok (.bipush 8, 2) := by decide +kernel
theorem dX2_init_47 : decode cX2_init 47 = .ok (.newarray .int, 2) := by decide +kernel
theorem dX2_init_49 : decode cX2_init 49 = .ok (.putfield 27, 3) := by decide +kernel
theorem dX2_init_52 : decode cX2_init 52 = .ok (.aload_n 0, 1) := by decide +kernel
theorem dX2_init_53 : decode cX2_init 53 = .ok (.bipush 8, 2) := by decide +kernel
theorem dX2_init_55 : decode cX2_init 55 = .ok (.newarray .int, 2) := by decide +kernel
theorem dX2_init_57 : decode cX2_init 57 = .ok (.putfield 30, 3) := by decide +kernel
theorem dX2_init_60 : decode cX2_init 60 = .ok (.aload_n 0, 1) := by decide +kernel
theorem dX2_init_61 : decode cX2_init 61 = .ok (.bipush 8, 2) := by decide +kernel
theorem dX2_init_63 : decode cX2_init 63 = .ok (.newarray .int, 2) := by decide +kernel
theorem dX2_init_65 : decode cX2_init 65 = .ok (.putfield 33, 3) := by decide +kernel
theorem dX2_init_68 : decode cX2_init 68 = .ok (.aload_n 0, 1) := by decide +kernel
theorem dX2_init_69 : decode cX2_init 69 = .ok (.bipush 8, 2) := by decide +kernel
theorem dX2_init_71 : decode cX2_init 71 = .ok (.newarray .int, 2) := by decide +kernel
theorem dX2_init_73 : decode cX2_init 73 = .ok (.putfield 36, 3) := by decide +kernel
theorem dX2_init_76 : decode cX2_init 76 = .ok (.aload_n 0, 1) := by decide +kernel
theorem dX2_init_77 : decode cX2_init 77 = .ok (.bipush 8, 2) := by decide +kernel
theorem dX2_init_79 : decode cX2_init 79 = .ok (.newarray .int, 2) := by decide +kernel
theorem dX2_init_81 : decode cX2_init 81 = .ok (.putfield 39, 3) := by decide +kernel
theorem dX2_init_84 : decode cX2_init 84 = .ok (.return_, 1) := by decide +kernel
theorem dX2_arrange_0 : decode cX2_arrange 0 = .ok (.iconst 0, 1) := by decide +kernel
theorem dX2_arrange_1 : decode cX2_arrange 1 = .ok (.istore_n 2, 1) := by decide +kernel
theorem dX2_arrange_2 : decode cX2_arrange 2 = .ok (.iload_n 2, 1) := by decide +kernel
theorem dX2_arrange_3 : decode cX2_arrange 3 = .ok (.aload_n 1, 1) := by decide +kernel
theorem dX2_arrange_4 : decode cX2_arrange 4 = .ok (.getfield 42, 3) := by decide +kernel
theorem dX2_arrange_7 : decode cX2_arrange 7 = .ok (.if_icmp .ge 20, 3) := by decide +kernel
theorem dX2_arrange_10 : decode cX2_arrange 10 = .ok (.aload_n 0, 1) := by decide +kernel
theorem dX2_arrange_11 : decode cX2_arrange 11 = .ok (.iload_n 2, 1) := by decide +kernel
theorem dX2_arrange_12 : decode cX2_arrange 12 = .ok (.aload_n 1, 1) := by decide +kernel
theorem dX2_arrange_13 : decode cX2_arrange 13 = .ok (.getfield 48, 3) := by decide +kernel
theorem dX2_arrange_16 : decode cX2_arrange 16 = .ok (.iload_n 2, 1) := by decide +kernel
theorem dX2_arrange_17 : decode cX2_arrange 17 = .ok (.aaload, 1) := by decide +kernel
theorem dX2_arrange_18 : decode cX2_arrange 18 = .ok (.invokevirtual 52, 3) := by decide +kernel
theorem dX2_arrange_21 : decode cX2_arrange 21 = .ok (.iinc 2 1, 3) := by decide +kernel
theorem dX2_arrange_24 : decode cX2_arrange 24 = .ok (.goto (-22), 3) := by decide +kernel
theorem dX2_arrange_27 : decode cX2_arrange 27 = .ok (.aload_n 0, 1) := by decide +kernel
theorem dX2_arrange_28 : decode cX2_arrange 28 = .ok (.getfield 36, 3) := by decide +kernel
theorem dX2_arrange_31 : decode cX2_arrange 31 = .ok (.iconst 0, 1) := by decide +kernel
theorem dX2_arrange_32 : decode cX2_arrange 32 = .ok (.invokestatic 56, 3) := by decide +kernel
theorem dX2_arrange_35 : decode cX2_arrange 35 = .ok (.aload_n 0, 1) := by decide +kernel
theorem dX2_arrange_36 : decode cX2_arrange 36 = .ok (.getfield 39, 3) := by decide +kernel
theorem dX2_arrange_39 : decode cX2_arrange 39 = .ok (.iconst 0, 1) := by decide +kernel
theorem dX2_arrange_40 : decode cX2_arrange 40 = .ok (.invokestatic 56, 3) := by decide +kernel
theorem dX2_arrange_43 : decode cX2_arrange 43 = .ok (.aload_n 0, 1) := by decide +kernel
theorem dX2_arrange_44 : decode cX2_arrange 44 = .ok (.iconst 1, 1) := by decide +kernel
theorem dX2_arrange_45 : decode cX2_arrange 45 = .ok (.putfield 62, 3) := by decide +kernel
theorem dX2_arrange_48 : decode cX2_arrange 48 = .ok (.iconst 0, 1) := by decide +kernel
theorem dX2_arrange_49 : decode cX2_arrange 49 = .ok (.istore_n 2, 1) := by decide +kernel
theorem dX2_arrange_50 : decode cX2_arrange 50 = .ok (.iload_n 2, 1) := by decide +kernel
theorem dX2_arrange_51 : decode cX2_arrange 51 = .ok (.aload_n 1, 1) := by decide +kernel
theorem dX2_arrange_52 : decode cX2_arrange 52 = .ok (.getfield 42, 3) := by decide +kernel
theorem dX2_arrange_55 : decode cX2_arrange 55 = .ok (.if_icmp .ge 29, 3) := by decide +kernel
theorem dX2_arrange_58 : decode cX2_arrange 58 = .ok (.aload_n 0, 1) := by decide +kernel
theorem dX2_arrange_59 : decode cX2_arrange 59 = .ok (.getfield 62, 3) := by decide +kernel
theorem dX2_arrange_62 : decode cX2_arrange 62 = .ok (.ifCond .eq 22, 3) := by decide +kernel
theorem dX2_arrange_65 : decode cX2_arrange 65 = .ok (.aload_n 0, 1) := by decide +kernel
theorem dX2_arrange_66 : decode cX2_arrange 66 = .ok (.aload_n 0, 1) := by decide +kernel
theorem dX2_arrange_67 : decode cX2_arrange 67 = .ok (.iload_n 2, 1) := by decide +kernel
theorem dX2_arrange_68 : decode cX2_arrange 68 = .ok (.aload_n 1, 1) := by decide +kernel
theorem dX2_arrange_69 : decode cX2_arrange 69 = .ok (.getfield 66, 3) := by decide +kernel
theorem dX2_arrange_72 : decode cX2_arrange 72 = .ok (.invokevirtual 69, 3) := by decide +kernel
theorem dX2_arrange_75 : decode cX2_arrange 75 = .ok (.putfield 62, 3) := by decide +kernel
theorem dX2_arrange_78 : decode cX2_arrange 78 = .ok (.iinc 2 1, 3) := by decide +kernel
theorem dX2_arrange_81 : decode cX2_arrange 81 = .ok (.goto (-31), 3) := by decide +kernel
theorem dX2_arrange_84 : decode cX2_arrange 84 = .ok (.return_, 1) := by decide +kernel
theorem dX2_look_0 : decode cX2_look 0 = .ok (.aload_n 0, 1) := by decide +kernel
theorem dX2_look_1 : decode cX2_look 1 = .ok (.getfield 9, 3) := by decide +kernel
theorem dX2_look_4 : decode cX2_look 4 = .ok (.iload_n 1, 1) := by decide +kernel
theorem dX2_look_5 : decode cX2_look 5 = .ok (.aload_n 2, 1) := by decide +kernel
theorem dX2_look_6 : decode cX2_look 6 = .ok (.getfield 73, 3) := by decide +kernel
theorem dX2_look_9 : decode cX2_look 9 = .ok (.iastore, 1) := by decide +kernel
theorem dX2_look_10 : decode cX2_look 10 = .ok (.aload_n 0, 1) := by decide +kernel
theorem dX2_look_11 : decode cX2_look 11 = .ok (.getfield 15, 3) := by decide +kernel
theorem dX2_look_14 : decode cX2_look 14 = .ok (.iload_n 1, 1) := by decide +kernel
theorem dX2_look_15 : decode cX2_look 15 = .ok (.aload_n 2, 1) := by decide +kernel
theorem dX2_look_16 : decode cX2_look 16 = .ok (.invokevirtual 78, 3) := by decide +kernel
theorem dX2_look_19 : decode cX2_look 19 = .ok (.iastore, 1) := by decide +kernel
theorem dX2_look_20 : decode cX2_look 20 = .ok (.aload_n 0, 1) := by decide +kernel
theorem dX2_look_21 : decode cX2_look 21 = .ok (.getfield 18, 3) := by decide +kernel
theorem dX2_look_24 : decode cX2_look 24 = .ok (.iload_n 1, 1) := by decide +kernel
theorem dX2_look_25 : decode cX2_look 25 = .ok (.aload_n 2, 1) := by decide +kernel
theorem dX2_look_26 : decode cX2_look 26 = .ok (.invokevirtual 82, 3) := by decide +kernel
theorem dX2_look_29 : decode cX2_look 29 = .ok (.iastore, 1) := by decide +kernel
theorem dX2_look_30 : decode cX2_look 30 = .ok (.aload_n 0, 1) := by decide +kernel
theorem dX2_look_31 : decode cX2_look 31 = .ok (.getfield 21, 3) := by decide +kernel
theorem dX2_look_34 : decode cX2_look 34 = .ok (.iload_n 1, 1) := by decide +kernel
theorem dX2_look_35 : decode cX2_look 35 = .ok (.aload_n 2, 1) := by decide +kernel
theorem dX2_look_36 : decode cX2_look 36 = .ok (.invokevirtual 85, 3) := by decide +kernel
theorem dX2_look_39 : decode cX2_look 39 = .ok (.iastore, 1) := by decide +kernel
theorem dX2_look_40 : decode cX2_look 40 = .ok (.aload_n 0, 1) := by decide +kernel
theorem dX2_look_41 : decode cX2_look 41 = .ok (.getfield 24, 3) := by decide +kernel
theorem dX2_look_44 : decode cX2_look 44 = .ok (.iload_n 1, 1) := by decide +kernel
theorem dX2_look_45 : decode cX2_look 45 = .ok (.iconst 0, 1) := by decide +kernel
theorem dX2_look_46 : decode cX2_look 46 = .ok (.iastore, 1) := by decide +kernel
theorem dX2_look_47 : decode cX2_look 47 = .ok (.aload_n 0, 1) := by decide +kernel
theorem dX2_look_48 : decode cX2_look 48 = .ok (.getfield 27, 3) := by decide +kernel
theorem dX2_look_51 : decode cX2_look 51 = .ok (.iload_n 1, 1) := by decide +kernel
theorem dX2_look_52 : decode cX2_look 52 = .ok (.iconst 0, 1) := by decide +kernel
theorem dX2_look_53 : decode cX2_look 53 = .ok (.iastore, 1) := by decide +kernel
theorem dX2_look_54 : decode cX2_look 54 = .ok (.aload_n 0, 1) := by decide +kernel
theorem dX2_look_55 : decode cX2_look 55 = .ok (.getfield 30, 3) := by decide +kernel
theorem dX2_look_58 : decode cX2_look 58 = .ok (.iload_n 1, 1) := by decide +kernel
theorem dX2_look_59 : decode cX2_look 59 = .ok (.iconst 0, 1) := by decide +kernel
theorem dX2_look_60 : decode cX2_look 60 = .ok (.iastore, 1) := by decide +kernel
theorem dX2_look_61 : decode cX2_look 61 = .ok (.iconst 0, 1) := by decide +kernel
theorem dX2_look_62 : decode cX2_look 62 = .ok (.istore_n 3, 1) := by decide +kernel
theorem dX2_look_63 : decode cX2_look 63 = .ok (.iload_n 3, 1) := by decide +kernel
theorem dX2_look_64 : decode cX2_look 64 = .ok (.iload_n 1, 1) := by decide +kernel
theorem dX2_look_65 : decode cX2_look 65 = .ok (.if_icmp .ge 79, 3) := by decide +kernel
theorem dX2_look_68 : decode cX2_look 68 = .ok (.aload_n 0, 1) := by decide +kernel
theorem dX2_look_69 : decode cX2_look 69 = .ok (.iload_n 1, 1) := by decide +kernel
theorem dX2_look_70 : decode cX2_look 70 = .ok (.iload_n 3, 1) := by decide +kernel
theorem dX2_look_71 : decode cX2_look 71 = .ok (.invokevirtual 87, 3) := by decide +kernel
theorem dX2_look_74 : decode cX2_look 74 = .ok (.istore 4, 2) := by decide +kernel
theorem dX2_look_76 : decode cX2_look 76 = .ok (.iload 4, 2) := by decide +kernel
theorem dX2_look_78 : decode cX2_look 78 = .ok (.iconst 2, 1) := by decide +kernel
theorem dX2_look_79 : decode cX2_look 79 = .ok (.if_icmp .lt 41, 3) := by decide +kernel
theorem dX2_look_82 : decode cX2_look 82 = .ok (.aload_n 0, 1) := by decide +kernel
theorem dX2_look_83 : decode cX2_look 83 = .ok (.getfield 24, 3) := by decide +kernel
theorem dX2_look_86 : decode cX2_look 86 = .ok (.iload_n 1, 1) := by decide +kernel
theorem dX2_look_87 : decode cX2_look 87 = .ok (.dup2, 1) := by decide +kernel
theorem dX2_look_88 : decode cX2_look 88 = .ok (.iaload, 1) := by decide +kernel
theorem dX2_look_89 : decode cX2_look 89 = .ok (.iconst 1, 1) := by decide +kernel
theorem dX2_look_90 : decode cX2_look 90 = .ok (.iload_n 3, 1) := by decide +kernel
theorem dX2_look_91 : decode cX2_look 91 = .ok (.ishl, 1) := by decide +kernel
theorem dX2_look_92 : decode cX2_look 92 = .ok (.ior, 1) := by decide +kernel
theorem dX2_look_93 : decode cX2_look 93 = .ok (.iastore, 1) := by decide +kernel
theorem dX2_look_94 : decode cX2_look 94 = .ok (.aload_n 0, 1) := by decide +kernel
theorem dX2_look_95 : decode cX2_look 95 = .ok (.getfield 30, 3) := by decide +kernel
theorem dX2_look_98 : decode cX2_look 98 = .ok (.iload_n 1, 1) := by decide +kernel
theorem dX2_look_99 : decode cX2_look 99 = .ok (.aload_n 0, 1) := by decide +kernel
theorem dX2_look_100 : decode cX2_look 100 = .ok (.getfield 30, 3) := by decide +kernel
theorem dX2_look_103 : decode cX2_look 103 = .ok (.iload_n 1, 1) := by decide +kernel
theorem dX2_look_104 : decode cX2_look 104 = .ok (.iaload, 1) := by decide +kernel
theorem dX2_look_105 : decode cX2_look 105 = .ok (.aload_n 0, 1) := by decide +kernel
theorem dX2_look_106 : decode cX2_look 106 = .ok (.getfield 30, 3) := by decide +kernel
theorem dX2_look_109 : decode cX2_look 109 = .ok (.iload_n 3, 1) := by decide +kernel
theorem dX2_look_110 : decode cX2_look 110 = .ok (.iaload, 1) := by decide +kernel
theorem dX2_look_111 : decode cX2_look 111 = .ok (.iconst 1, 1) := by decide +kernel
theorem dX2_look_112 : decode cX2_look 112 = .ok (.iadd, 1) := by decide +kernel
theorem dX2_look_113 : decode cX2_look 113 = .ok (.invokestatic 91, 3) := by decide +kernel
theorem dX2_look_116 : decode cX2_look 116 = .ok (.iastore, 1) := by decide +kernel
theorem dX2_look_117 : decode cX2_look 117 = .ok (.goto 21, 3) := by decide +kernel
theorem dX2_look_120 : decode cX2_look 120 = .ok (.iload 4, 2) := by decide +kernel
theorem dX2_look_122 : decode cX2_look 122 = .ok (.iconst 1, 1) := by decide +kernel
theorem dX2_look_123 : decode cX2_look 123 = .ok (.if_icmp .ne 15, 3) := by decide +kernel
theorem dX2_look_126 : decode cX2_look 126 = .ok (.aload_n 0, 1) := by decide +kernel
theorem dX2_look_127 : decode cX2_look 127 = .ok (.getfield 27, 3) := by decide +kernel
theorem dX2_look_130 : decode cX2_look 130 = .ok (.iload_n 1, 1) := by decide +kernel
theorem dX2_look_131 : decode cX2_look 131 = .ok (.dup2, 1) := by decide +kernel
theorem dX2_look_132 : decode cX2_look 132 = .ok (.iaload, 1) := by decide +kernel
theorem dX2_look_133 : decode cX2_look 133 = .ok (.iconst 1, 1) := by decide +kernel
theorem dX2_look_134 : decode cX2_look 134 = .ok (.iload_n 3, 1) := by decide +kernel
theorem dX2_look_135 : decode cX2_look 135 = .ok (.ishl, 1) := by decide +kernel
theorem dX2_look_136 : decode cX2_look 136 = .ok (.ior, 1) := by decide +kernel
theorem dX2_look_137 : decode cX2_look 137 = .ok (.iastore, 1) := by decide +kernel
theorem dX2_look_138 : decode cX2_look 138 = .ok (.iinc 3 1, 3) := by decide +kernel
theorem dX2_look_141 : decode cX2_look 141 = .ok (.goto (-78), 3) := by decide +kernel
theorem dX2_look_144 : decode cX2_look 144 = .ok (.return_, 1) := by decide +kernel
theorem dX2_needOf_0 : decode cX2_needOf 0 = .ok (.aload_n 0, 1) := by decide +kernel
theorem dX2_needOf_1 : decode cX2_needOf 1 = .ok (.getfield 15, 3) := by decide +kernel
theorem dX2_needOf_4 : decode cX2_needOf 4 = .ok (.iload_n 2, 1) := by decide +kernel
theorem dX2_needOf_5 : decode cX2_needOf 5 = .ok (.iaload, 1) := by decide +kernel
theorem dX2_needOf_6 : decode cX2_needOf 6 = .ok (.iconst 1, 1) := by decide +kernel
theorem dX2_needOf_7 : decode cX2_needOf 7 = .ok (.aload_n 0, 1) := by decide +kernel
theorem dX2_needOf_8 : decode cX2_needOf 8 = .ok (.getfield 9, 3) := by decide +kernel
theorem dX2_needOf_11 : decode cX2_needOf 11 = .ok (.iload_n 1, 1) := by decide +kernel
theorem dX2_needOf_12 : decode cX2_needOf 12 = .ok (.iaload, 1) := by decide +kernel
theorem dX2_needOf_13 : decode cX2_needOf 13 = .ok (.ishl, 1) := by decide +kernel
theorem dX2_needOf_14 : decode cX2_needOf 14 = .ok (.iand, 1) := by decide +kernel
theorem dX2_needOf_15 : decode cX2_needOf 15 = .ok (.ifCond .eq 5, 3) := by decide +kernel
theorem dX2_needOf_18 : decode cX2_needOf 18 = .ok (.iconst 3, 1) := by decide +kernel
theorem dX2_needOf_19 : decode cX2_needOf 19 = .ok (.ireturn, 1) := by decide +kernel
theorem dX2_needOf_20 : decode cX2_needOf 20 = .ok (.aload_n 0, 1) := by decide +kernel
theorem dX2_needOf_21 : decode cX2_needOf 21 = .ok (.getfield 15, 3) := by decide +kernel
theorem dX2_needOf_24 : decode cX2_needOf 24 = .ok (.iload_n 2, 1) := by decide +kernel
theorem dX2_needOf_25 : decode cX2_needOf 25 = .ok (.iaload, 1) := by decide +kernel
theorem dX2_needOf_26 : decode cX2_needOf 26 = .ok (.aload_n 0, 1) := by decide +kernel
theorem dX2_needOf_27 : decode cX2_needOf 27 = .ok (.getfield 18, 3) := by decide +kernel
theorem dX2_needOf_30 : decode cX2_needOf 30 = .ok (.iload_n 1, 1) := by decide +kernel
theorem dX2_needOf_31 : decode cX2_needOf 31 = .ok (.iaload, 1) := by decide +kernel
theorem dX2_needOf_32 : decode cX2_needOf 32 = .ok (.aload_n 0, 1) := by decide +kernel
theorem dX2_needOf_33 : decode cX2_needOf 33 = .ok (.getfield 15, 3) := by decide +kernel
theorem dX2_needOf_36 : decode cX2_needOf 36 = .ok (.iload_n 1, 1) := by decide +kernel
theorem dX2_needOf_37 : decode cX2_needOf 37 = .ok (.iaload, 1) := by decide +kernel
theorem dX2_needOf_38 : decode cX2_needOf 38 = .ok (.ior, 1) := by decide +kernel
theorem dX2_needOf_39 : decode cX2_needOf 39 = .ok (.iand, 1) := by decide +kernel
theorem dX2_needOf_40 : decode cX2_needOf 40 = .ok (.ifCond .eq 5, 3) := by decide +kernel
theorem dX2_needOf_43 : decode cX2_needOf 43 = .ok (.iconst 2, 1) := by decide +kernel
theorem dX2_needOf_44 : decode cX2_needOf 44 = .ok (.ireturn, 1) := by decide +kernel
theorem dX2_needOf_45 : decode cX2_needOf 45 = .ok (.aload_n 0, 1) := by decide +kernel
theorem dX2_needOf_46 : decode cX2_needOf 46 = .ok (.getfield 15, 3) := by decide +kernel
theorem dX2_needOf_49 : decode cX2_needOf 49 = .ok (.iload_n 1, 1) := by decide +kernel
theorem dX2_needOf_50 : decode cX2_needOf 50 = .ok (.iaload, 1) := by decide +kernel
theorem dX2_needOf_51 : decode cX2_needOf 51 = .ok (.aload_n 0, 1) := by decide +kernel
theorem dX2_needOf_52 : decode cX2_needOf 52 = .ok (.getfield 18, 3) := by decide +kernel
theorem dX2_needOf_55 : decode cX2_needOf 55 = .ok (.iload_n 2, 1) := by decide +kernel
theorem dX2_needOf_56 : decode cX2_needOf 56 = .ok (.iaload, 1) := by decide +kernel
theorem dX2_needOf_57 : decode cX2_needOf 57 = .ok (.iand, 1) := by decide +kernel
theorem dX2_needOf_58 : decode cX2_needOf 58 = .ok (.ifCond .eq 7, 3) := by decide +kernel
theorem dX2_needOf_61 : decode cX2_needOf 61 = .ok (.iconst 1, 1) := by decide +kernel
theorem dX2_needOf_62 : decode cX2_needOf 62 = .ok (.goto 4, 3) := by decide +kernel
theorem dX2_needOf_65 : decode cX2_needOf 65 = .ok (.iconst 0, 1) := by decide +kernel
theorem dX2_needOf_66 : decode cX2_needOf 66 = .ok (.ireturn, 1) := by decide +kernel
theorem dX2_place_0 : decode cX2_place 0 = .ok (.aload_n 0, 1) := by decide +kernel
theorem dX2_place_1 : decode cX2_place 1 = .ok (.iload_n 1, 1) := by decide +kernel
theorem dX2_place_2 : decode cX2_place 2 = .ok (.invokevirtual 96, 3) := by decide +kernel
theorem dX2_place_5 : decode cX2_place 5 = .ok (.istore_n 3, 1) := by decide +kernel
theorem dX2_place_6 : decode cX2_place 6 = .ok (.iload_n 3, 1) := by decide +kernel
theorem dX2_place_7 : decode cX2_place 7 = .ok (.aload_n 2, 1) := by decide +kernel
theorem dX2_place_8 : decode cX2_place 8 = .ok (.iconst 2, 1) := by decide +kernel
theorem dX2_place_9 : decode cX2_place 9 = .ok (.iaload, 1) := by decide +kernel
theorem dX2_place_10 : decode cX2_place 10 = .ok (.if_icmp .ge 79, 3) := by decide +kernel
theorem dX2_place_13 : decode cX2_place 13 = .ok (.aload_n 0, 1) := by decide +kernel
theorem dX2_place_14 : decode cX2_place 14 = .ok (.getfield 36, 3) := by decide +kernel
theorem dX2_place_17 : decode cX2_place 17 = .ok (.iload_n 3, 1) := by decide +kernel
theorem dX2_place_18 : decode cX2_place 18 = .ok (.iaload, 1) := by decide +kernel
theorem dX2_place_19 : decode cX2_place 19 = .ok (.invokestatic 100, 3) := by decide +kernel
theorem dX2_place_22 : decode cX2_place 22 = .ok (.aload_n 2, 1) := by decide +kernel
theorem dX2_place_23 : decode cX2_place 23 = .ok (.iconst 1, 1) := by decide +kernel
theorem dX2_place_24 : decode cX2_place 24 = .ok (.iaload, 1) := by decide +kernel
theorem dX2_place_25 : decode cX2_place 25 = .ok (.if_icmp .ge 58, 3) := by decide +kernel
theorem dX2_place_28 : decode cX2_place 28 = .ok (.aload_n 0, 1) := by decide +kernel
theorem dX2_place_29 : decode cX2_place 29 = .ok (.getfield 39, 3) := by decide +kernel
theorem dX2_place_32 : decode cX2_place 32 = .ok (.iload_n 3, 1) := by decide +kernel
theorem dX2_place_33 : decode cX2_place 33 = .ok (.iaload, 1) := by decide +kernel
theorem dX2_place_34 : decode cX2_place 34 = .ok (.aload_n 0, 1) := by decide +kernel
theorem dX2_place_35 : decode cX2_place 35 = .ok (.getfield 21, 3) := by decide +kernel
theorem dX2_place_38 : decode cX2_place 38 = .ok (.iload_n 1, 1) := by decide +kernel
theorem dX2_place_39 : decode cX2_place 39 = .ok (.iaload, 1) := by decide +kernel
theorem dX2_place_40 : decode cX2_place 40 = .ok (.iadd, 1) := by decide +kernel
theorem dX2_place_41 : decode cX2_place 41 = .ok (.aload_n 2, 1) := by decide +kernel
theorem dX2_place_42 : decode cX2_place 42 = .ok (.iconst 0, 1) := by decide +kernel
theorem dX2_place_43 : decode cX2_place 43 = .ok (.iaload, 1) := by decide +kernel
theorem dX2_place_44 : decode cX2_place 44 = .ok (.if_icmp .gt 39, 3) := by decide +kernel
theorem dX2_place_47 : decode cX2_place 47 = .ok (.aload_n 0, 1) := by decide +kernel
theorem dX2_place_48 : decode cX2_place 48 = .ok (.getfield 33, 3) := by decide +kernel
theorem dX2_place_51 : decode cX2_place 51 = .ok (.iload_n 1, 1) := by decide +kernel
theorem dX2_place_52 : decode cX2_place 52 = .ok (.iload_n 3, 1) := by decide +kernel
theorem dX2_place_53 : decode cX2_place 53 = .ok (.iastore, 1) := by decide +kernel
theorem dX2_place_54 : decode cX2_place 54 = .ok (.aload_n 0, 1) := by decide +kernel
theorem dX2_place_55 : decode cX2_place 55 = .ok (.getfield 36, 3) := by decide +kernel
theorem dX2_place_58 : decode cX2_place 58 = .ok (.iload_n 3, 1) := by decide +kernel
theorem dX2_place_59 : decode cX2_place 59 = .ok (.dup2, 1) := by decide +kernel
theorem dX2_place_60 : decode cX2_place 60 = .ok (.iaload, 1) := by decide +kernel
theorem dX2_place_61 : decode cX2_place 61 = .ok (.iconst 1, 1) := by decide +kernel
theorem dX2_place_62 : decode cX2_place 62 = .ok (.iload_n 1, 1) := by decide +kernel
theorem dX2_place_63 : decode cX2_place 63 = .ok (.ishl, 1) := by decide +kernel
theorem dX2_place_64 : decode cX2_place 64 = .ok (.ior, 1) := by decide +kernel
theorem dX2_place_65 : decode cX2_place 65 = .ok (.iastore, 1) := by decide +kernel
theorem dX2_place_66 : decode cX2_place 66 = .ok (.aload_n 0, 1) := by decide +kernel
theorem dX2_place_67 : decode cX2_place 67 = .ok (.getfield 39, 3) := by decide +kernel
theorem dX2_place_70 : decode cX2_place 70 = .ok (.iload_n 3, 1) := by decide +kernel
theorem dX2_place_71 : decode cX2_place 71 = .ok (.dup2, 1) := by decide +kernel
theorem dX2_place_72 : decode cX2_place 72 = .ok (.iaload, 1) := by decide +kernel
theorem dX2_place_73 : decode cX2_place 73 = .ok (.aload_n 0, 1) := by decide +kernel
theorem dX2_place_74 : decode cX2_place 74 = .ok (.getfield 21, 3) := by decide +kernel
theorem dX2_place_77 : decode cX2_place 77 = .ok (.iload_n 1, 1) := by decide +kernel
theorem dX2_place_78 : decode cX2_place 78 = .ok (.iaload, 1) := by decide +kernel
theorem dX2_place_79 : decode cX2_place 79 = .ok (.iadd, 1) := by decide +kernel
theorem dX2_place_80 : decode cX2_place 80 = .ok (.iastore, 1) := by decide +kernel
theorem dX2_place_81 : decode cX2_place 81 = .ok (.iconst 1, 1) := by decide +kernel
theorem dX2_place_82 : decode cX2_place 82 = .ok (.ireturn, 1) := by decide +kernel
theorem dX2_place_83 : decode cX2_place 83 = .ok (.iinc 3 1, 3) := by decide +kernel
theorem dX2_place_86 : decode cX2_place 86 = .ok (.goto (-80), 3) := by decide +kernel
theorem dX2_place_89 : decode cX2_place 89 = .ok (.iconst 0, 1) := by decide +kernel
theorem dX2_place_90 : decode cX2_place 90 = .ok (.ireturn, 1) := by decide +kernel
theorem dX2_leastStage_0 : decode cX2_leastStage 0 = .ok (.iconst 0, 1) := by decide +kernel
theorem dX2_leastStage_1 : decode cX2_leastStage 1 = .ok (.istore_n 2, 1) := by decide +kernel
theorem dX2_leastStage_2 : decode cX2_leastStage 2 = .ok (.iconst 0, 1) := by decide +kernel
theorem dX2_leastStage_3 : decode cX2_leastStage 3 = .ok (.istore_n 3, 1) := by decide +kernel
theorem dX2_leastStage_4 : decode cX2_leastStage 4 = .ok (.iload_n 3, 1) := by decide +kernel
theorem dX2_leastStage_5 : decode cX2_leastStage 5 = .ok (.iload_n 1, 1) := by decide +kernel
theorem dX2_leastStage_6 : decode cX2_leastStage 6 = .ok (.if_icmp .ge 62, 3) := by decide +kernel
theorem dX2_leastStage_9 : decode cX2_leastStage 9 = .ok (.aload_n 0, 1) := by decide +kernel
theorem dX2_leastStage_10 : decode cX2_leastStage 10 = .ok (.getfield 24, 3) := by decide +kernel
theorem dX2_leastStage_13 : decode cX2_leastStage 13 = .ok (.iload_n 1, 1) := by decide +kernel
theorem dX2_leastStage_14 : decode cX2_leastStage 14 = .ok (.iaload, 1) := by decide +kernel
theorem dX2_leastStage_15 : decode cX2_leastStage 15 = .ok (.iconst 1, 1) := by decide +kernel
theorem dX2_leastStage_16 : decode cX2_leastStage 16 = .ok (.iload_n 3, 1) := by decide +kernel
theorem dX2_leastStage_17 : decode cX2_leastStage 17 = .ok (.ishl, 1) := by decide +kernel
theorem dX2_leastStage_18 : decode cX2_leastStage 18 = .ok (.iand, 1) := by decide +kernel
theorem dX2_leastStage_19 : decode cX2_leastStage 19 = .ok (.ifCond .eq 19, 3) := by decide +kernel
theorem dX2_leastStage_22 : decode cX2_leastStage 22 = .ok (.iload_n 2, 1) := by decide +kernel
theorem dX2_leastStage_23 : decode cX2_leastStage 23 = .ok (.aload_n 0, 1) := by decide +kernel
theorem dX2_leastStage_24 : decode cX2_leastStage 24 = .ok (.getfield 33, 3) := by decide +kernel
theorem dX2_leastStage_27 : decode cX2_leastStage 27 = .ok (.iload_n 3, 1) := by decide +kernel
theorem dX2_leastStage_28 : decode cX2_leastStage 28 = .ok (.iaload, 1) := by decide +kernel
theorem dX2_leastStage_29 : decode cX2_leastStage 29 = .ok (.iconst 1, 1) := by decide +kernel
theorem dX2_leastStage_30 : decode cX2_leastStage 30 = .ok (.iadd, 1) := by decide +kernel
theorem dX2_leastStage_31 : decode cX2_leastStage 31 = .ok (.invokestatic 91, 3) := by decide +kernel
theorem dX2_leastStage_34 : decode cX2_leastStage 34 = .ok (.istore_n 2, 1) := by decide +kernel
theorem dX2_leastStage_35 : decode cX2_leastStage 35 = .ok (.goto 27, 3) := by decide +kernel
theorem dX2_leastStage_38 : decode cX2_leastStage 38 = .ok (.aload_n 0, 1) := by decide +kernel
theorem dX2_leastStage_39 : decode cX2_leastStage 39 = .ok (.getfield 27, 3) := by decide +kernel
theorem dX2_leastStage_42 : decode cX2_leastStage 42 = .ok (.iload_n 1, 1) := by decide +kernel
theorem dX2_leastStage_43 : decode cX2_leastStage 43 = .ok (.iaload, 1) := by decide +kernel
theorem dX2_leastStage_44 : decode cX2_leastStage 44 = .ok (.iconst 1, 1) := by decide +kernel
theorem dX2_leastStage_45 : decode cX2_leastStage 45 = .ok (.iload_n 3, 1) := by decide +kernel
theorem dX2_leastStage_46 : decode cX2_leastStage 46 = .ok (.ishl, 1) := by decide +kernel
theorem dX2_leastStage_47 : decode cX2_leastStage 47 = .ok (.iand, 1) := by decide +kernel
theorem dX2_leastStage_48 : decode cX2_leastStage 48 = .ok (.ifCond .eq 14, 3) := by decide +kernel
theorem dX2_leastStage_51 : decode cX2_leastStage 51 = .ok (.iload_n 2, 1) := by decide +kernel
theorem dX2_leastStage_52 : decode cX2_leastStage 52 = .ok (.aload_n 0, 1) := by decide +kernel
theorem dX2_leastStage_53 : decode cX2_leastStage 53 = .ok (.getfield 33, 3) := by decide +kernel
theorem dX2_leastStage_56 : decode cX2_leastStage 56 = .ok (.iload_n 3, 1) := by decide +kernel
theorem dX2_leastStage_57 : decode cX2_leastStage 57 = .ok (.iaload, 1) := by decide +kernel
theorem dX2_leastStage_58 : decode cX2_leastStage 58 = .ok (.invokestatic 91, 3) := by decide +kernel
theorem dX2_leastStage_61 : decode cX2_leastStage 61 = .ok (.istore_n 2, 1) := by decide +kernel
theorem dX2_leastStage_62 : decode cX2_leastStage 62 = .ok (.iinc 3 1, 3) := by decide +kernel
theorem dX2_leastStage_65 : decode cX2_leastStage 65 = .ok (.goto (-61), 3) := by decide +kernel
theorem dX2_leastStage_68 : decode cX2_leastStage 68 = .ok (.iload_n 2, 1) := by decide +kernel
theorem dX2_leastStage_69 : decode cX2_leastStage 69 = .ok (.ireturn, 1) := by decide +kernel
theorem dX2_stagesWithTables_0 : decode cX2_stagesWithTables 0 = .ok (.iconst 0, 1) := by decide +kernel
theorem dX2_stagesWithTables_1 : decode cX2_stagesWithTables 1 = .ok (.istore_n 1, 1) := by decide +kernel
theorem dX2_stagesWithTables_2 : decode cX2_stagesWithTables 2 = .ok (.iconst 0, 1) := by decide +kernel
theorem dX2_stagesWithTables_3 : decode cX2_stagesWithTables 3 = .ok (.istore_n 2, 1) := by decide +kernel
theorem dX2_stagesWithTables_4 : decode cX2_stagesWithTables 4 = .ok (.iload_n 2, 1) := by decide +kernel
theorem dX2_stagesWithTables_5 : decode cX2_stagesWithTables 5 = .ok (.bipush 8, 2) := by decide +kernel
theorem dX2_stagesWithTables_7 : decode cX2_stagesWithTables 7 = .ok (.if_icmp .ge 26, 3) := by decide +kernel
theorem dX2_stagesWithTables_10 : decode cX2_stagesWithTables 10 = .ok (.iload_n 1, 1) := by decide +kernel
theorem dX2_stagesWithTables_11 : decode cX2_stagesWithTables 11 = .ok (.aload_n 0, 1) := by decide +kernel
theorem dX2_stagesWithTables_12 : decode cX2_stagesWithTables 12 = .ok (.getfield 36, 3) := by decide +kernel
theorem dX2_stagesWithTables_15 : decode cX2_stagesWithTables 15 = .ok (.iload_n 2, 1) := by decide +kernel
theorem dX2_stagesWithTables_16 : decode cX2_stagesWithTables 16 = .ok (.iaload, 1) := by decide +kernel
theorem dX2_stagesWithTables_17 : decode cX2_stagesWithTables 17 = .ok (.ifCond .eq 7, 3) := by decide +kernel
theorem dX2_stagesWithTables_20 : decode cX2_stagesWithTables 20 = .ok (.iconst 1, 1) := by decide +kernel
theorem dX2_stagesWithTables_21 : decode cX2_stagesWithTables 21 = .ok (.goto 4, 3) := by decide +kernel
theorem dX2_stagesWithTables_24 : decode cX2_stagesWithTables 24 = .ok (.iconst 0, 1) := by decide +kernel
theorem dX2_stagesWithTables_25 : decode cX2_stagesWithTables 25 = .ok (.iadd, 1) := by decide +kernel
theorem dX2_stagesWithTables_26 : decode cX2_stagesWithTables 26 = .ok (.istore_n 1, 1) := by decide +kernel
theorem dX2_stagesWithTables_27 : decode cX2_stagesWithTables 27 = .ok (.iinc 2 1, 3) := by decide +kernel
theorem dX2_stagesWithTables_30 : decode cX2_stagesWithTables 30 = .ok (.goto (-26), 3) := by decide +kernel
theorem dX2_stagesWithTables_33 : decode cX2_stagesWithTables 33 = .ok (.iload_n 1, 1) := by decide +kernel
theorem dX2_stagesWithTables_34 : decode cX2_stagesWithTables 34 = .ok (.ireturn, 1) := by decide +kernel
