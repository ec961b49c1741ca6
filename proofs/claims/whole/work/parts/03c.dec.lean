/-! decode rows -/
theorem dX6_init_0 : decode cX6_init 0 = .ok (.aload_n 0, 1) := by decide +kernel
theorem dX6_init_1 : decode cX6_init 1 = .ok (.invokespecial 3, 3) := by decide +kernel
theorem dX6_init_4 : decode cX6_init 4 = .ok (.aload_n 0, 1) := by decide +kernel
theorem dX6_init_5 : decode cX6_init 5 = .ok (.new 9, 3) := by decide +kernel
theorem dX6_init_8 : decode cX6_init 8 = .ok (.dup, 1) := by decide +kernel
theorem dX6_init_9 : decode cX6_init 9 = .ok (.invokespecial 11, 3) := by decide +kernel
theorem dX6_init_12 : decode cX6_init 12 = .ok (.putfield 12, 3) := by decide +kernel
theorem dX6_init_15 : decode cX6_init 15 = .ok (.aload_n 0, 1) := by decide +kernel
theorem dX6_init_16 : decode cX6_init 16 = .ok (.new 16, 3) := by decide +kernel
theorem dX6_init_19 : decode cX6_init 19 = .ok (.dup, 1) := by decide +kernel
theorem dX6_init_20 : decode cX6_init 20 = .ok (.invokespecial 18, 3) := by decide +kernel
theorem dX6_init_23 : decode cX6_init 23 = .ok (.putfield 19, 3) := by decide +kernel
theorem dX6_init_26 : decode cX6_init 26 = .ok (.aload_n 0, 1) := by decide +kernel
theorem dX6_init_27 : decode cX6_init 27 = .ok (.new 23, 3) := by decide +kernel
theorem dX6_init_30 : decode cX6_init 30 = .ok (.dup, 1) := by decide +kernel
theorem dX6_init_31 : decode cX6_init 31 = .ok (.invokespecial 25, 3) := by decide +kernel
theorem dX6_init_34 : decode cX6_init 34 = .ok (.putfield 26, 3) := by decide +kernel
theorem dX6_init_37 : decode cX6_init 37 = .ok (.aload_n 0, 1) := by decide +kernel
theorem dX6_init_38 : decode cX6_init 38 = .ok (.new 30, 3) := by decide +kernel
theorem dX6_init_41 : decode cX6_init 41 = .ok (.dup, 1) := by decide +kernel
theorem dX6_init_42 : decode cX6_init 42 = .ok (.invokespecial 32, 3) := by decide +kernel
theorem dX6_init_45 : decode cX6_init 45 = .ok (.putfield 33, 3) := by decide +kernel
theorem dX6_init_48 : decode cX6_init 48 = .ok (.aload_n 0, 1) := by decide +kernel
theorem dX6_init_49 : decode cX6_init 49 = .ok (.iconst 2, 1) := by decide +kernel
theorem dX6_init_50 : decode cX6_init 50 = .ok (.anewarray 9, 3) := by decide +kernel
theorem dX6_init_53 : decode cX6_init 53 = .ok (.putfield 37, 3) := by decide +kernel
theorem dX6_init_56 : decode cX6_init 56 = .ok (.return_, 1) := by decide +kernel
theorem dX6_table_0 : decode cX6_table 0 = .ok (.iload_n 1, 1) := by decide +kernel
theorem dX6_table_1 : decode cX6_table 1 = .ok (.bipush 6, 2) := by decide +kernel
theorem dX6_table_3 : decode cX6_table 3 = .ok (.invokestatic 41, 3) := by decide +kernel
theorem dX6_table_6 : decode cX6_table 6 = .ok (.ifCond .ne 5, 3) := by decide +kernel
theorem dX6_table_9 : decode cX6_table 9 = .ok (.iconst (-1), 1) := by decide +kernel
theorem dX6_table_10 : decode cX6_table 10 = .ok (.ireturn, 1) := by decide +kernel
theorem dX6_table_11 : decode cX6_table 11 = .ok (.aload_n 0, 1) := by decide +kernel
theorem dX6_table_12 : decode cX6_table 12 = .ok (.getfield 12, 3) := by decide +kernel
theorem dX6_table_15 : decode cX6_table 15 = .ok (.getfield 45, 3) := by decide +kernel
theorem dX6_table_18 : decode cX6_table 18 = .ok (.bipush 8, 2) := by decide +kernel
theorem dX6_table_20 : decode cX6_table 20 = .ok (.if_icmp .lt 6, 3) := by decide +kernel
theorem dX6_table_23 : decode cX6_table 23 = .ok (.bipush (-4), 2) := by decide +kernel
theorem dX6_table_25 : decode cX6_table 25 = .ok (.ireturn, 1) := by decide +kernel
theorem dX6_table_26 : decode cX6_table 26 = .ok (.aload_n 0, 1) := by decide +kernel
theorem dX6_table_27 : decode cX6_table 27 = .ok (.getfield 12, 3) := by decide +kernel
theorem dX6_table_30 : decode cX6_table 30 = .ok (.iload_n 1, 1) := by decide +kernel
theorem dX6_table_31 : decode cX6_table 31 = .ok (.invokevirtual 49, 3) := by decide +kernel
theorem dX6_table_34 : decode cX6_table 34 = .ok (.ireturn, 1) := by decide +kernel
theorem dX6_entry_0 : decode cX6_entry 0 = .ok (.aload_n 0, 1) := by decide +kernel
theorem dX6_entry_1 : decode cX6_entry 1 = .ok (.getfield 12, 3) := by decide +kernel
theorem dX6_entry_4 : decode cX6_entry 4 = .ok (.iload_n 1, 1) := by decide +kernel
theorem dX6_entry_5 : decode cX6_entry 5 = .ok (.invokevirtual 53, 3) := by decide +kernel
theorem dX6_entry_8 : decode cX6_entry 8 = .ok (.ifCond .ne 5, 3) := by decide +kernel
theorem dX6_entry_11 : decode cX6_entry 11 = .ok (.iconst (-1), 1) := by decide +kernel
theorem dX6_entry_12 : decode cX6_entry 12 = .ok (.ireturn, 1) := by decide +kernel
theorem dX6_entry_13 : decode cX6_entry 13 = .ok (.iload_n 2, 1) := by decide +kernel
theorem dX6_entry_14 : decode cX6_entry 14 = .ok (.sipush 255, 3) := by decide +kernel
theorem dX6_entry_17 : decode cX6_entry 17 = .ok (.invokestatic 57, 3) := by decide +kernel
theorem dX6_entry_20 : decode cX6_entry 20 = .ok (.ifCond .eq 14, 3) := by decide +kernel
theorem dX6_entry_23 : decode cX6_entry 23 = .ok (.iload_n 3, 1) := by decide +kernel
theorem dX6_entry_24 : decode cX6_entry 24 = .ok (.iload 4, 2) := by decide +kernel
theorem dX6_entry_26 : decode cX6_entry 26 = .ok (.iload 5, 2) := by decide +kernel
theorem dX6_entry_28 : decode cX6_entry 28 = .ok (.invokestatic 60, 3) := by decide +kernel
theorem dX6_entry_31 : decode cX6_entry 31 = .ok (.ifCond .ne 6, 3) := by decide +kernel
theorem dX6_entry_34 : decode cX6_entry 34 = .ok (.bipush (-2), 2) := by decide +kernel
theorem dX6_entry_36 : decode cX6_entry 36 = .ok (.ireturn, 1) := by decide +kernel
theorem dX6_entry_37 : decode cX6_entry 37 = .ok (.aload_n 0, 1) := by decide +kernel
theorem dX6_entry_38 : decode cX6_entry 38 = .ok (.getfield 12, 3) := by decide +kernel
theorem dX6_entry_41 : decode cX6_entry 41 = .ok (.getfield 64, 3) := by decide +kernel
theorem dX6_entry_44 : decode cX6_entry 44 = .ok (.iload_n 1, 1) := by decide +kernel
theorem dX6_entry_45 : decode cX6_entry 45 = .ok (.aaload, 1) := by decide +kernel
theorem dX6_entry_46 : decode cX6_entry 46 = .ok (.astore 6, 2) := by decide +kernel
theorem dX6_entry_48 : decode cX6_entry 48 = .ok (.aload 6, 2) := by decide +kernel
theorem dX6_entry_50 : decode cX6_entry 50 = .ok (.iload_n 2, 1) := by decide +kernel
theorem dX6_entry_51 : decode cX6_entry 51 = .ok (.invokevirtual 68, 3) := by decide +kernel
theorem dX6_entry_54 : decode cX6_entry 54 = .ok (.iconst 4, 1) := by decide +kernel
theorem dX6_entry_55 : decode cX6_entry 55 = .ok (.if_icmp .ne 17, 3) := by decide +kernel
theorem dX6_entry_58 : decode cX6_entry 58 = .ok (.aload_n 0, 1) := by decide +kernel
theorem dX6_entry_59 : decode cX6_entry 59 = .ok (.getfield 12, 3) := by decide +kernel
theorem dX6_entry_62 : decode cX6_entry 62 = .ok (.iload_n 1, 1) := by decide +kernel
theorem dX6_entry_63 : decode cX6_entry 63 = .ok (.iload_n 3, 1) := by decide +kernel
theorem dX6_entry_64 : decode cX6_entry 64 = .ok (.iload 5, 2) := by decide +kernel
theorem dX6_entry_66 : decode cX6_entry 66 = .ok (.invokevirtual 73, 3) := by decide +kernel
theorem dX6_entry_69 : decode cX6_entry 69 = .ok (.ifCond .eq 6, 3) := by decide +kernel
theorem dX6_entry_72 : decode cX6_entry 72 = .ok (.bipush (-5), 2) := by decide +kernel
theorem dX6_entry_74 : decode cX6_entry 74 = .ok (.ireturn, 1) := by decide +kernel
theorem dX6_entry_75 : decode cX6_entry 75 = .ok (.aload 6, 2) := by decide +kernel
theorem dX6_entry_77 : decode cX6_entry 77 = .ok (.getfield 76, 3) := by decide +kernel
theorem dX6_entry_80 : decode cX6_entry 80 = .ok (.iconst 4, 1) := by decide +kernel
theorem dX6_entry_81 : decode cX6_entry 81 = .ok (.if_icmp .lt 6, 3) := by decide +kernel
theorem dX6_entry_84 : decode cX6_entry 84 = .ok (.bipush (-4), 2) := by decide +kernel
theorem dX6_entry_86 : decode cX6_entry 86 = .ok (.ireturn, 1) := by decide +kernel
theorem dX6_entry_87 : decode cX6_entry 87 = .ok (.aload 6, 2) := by decide +kernel
theorem dX6_entry_89 : decode cX6_entry 89 = .ok (.iload_n 2, 1) := by decide +kernel
theorem dX6_entry_90 : decode cX6_entry 90 = .ok (.iload_n 3, 1) := by decide +kernel
theorem dX6_entry_91 : decode cX6_entry 91 = .ok (.iload 4, 2) := by decide +kernel
theorem dX6_entry_93 : decode cX6_entry 93 = .ok (.iload 5, 2) := by decide +kernel
theorem dX6_entry_95 : decode cX6_entry 95 = .ok (.invokevirtual 79, 3) := by decide +kernel
theorem dX6_entry_98 : decode cX6_entry 98 = .ok (.ireturn, 1) := by decide +kernel
theorem dX6_otherwise_0 : decode cX6_otherwise 0 = .ok (.aload_n 0, 1) := by decide +kernel
theorem dX6_otherwise_1 : decode cX6_otherwise 1 = .ok (.getfield 12, 3) := by decide +kernel
theorem dX6_otherwise_4 : decode cX6_otherwise 4 = .ok (.iload_n 1, 1) := by decide +kernel
theorem dX6_otherwise_5 : decode cX6_otherwise 5 = .ok (.invokevirtual 53, 3) := by decide +kernel
theorem dX6_otherwise_8 : decode cX6_otherwise 8 = .ok (.ifCond .ne 5, 3) := by decide +kernel
theorem dX6_otherwise_11 : decode cX6_otherwise 11 = .ok (.iconst (-1), 1) := by decide +kernel
theorem dX6_otherwise_12 : decode cX6_otherwise 12 = .ok (.ireturn, 1) := by decide +kernel
theorem dX6_otherwise_13 : decode cX6_otherwise 13 = .ok (.iload_n 2, 1) := by decide +kernel
theorem dX6_otherwise_14 : decode cX6_otherwise 14 = .ok (.iload_n 3, 1) := by decide +kernel
theorem dX6_otherwise_15 : decode cX6_otherwise 15 = .ok (.iload 4, 2) := by decide +kernel
theorem dX6_otherwise_17 : decode cX6_otherwise 17 = .ok (.invokestatic 60, 3) := by decide +kernel
theorem dX6_otherwise_20 : decode cX6_otherwise 20 = .ok (.ifCond .ne 6, 3) := by decide +kernel
theorem dX6_otherwise_23 : decode cX6_otherwise 23 = .ok (.bipush (-2), 2) := by decide +kernel
theorem dX6_otherwise_25 : decode cX6_otherwise 25 = .ok (.ireturn, 1) := by decide +kernel
theorem dX6_otherwise_26 : decode cX6_otherwise 26 = .ok (.aload_n 0, 1) := by decide +kernel
theorem dX6_otherwise_27 : decode cX6_otherwise 27 = .ok (.getfield 12, 3) := by decide +kernel
theorem dX6_otherwise_30 : decode cX6_otherwise 30 = .ok (.iload_n 1, 1) := by decide +kernel
theorem dX6_otherwise_31 : decode cX6_otherwise 31 = .ok (.iload_n 2, 1) := by decide +kernel
theorem dX6_otherwise_32 : decode cX6_otherwise 32 = .ok (.iload 4, 2) := by decide +kernel
theorem dX6_otherwise_34 : decode cX6_otherwise 34 = .ok (.invokevirtual 73, 3) := by decide +kernel
theorem dX6_otherwise_37 : decode cX6_otherwise 37 = .ok (.ifCond .eq 6, 3) := by decide +kernel
theorem dX6_otherwise_40 : decode cX6_otherwise 40 = .ok (.bipush (-5), 2) := by decide +kernel
theorem dX6_otherwise_42 : decode cX6_otherwise 42 = .ok (.ireturn, 1) := by decide +kernel
theorem dX6_otherwise_43 : decode cX6_otherwise 43 = .ok (.aload_n 0, 1) := by decide +kernel
theorem dX6_otherwise_44 : decode cX6_otherwise 44 = .ok (.getfield 12, 3) := by decide +kernel
theorem dX6_otherwise_47 : decode cX6_otherwise 47 = .ok (.getfield 64, 3) := by decide +kernel
theorem dX6_otherwise_50 : decode cX6_otherwise 50 = .ok (.iload_n 1, 1) := by decide +kernel
theorem dX6_otherwise_51 : decode cX6_otherwise 51 = .ok (.aaload, 1) := by decide +kernel
theorem dX6_otherwise_52 : decode cX6_otherwise 52 = .ok (.getfield 83, 3) := by decide +kernel
theorem dX6_otherwise_55 : decode cX6_otherwise 55 = .ok (.iconst 4, 1) := by decide +kernel
theorem dX6_otherwise_56 : decode cX6_otherwise 56 = .ok (.aaload, 1) := by decide +kernel
theorem dX6_otherwise_57 : decode cX6_otherwise 57 = .ok (.astore 5, 2) := by decide +kernel
theorem dX6_otherwise_59 : decode cX6_otherwise 59 = .ok (.aload 5, 2) := by decide +kernel
theorem dX6_otherwise_61 : decode cX6_otherwise 61 = .ok (.getfield 87, 3) := by decide +kernel
theorem dX6_otherwise_64 : decode cX6_otherwise 64 = .ok (.istore 6, 2) := by decide +kernel
theorem dX6_otherwise_66 : decode cX6_otherwise 66 = .ok (.aload 5, 2) := by decide +kernel
theorem dX6_otherwise_68 : decode cX6_otherwise 68 = .ok (.iload_n 2, 1) := by decide +kernel
theorem dX6_otherwise_69 : decode cX6_otherwise 69 = .ok (.iload_n 3, 1) := by decide +kernel
theorem dX6_otherwise_70 : decode cX6_otherwise 70 = .ok (.iload 4, 2) := by decide +kernel
theorem dX6_otherwise_72 : decode cX6_otherwise 72 = .ok (.invokevirtual 92, 3) := by decide +kernel
theorem dX6_otherwise_75 : decode cX6_otherwise 75 = .ok (.iload 6, 2) := by decide +kernel
theorem dX6_otherwise_77 : decode cX6_otherwise 77 = .ok (.ireturn, 1) := by decide +kernel
theorem dX6_forget_0 : decode cX6_forget 0 = .ok (.aload_n 0, 1) := by decide +kernel
theorem dX6_forget_1 : decode cX6_forget 1 = .ok (.getfield 12, 3) := by decide +kernel
theorem dX6_forget_4 : decode cX6_forget 4 = .ok (.iload_n 1, 1) := by decide +kernel
theorem dX6_forget_5 : decode cX6_forget 5 = .ok (.invokevirtual 53, 3) := by decide +kernel
theorem dX6_forget_8 : decode cX6_forget 8 = .ok (.ifCond .ne 5, 3) := by decide +kernel
theorem dX6_forget_11 : decode cX6_forget 11 = .ok (.iconst (-1), 1) := by decide +kernel
theorem dX6_forget_12 : decode cX6_forget 12 = .ok (.ireturn, 1) := by decide +kernel
theorem dX6_forget_13 : decode cX6_forget 13 = .ok (.aload_n 0, 1) := by decide +kernel
theorem dX6_forget_14 : decode cX6_forget 14 = .ok (.getfield 12, 3) := by decide +kernel
theorem dX6_forget_17 : decode cX6_forget 17 = .ok (.getfield 64, 3) := by decide +kernel
theorem dX6_forget_20 : decode cX6_forget 20 = .ok (.iload_n 1, 1) := by decide +kernel
theorem dX6_forget_21 : decode cX6_forget 21 = .ok (.aaload, 1) := by decide +kernel
theorem dX6_forget_22 : decode cX6_forget 22 = .ok (.astore_n 3, 1) := by decide +kernel
theorem dX6_forget_23 : decode cX6_forget 23 = .ok (.iload_n 2, 1) := by decide +kernel
theorem dX6_forget_24 : decode cX6_forget 24 = .ok (.aload_n 3, 1) := by decide +kernel
theorem dX6_forget_25 : decode cX6_forget 25 = .ok (.getfield 76, 3) := by decide +kernel
theorem dX6_forget_28 : decode cX6_forget 28 = .ok (.invokestatic 41, 3) := by decide +kernel
theorem dX6_forget_31 : decode cX6_forget 31 = .ok (.ifCond .ne 6, 3) := by decide +kernel
theorem dX6_forget_34 : decode cX6_forget 34 = .ok (.bipush (-2), 2) := by decide +kernel
theorem dX6_forget_36 : decode cX6_forget 36 = .ok (.ireturn, 1) := by decide +kernel
theorem dX6_forget_37 : decode cX6_forget 37 = .ok (.aload_n 3, 1) := by decide +kernel
theorem dX6_forget_38 : decode cX6_forget 38 = .ok (.iload_n 2, 1) := by decide +kernel
theorem dX6_forget_39 : decode cX6_forget 39 = .ok (.invokevirtual 96, 3) := by decide +kernel
theorem dX6_forget_42 : decode cX6_forget 42 = .ok (.ireturn, 1) := by decide +kernel
theorem dX6_drop_0 : decode cX6_drop 0 = .ok (.aload_n 0, 1) := by decide +kernel
theorem dX6_drop_1 : decode cX6_drop 1 = .ok (.getfield 12, 3) := by decide +kernel
theorem dX6_drop_4 : decode cX6_drop 4 = .ok (.iload_n 1, 1) := by decide +kernel
theorem dX6_drop_5 : decode cX6_drop 5 = .ok (.invokevirtual 53, 3) := by decide +kernel
theorem dX6_drop_8 : decode cX6_drop 8 = .ok (.ifCond .ne 5, 3) := by decide +kernel
theorem dX6_drop_11 : decode cX6_drop 11 = .ok (.iconst (-1), 1) := by decide +kernel
theorem dX6_drop_12 : decode cX6_drop 12 = .ok (.ireturn, 1) := by decide +kernel
theorem dX6_drop_13 : decode cX6_drop 13 = .ok (.aload_n 0, 1) := by decide +kernel
theorem dX6_drop_14 : decode cX6_drop 14 = .ok (.getfield 12, 3) := by decide +kernel
theorem dX6_drop_17 : decode cX6_drop 17 = .ok (.iload_n 1, 1) := by decide +kernel
theorem dX6_drop_18 : decode cX6_drop 18 = .ok (.invokevirtual 99, 3) := by decide +kernel
theorem dX6_drop_21 : decode cX6_drop 21 = .ok (.ireturn, 1) := by decide +kernel
theorem dX6_rule_0 : decode cX6_rule 0 = .ok (.iload_n 1, 1) := by decide +kernel
theorem dX6_rule_1 : decode cX6_rule 1 = .ok (.getstatic 102, 3) := by decide +kernel
theorem dX6_rule_4 : decode cX6_rule 4 = .ok (.arraylength, 1) := by decide +kernel
theorem dX6_rule_5 : decode cX6_rule 5 = .ok (.invokestatic 41, 3) := by decide +kernel
theorem dX6_rule_8 : decode cX6_rule 8 = .ok (.ifCond .eq 21, 3) := by decide +kernel
theorem dX6_rule_11 : decode cX6_rule 11 = .ok (.iload_n 2, 1) := by decide +kernel
theorem dX6_rule_12 : decode cX6_rule 12 = .ok (.getstatic 106, 3) := by decide +kernel
theorem dX6_rule_15 : decode cX6_rule 15 = .ok (.iload_n 1, 1) := by decide +kernel
theorem dX6_rule_16 : decode cX6_rule 16 = .ok (.iaload, 1) := by decide +kernel
theorem dX6_rule_17 : decode cX6_rule 17 = .ok (.if_icmp .lt 12, 3) := by decide +kernel
theorem dX6_rule_20 : decode cX6_rule 20 = .ok (.iload_n 2, 1) := by decide +kernel
theorem dX6_rule_21 : decode cX6_rule 21 = .ok (.getstatic 109, 3) := by decide +kernel
theorem dX6_rule_24 : decode cX6_rule 24 = .ok (.iload_n 1, 1) := by decide +kernel
theorem dX6_rule_25 : decode cX6_rule 25 = .ok (.iaload, 1) := by decide +kernel
theorem dX6_rule_26 : decode cX6_rule 26 = .ok (.if_icmp .le 6, 3) := by decide +kernel
theorem dX6_rule_29 : decode cX6_rule 29 = .ok (.bipush (-2), 2) := by decide +kernel
theorem dX6_rule_31 : decode cX6_rule 31 = .ok (.ireturn, 1) := by decide +kernel
theorem dX6_rule_32 : decode cX6_rule 32 = .ok (.aload_n 0, 1) := by decide +kernel
theorem dX6_rule_33 : decode cX6_rule 33 = .ok (.getfield 12, 3) := by decide +kernel
theorem dX6_rule_36 : decode cX6_rule 36 = .ok (.getfield 112, 3) := by decide +kernel
theorem dX6_rule_39 : decode cX6_rule 39 = .ok (.iload_n 1, 1) := by decide +kernel
theorem dX6_rule_40 : decode cX6_rule 40 = .ok (.iaload, 1) := by decide +kernel
theorem dX6_rule_41 : decode cX6_rule 41 = .ok (.istore_n 3, 1) := by decide +kernel
theorem dX6_rule_42 : decode cX6_rule 42 = .ok (.aload_n 0, 1) := by decide +kernel
theorem dX6_rule_43 : decode cX6_rule 43 = .ok (.getfield 12, 3) := by decide +kernel
theorem dX6_rule_46 : decode cX6_rule 46 = .ok (.getfield 112, 3) := by decide +kernel
theorem dX6_rule_49 : decode cX6_rule 49 = .ok (.iload_n 1, 1) := by decide +kernel
theorem dX6_rule_50 : decode cX6_rule 50 = .ok (.iload_n 2, 1) := by decide +kernel
theorem dX6_rule_51 : decode cX6_rule 51 = .ok (.iastore, 1) := by decide +kernel
theorem dX6_rule_52 : decode cX6_rule 52 = .ok (.iload_n 3, 1) := by decide +kernel
theorem dX6_rule_53 : decode cX6_rule 53 = .ok (.ireturn, 1) := by decide +kernel
theorem dX6_told_0 : decode cX6_told 0 = .ok (.aload_n 0, 1) := by decide +kernel
theorem dX6_told_1 : decode cX6_told 1 = .ok (.getfield 12, 3) := by decide +kernel
theorem dX6_told_4 : decode cX6_told 4 = .ok (.iload_n 1, 1) := by decide +kernel
theorem dX6_told_5 : decode cX6_told 5 = .ok (.invokevirtual 53, 3) := by decide +kernel
theorem dX6_told_8 : decode cX6_told 8 = .ok (.ifCond .ne 5, 3) := by decide +kernel
theorem dX6_told_11 : decode cX6_told 11 = .ok (.iconst (-1), 1) := by decide +kernel
theorem dX6_told_12 : decode cX6_told 12 = .ok (.ireturn, 1) := by decide +kernel
theorem dX6_told_13 : decode cX6_told 13 = .ok (.aload_n 0, 1) := by decide +kernel
theorem dX6_told_14 : decode cX6_told 14 = .ok (.getfield 12, 3) := by decide +kernel
theorem dX6_told_17 : decode cX6_told 17 = .ok (.getfield 64, 3) := by decide +kernel
theorem dX6_told_20 : decode cX6_told 20 = .ok (.iload_n 1, 1) := by decide +kernel
theorem dX6_told_21 : decode cX6_told 21 = .ok (.aaload, 1) := by decide +kernel
theorem dX6_told_22 : decode cX6_told 22 = .ok (.astore_n 3, 1) := by decide +kernel
theorem dX6_told_23 : decode cX6_told 23 = .ok (.iload_n 2, 1) := by decide +kernel
theorem dX6_told_24 : decode cX6_told 24 = .ok (.tableswitch 126 0 6 #[44, 49, 54, 75, 111, 116, 121], 44) := by decide +kernel
theorem dX6_told_68 : decode cX6_told 68 = .ok (.aload_n 3, 1) := by decide +kernel
theorem dX6_told_69 : decode cX6_told 69 = .ok (.getfield 115, 3) := by decide +kernel
theorem dX6_told_72 : decode cX6_told 72 = .ok (.ireturn, 1) := by decide +kernel
theorem dX6_told_73 : decode cX6_told 73 = .ok (.aload_n 3, 1) := by decide +kernel
theorem dX6_told_74 : decode cX6_told 74 = .ok (.getfield 76, 3) := by decide +kernel
theorem dX6_told_77 : decode cX6_told 77 = .ok (.ireturn, 1) := by decide +kernel
theorem dX6_told_78 : decode cX6_told 78 = .ok (.aload_n 0, 1) := by decide +kernel
theorem dX6_told_79 : decode cX6_told 79 = .ok (.getfield 19, 3) := by decide +kernel
theorem dX6_told_82 : decode cX6_told 82 = .ok (.aload_n 0, 1) := by decide +kernel
theorem dX6_told_83 : decode cX6_told 83 = .ok (.getfield 12, 3) := by decide +kernel
theorem dX6_told_86 : decode cX6_told 86 = .ok (.invokevirtual 118, 3) := by decide +kernel
theorem dX6_told_89 : decode cX6_told 89 = .ok (.aload_n 0, 1) := by decide +kernel
theorem dX6_told_90 : decode cX6_told 90 = .ok (.getfield 19, 3) := by decide +kernel
theorem dX6_told_93 : decode cX6_told 93 = .ok (.getfield 122, 3) := by decide +kernel
theorem dX6_told_96 : decode cX6_told 96 = .ok (.iload_n 1, 1) := by decide +kernel
theorem dX6_told_97 : decode cX6_told 97 = .ok (.iaload, 1) := by decide +kernel
theorem dX6_told_98 : decode cX6_told 98 = .ok (.ireturn, 1) := by decide +kernel
theorem dX6_told_99 : decode cX6_told 99 = .ok (.aload_n 0, 1) := by decide +kernel
theorem dX6_told_100 : decode cX6_told 100 = .ok (.getfield 19, 3) := by decide +kernel
theorem dX6_told_103 : decode cX6_told 103 = .ok (.aload_n 0, 1) := by decide +kernel
theorem dX6_told_104 : decode cX6_told 104 = .ok (.getfield 12, 3) := by decide +kernel
theorem dX6_told_107 : decode cX6_told 107 = .ok (.invokevirtual 118, 3) := by decide +kernel
theorem dX6_told_110 : decode cX6_told 110 = .ok (.aload_n 0, 1) := by decide +kernel
theorem dX6_told_111 : decode cX6_told 111 = .ok (.getfield 19, 3) := by decide +kernel
theorem dX6_told_114 : decode cX6_told 114 = .ok (.getfield 125, 3) := by decide +kernel
theorem dX6_told_117 : decode cX6_told 117 = .ok (.ifCond .eq 15, 3) := by decide +kernel
theorem dX6_told_120 : decode cX6_told 120 = .ok (.aload_n 0, 1) := by decide +kernel
theorem dX6_told_121 : decode cX6_told 121 = .ok (.getfield 19, 3) := by decide +kernel
theorem dX6_told_124 : decode cX6_told 124 = .ok (.getfield 129, 3) := by decide +kernel
theorem dX6_told_127 : decode cX6_told 127 = .ok (.iload_n 1, 1) := by decide +kernel
theorem dX6_told_128 : decode cX6_told 128 = .ok (.iaload, 1) := by decide +kernel
theorem dX6_told_129 : decode cX6_told 129 = .ok (.goto 5, 3) := by decide +kernel
theorem dX6_told_132 : decode cX6_told 132 = .ok (.bipush (-3), 2) := by decide +kernel
theorem dX6_told_134 : decode cX6_told 134 = .ok (.ireturn, 1) := by decide +kernel
theorem dX6_told_135 : decode cX6_told 135 = .ok (.aload_n 3, 1) := by decide +kernel
theorem dX6_told_136 : decode cX6_told 136 = .ok (.invokevirtual 132, 3) := by decide +kernel
theorem dX6_told_139 : decode cX6_told 139 = .ok (.ireturn, 1) := by decide +kernel
theorem dX6_told_140 : decode cX6_told 140 = .ok (.aload_n 3, 1) := by decide +kernel
theorem dX6_told_141 : decode cX6_told 141 = .ok (.invokevirtual 136, 3) := by decide +kernel
theorem dX6_told_144 : decode cX6_told 144 = .ok (.ireturn, 1) := by decide +kernel
theorem dX6_told_145 : decode cX6_told 145 = .ok (.aload_n 3, 1) := by decide +kernel
theorem dX6_told_146 : decode cX6_told 146 = .ok (.invokevirtual 139, 3) := by decide +kernel
theorem dX6_told_149 : decode cX6_told 149 = .ok (.ireturn, 1) := by decide +kernel
theorem dX6_told_150 : decode cX6_told 150 = .ok (.aload_n 3, 1) := by decide +kernel
theorem dX6_told_151 : decode cX6_told 151 = .ok (.iload_n 2, 1) := by decide +kernel
theorem dX6_told_152 : decode cX6_told 152 = .ok (.invokevirtual 142, 3) := by decide +kernel
theorem dX6_told_155 : decode cX6_told 155 = .ok (.ireturn, 1) := by decide +kernel
theorem dX6_needs_0 : decode cX6_needs 0 = .ok (.aload_n 0, 1) := by decide +kernel
theorem dX6_needs_1 : decode cX6_needs 1 = .ok (.getfield 12, 3) := by decide +kernel
theorem dX6_needs_4 : decode cX6_needs 4 = .ok (.iload_n 1, 1) := by decide +kernel
theorem dX6_needs_5 : decode cX6_needs 5 = .ok (.invokevirtual 53, 3) := by decide +kernel
theorem dX6_needs_8 : decode cX6_needs 8 = .ok (.ifCond .eq 14, 3) := by decide +kernel
theorem dX6_needs_11 : decode cX6_needs 11 = .ok (.aload_n 0, 1) := by decide +kernel
theorem dX6_needs_12 : decode cX6_needs 12 = .ok (.getfield 12, 3) := by decide +kernel
theorem dX6_needs_15 : decode cX6_needs 15 = .ok (.iload_n 2, 1) := by decide +kernel
theorem dX6_needs_16 : decode cX6_needs 16 = .ok (.invokevirtual 53, 3) := by decide +kernel
theorem dX6_needs_19 : decode cX6_needs 19 = .ok (.ifCond .ne 5, 3) := by decide +kernel
theorem dX6_needs_22 : decode cX6_needs 22 = .ok (.iconst (-1), 1) := by decide +kernel
theorem dX6_needs_23 : decode cX6_needs 23 = .ok (.ireturn, 1) := by decide +kernel
theorem dX6_needs_24 : decode cX6_needs 24 = .ok (.iload_n 1, 1) := by decide +kernel
theorem dX6_needs_25 : decode cX6_needs 25 = .ok (.iload_n 2, 1) := by decide +kernel
theorem dX6_needs_26 : decode cX6_needs 26 = .ok (.if_icmp .ne 6, 3) := by decide +kernel
theorem dX6_needs_29 : decode cX6_needs 29 = .ok (.bipush (-2), 2) := by decide +kernel
theorem dX6_needs_31 : decode cX6_needs 31 = .ok (.ireturn, 1) := by decide +kernel
theorem dX6_needs_32 : decode cX6_needs 32 = .ok (.aload_n 0, 1) := by decide +kernel
theorem dX6_needs_33 : decode cX6_needs 33 = .ok (.getfield 19, 3) := by decide +kernel
theorem dX6_needs_36 : decode cX6_needs 36 = .ok (.aload_n 0, 1) := by decide +kernel
theorem dX6_needs_37 : decode cX6_needs 37 = .ok (.getfield 12, 3) := by decide +kernel
theorem dX6_needs_40 : decode cX6_needs 40 = .ok (.invokevirtual 118, 3) := by decide +kernel
theorem dX6_needs_43 : decode cX6_needs 43 = .ok (.aload_n 0, 1) := by decide +kernel
theorem dX6_needs_44 : decode cX6_needs 44 = .ok (.getfield 19, 3) := by decide +kernel
theorem dX6_needs_47 : decode cX6_needs 47 = .ok (.iload_n 1, 1) := by decide +kernel
theorem dX6_needs_48 : decode cX6_needs 48 = .ok (.iload_n 2, 1) := by decide +kernel
theorem dX6_needs_49 : decode cX6_needs 49 = .ok (.invokestatic 145, 3) := by decide +kernel
theorem dX6_needs_52 : decode cX6_needs 52 = .ok (.iload_n 1, 1) := by decide +kernel
theorem dX6_needs_53 : decode cX6_needs 53 = .ok (.iload_n 2, 1) := by decide +kernel
theorem dX6_needs_54 : decode cX6_needs 54 = .ok (.invokestatic 151, 3) := by decide +kernel
theorem dX6_needs_57 : decode cX6_needs 57 = .ok (.invokevirtual 154, 3) := by decide +kernel
theorem dX6_needs_60 : decode cX6_needs 60 = .ok (.ireturn, 1) := by decide +kernel
theorem dX6_stages_0 : decode cX6_stages 0 = .ok (.aload_n 0, 1) := by decide +kernel
theorem dX6_stages_1 : decode cX6_stages 1 = .ok (.getfield 19, 3) := by decide +kernel
theorem dX6_stages_4 : decode cX6_stages 4 = .ok (.aload_n 0, 1) := by decide +kernel
theorem dX6_stages_5 : decode cX6_stages 5 = .ok (.getfield 12, 3) := by decide +kernel
theorem dX6_stages_8 : decode cX6_stages 8 = .ok (.invokevirtual 118, 3) := by decide +kernel
theorem dX6_stages_11 : decode cX6_stages 11 = .ok (.aload_n 0, 1) := by decide +kernel
theorem dX6_stages_12 : decode cX6_stages 12 = .ok (.getfield 19, 3) := by decide +kernel
theorem dX6_stages_15 : decode cX6_stages 15 = .ok (.getfield 125, 3) := by decide +kernel
theorem dX6_stages_18 : decode cX6_stages 18 = .ok (.ifCond .eq 13, 3) := by decide +kernel
theorem dX6_stages_21 : decode cX6_stages 21 = .ok (.aload_n 0, 1) := by decide +kernel
theorem dX6_stages_22 : decode cX6_stages 22 = .ok (.getfield 19, 3) := by decide +kernel
theorem dX6_stages_25 : decode cX6_stages 25 = .ok (.invokevirtual 157, 3) := by decide +kernel
theorem dX6_stages_28 : decode cX6_stages 28 = .ok (.goto 5, 3) := by decide +kernel
theorem dX6_stages_31 : decode cX6_stages 31 = .ok (.bipush (-3), 2) := by decide +kernel
theorem dX6_stages_33 : decode cX6_stages 33 = .ok (.ireturn, 1) := by decide +kernel
theorem dX6_stage_0 : decode cX6_stage 0 = .ok (.iload_n 1, 1) := by decide +kernel
theorem dX6_stage_1 : decode cX6_stage 1 = .ok (.bipush 8, 2) := by decide +kernel
theorem dX6_stage_3 : decode cX6_stage 3 = .ok (.invokestatic 41, 3) := by decide +kernel
theorem dX6_stage_6 : decode cX6_stage 6 = .ok (.ifCond .eq 11, 3) := by decide +kernel
theorem dX6_stage_9 : decode cX6_stage 9 = .ok (.iload_n 2, 1) := by decide +kernel
theorem dX6_stage_10 : decode cX6_stage 10 = .ok (.iconst 1, 1) := by decide +kernel
theorem dX6_stage_11 : decode cX6_stage 11 = .ok (.invokestatic 57, 3) := by decide +kernel
theorem dX6_stage_14 : decode cX6_stage 14 = .ok (.ifCond .ne 6, 3) := by decide +kernel
theorem dX6_stage_17 : decode cX6_stage 17 = .ok (.bipush (-2), 2) := by decide +kernel
theorem dX6_stage_19 : decode cX6_stage 19 = .ok (.ireturn, 1) := by decide +kernel
theorem dX6_stage_20 : decode cX6_stage 20 = .ok (.aload_n 0, 1) := by decide +kernel
theorem dX6_stage_21 : decode cX6_stage 21 = .ok (.getfield 19, 3) := by decide +kernel
theorem dX6_stage_24 : decode cX6_stage 24 = .ok (.aload_n 0, 1) := by decide +kernel
theorem dX6_stage_25 : decode cX6_stage 25 = .ok (.getfield 12, 3) := by decide +kernel
theorem dX6_stage_28 : decode cX6_stage 28 = .ok (.invokevirtual 118, 3) := by decide +kernel
theorem dX6_stage_31 : decode cX6_stage 31 = .ok (.aload_n 0, 1) := by decide +kernel
theorem dX6_stage_32 : decode cX6_stage 32 = .ok (.getfield 19, 3) := by decide +kernel
theorem dX6_stage_35 : decode cX6_stage 35 = .ok (.getfield 125, 3) := by decide +kernel
theorem dX6_stage_38 : decode cX6_stage 38 = .ok (.ifCond .ne 6, 3) := by decide +kernel
theorem dX6_stage_41 : decode cX6_stage 41 = .ok (.bipush (-3), 2) := by decide +kernel
theorem dX6_stage_43 : decode cX6_stage 43 = .ok (.ireturn, 1) := by decide +kernel
theorem dX6_stage_44 : decode cX6_stage 44 = .ok (.iload_n 2, 1) := by decide +kernel
theorem dX6_stage_45 : decode cX6_stage 45 = .ok (.ifCond .ne 15, 3) := by decide +kernel
theorem dX6_stage_48 : decode cX6_stage 48 = .ok (.aload_n 0, 1) := by decide +kernel
theorem dX6_stage_49 : decode cX6_stage 49 = .ok (.getfield 19, 3) := by decide +kernel
theorem dX6_stage_52 : decode cX6_stage 52 = .ok (.getfield 160, 3) := by decide +kernel
theorem dX6_stage_55 : decode cX6_stage 55 = .ok (.iload_n 1, 1) := by decide +kernel
theorem dX6_stage_56 : decode cX6_stage 56 = .ok (.iaload, 1) := by decide +kernel
theorem dX6_stage_57 : decode cX6_stage 57 = .ok (.goto 12, 3) := by decide +kernel
theorem dX6_stage_60 : decode cX6_stage 60 = .ok (.aload_n 0, 1) := by decide +kernel
theorem dX6_stage_61 : decode cX6_stage 61 = .ok (.getfield 19, 3) := by decide +kernel
theorem dX6_stage_64 : decode cX6_stage 64 = .ok (.getfield 163, 3) := by decide +kernel
theorem dX6_stage_67 : decode cX6_stage 67 = .ok (.iload_n 1, 1) := by decide +kernel
theorem dX6_stage_68 : decode cX6_stage 68 = .ok (.iaload, 1) := by decide +kernel
theorem dX6_stage_69 : decode cX6_stage 69 = .ok (.ireturn, 1) := by decide +kernel
theorem dX6_fewest_0 : decode cX6_fewest 0 = .ok (.aload_n 0, 1) := by decide +kernel
theorem dX6_fewest_1 : decode cX6_fewest 1 = .ok (.getfield 19, 3) := by decide +kernel
theorem dX6_fewest_4 : decode cX6_fewest 4 = .ok (.aload_n 0, 1) := by decide +kernel
theorem dX6_fewest_5 : decode cX6_fewest 5 = .ok (.getfield 12, 3) := by decide +kernel
theorem dX6_fewest_8 : decode cX6_fewest 8 = .ok (.invokevirtual 118, 3) := by decide +kernel
theorem dX6_fewest_11 : decode cX6_fewest 11 = .ok (.aload_n 0, 1) := by decide +kernel
theorem dX6_fewest_12 : decode cX6_fewest 12 = .ok (.getfield 26, 3) := by decide +kernel
theorem dX6_fewest_15 : decode cX6_fewest 15 = .ok (.aload_n 0, 1) := by decide +kernel
theorem dX6_fewest_16 : decode cX6_fewest 16 = .ok (.getfield 19, 3) := by decide +kernel
theorem dX6_fewest_19 : decode cX6_fewest 19 = .ok (.aload_n 0, 1) := by decide +kernel
theorem dX6_fewest_20 : decode cX6_fewest 20 = .ok (.getfield 12, 3) := by decide +kernel
theorem dX6_fewest_23 : decode cX6_fewest 23 = .ok (.invokevirtual 166, 3) := by decide +kernel
theorem dX6_fewest_26 : decode cX6_fewest 26 = .ok (.ireturn, 1) := by decide +kernel
theorem dX6_tell_0 : decode cX6_tell 0 = .ok (.iload_n 1, 1) := by decide +kernel
theorem dX6_tell_1 : decode cX6_tell 1 = .ok (.bipush 6, 2) := by decide +kernel
theorem dX6_tell_3 : decode cX6_tell 3 = .ok (.invokestatic 41, 3) := by decide +kernel
theorem dX6_tell_6 : decode cX6_tell 6 = .ok (.ifCond .ne 5, 3) := by decide +kernel
theorem dX6_tell_9 : decode cX6_tell 9 = .ok (.iconst (-1), 1) := by decide +kernel
theorem dX6_tell_10 : decode cX6_tell 10 = .ok (.ireturn, 1) := by decide +kernel
theorem dX6_tell_11 : decode cX6_tell 11 = .ok (.iload_n 2, 1) := by decide +kernel
theorem dX6_tell_12 : decode cX6_tell 12 = .ok (.sipush 255, 3) := by decide +kernel
theorem dX6_tell_15 : decode cX6_tell 15 = .ok (.invokestatic 57, 3) := by decide +kernel
theorem dX6_tell_18 : decode cX6_tell 18 = .ok (.ifCond .ne 6, 3) := by decide +kernel
theorem dX6_tell_21 : decode cX6_tell 21 = .ok (.bipush (-2), 2) := by decide +kernel
theorem dX6_tell_23 : decode cX6_tell 23 = .ok (.ireturn, 1) := by decide +kernel
theorem dX6_tell_24 : decode cX6_tell 24 = .ok (.aload_n 0, 1) := by decide +kernel
theorem dX6_tell_25 : decode cX6_tell 25 = .ok (.getfield 12, 3) := by decide +kernel
theorem dX6_tell_28 : decode cX6_tell 28 = .ok (.getfield 170, 3) := by decide +kernel
theorem dX6_tell_31 : decode cX6_tell 31 = .ok (.iload_n 1, 1) := by decide +kernel
theorem dX6_tell_32 : decode cX6_tell 32 = .ok (.iaload, 1) := by decide +kernel
theorem dX6_tell_33 : decode cX6_tell 33 = .ok (.istore_n 3, 1) := by decide +kernel
theorem dX6_tell_34 : decode cX6_tell 34 = .ok (.aload_n 0, 1) := by decide +kernel
theorem dX6_tell_35 : decode cX6_tell 35 = .ok (.getfield 12, 3) := by decide +kernel
theorem dX6_tell_38 : decode cX6_tell 38 = .ok (.getfield 170, 3) := by decide +kernel
theorem dX6_tell_41 : decode cX6_tell 41 = .ok (.iload_n 1, 1) := by decide +kernel
theorem dX6_tell_42 : decode cX6_tell 42 = .ok (.iload_n 2, 1) := by decide +kernel
theorem dX6_tell_43 : decode cX6_tell 43 = .ok (.iastore, 1) := by decide +kernel
theorem dX6_tell_44 : decode cX6_tell 44 = .ok (.iload_n 3, 1) := by decide +kernel
theorem dX6_tell_45 : decode cX6_tell 45 = .ok (.ireturn, 1) := by decide +kernel
theorem dX6_put_0 : decode cX6_put 0 = .ok (.iload_n 1, 1) := by decide +kernel
theorem dX6_put_1 : decode cX6_put 1 = .ok (.iconst 4, 1) := by decide +kernel
theorem dX6_put_2 : decode cX6_put 2 = .ok (.invokestatic 41, 3) := by decide +kernel
theorem dX6_put_5 : decode cX6_put 5 = .ok (.ifCond .ne 5, 3) := by decide +kernel
theorem dX6_put_8 : decode cX6_put 8 = .ok (.iconst (-1), 1) := by decide +kernel
theorem dX6_put_9 : decode cX6_put 9 = .ok (.ireturn, 1) := by decide +kernel
theorem dX6_put_10 : decode cX6_put 10 = .ok (.iload_n 2, 1) := by decide +kernel
theorem dX6_put_11 : decode cX6_put 11 = .ok (.ldc 173, 2) := by decide +kernel
theorem dX6_put_13 : decode cX6_put 13 = .ok (.invokestatic 57, 3) := by decide +kernel
theorem dX6_put_16 : decode cX6_put 16 = .ok (.ifCond .ne 6, 3) := by decide +kernel
theorem dX6_put_19 : decode cX6_put 19 = .ok (.bipush (-2), 2) := by decide +kernel
theorem dX6_put_21 : decode cX6_put 21 = .ok (.ireturn, 1) := by decide +kernel
theorem dX6_put_22 : decode cX6_put 22 = .ok (.aload_n 0, 1) := by decide +kernel
theorem dX6_put_23 : decode cX6_put 23 = .ok (.getfield 12, 3) := by decide +kernel
theorem dX6_put_26 : decode cX6_put 26 = .ok (.getfield 174, 3) := by decide +kernel
theorem dX6_put_29 : decode cX6_put 29 = .ok (.iload_n 1, 1) := by decide +kernel
theorem dX6_put_30 : decode cX6_put 30 = .ok (.iaload, 1) := by decide +kernel
theorem dX6_put_31 : decode cX6_put 31 = .ok (.istore_n 3, 1) := by decide +kernel
theorem dX6_put_32 : decode cX6_put 32 = .ok (.aload_n 0, 1) := by decide +kernel
theorem dX6_put_33 : decode cX6_put 33 = .ok (.getfield 12, 3) := by decide +kernel
theorem dX6_put_36 : decode cX6_put 36 = .ok (.getfield 174, 3) := by decide +kernel
theorem dX6_put_39 : decode cX6_put 39 = .ok (.iload_n 1, 1) := by decide +kernel
theorem dX6_put_40 : decode cX6_put 40 = .ok (.iload_n 2, 1) := by decide +kernel
theorem dX6_put_41 : decode cX6_put 41 = .ok (.iastore, 1) := by decide +kernel
theorem dX6_put_42 : decode cX6_put 42 = .ok (.iload_n 3, 1) := by decide +kernel
theorem dX6_put_43 : decode cX6_put 43 = .ok (.ireturn, 1) := by decide +kernel
theorem dX6_register_0 : decode cX6_register 0 = .ok (.iload_n 1, 1) := by decide +kernel
theorem dX6_register_1 : decode cX6_register 1 = .ok (.iconst 4, 1) := by decide +kernel
theorem dX6_register_2 : decode cX6_register 2 = .ok (.invokestatic 41, 3) := by decide +kernel
theorem dX6_register_5 : decode cX6_register 5 = .ok (.ifCond .eq 15, 3) := by decide +kernel
theorem dX6_register_8 : decode cX6_register 8 = .ok (.aload_n 0, 1) := by decide +kernel
theorem dX6_register_9 : decode cX6_register 9 = .ok (.getfield 12, 3) := by decide +kernel
theorem dX6_register_12 : decode cX6_register 12 = .ok (.getfield 174, 3) := by decide +kernel
theorem dX6_register_15 : decode cX6_register 15 = .ok (.iload_n 1, 1) := by decide +kernel
theorem dX6_register_16 : decode cX6_register 16 = .ok (.iaload, 1) := by decide +kernel
theorem dX6_register_17 : decode cX6_register 17 = .ok (.goto 4, 3) := by decide +kernel
theorem dX6_register_20 : decode cX6_register 20 = .ok (.iconst (-1), 1) := by decide +kernel
theorem dX6_register_21 : decode cX6_register 21 = .ok (.ireturn, 1) := by decide +kernel
theorem dX6_run_0 : decode cX6_run 0 = .ok (.aload_n 0, 1) := by decide +kernel
theorem dX6_run_1 : decode cX6_run 1 = .ok (.getfield 19, 3) := by decide +kernel
theorem dX6_run_4 : decode cX6_run 4 = .ok (.aload_n 0, 1) := by decide +kernel
theorem dX6_run_5 : decode cX6_run 5 = .ok (.getfield 12, 3) := by decide +kernel
theorem dX6_run_8 : decode cX6_run 8 = .ok (.invokevirtual 118, 3) := by decide +kernel
theorem dX6_run_11 : decode cX6_run 11 = .ok (.aload_n 0, 1) := by decide +kernel
theorem dX6_run_12 : decode cX6_run 12 = .ok (.getfield 19, 3) := by decide +kernel
theorem dX6_run_15 : decode cX6_run 15 = .ok (.getfield 125, 3) := by decide +kernel
theorem dX6_run_18 : decode cX6_run 18 = .ok (.ifCond .ne 6, 3) := by decide +kernel
theorem dX6_run_21 : decode cX6_run 21 = .ok (.bipush (-3), 2) := by decide +kernel
theorem dX6_run_23 : decode cX6_run 23 = .ok (.ireturn, 1) := by decide +kernel
theorem dX6_run_24 : decode cX6_run 24 = .ok (.aload_n 0, 1) := by decide +kernel
theorem dX6_run_25 : decode cX6_run 25 = .ok (.getfield 33, 3) := by decide +kernel
theorem dX6_run_28 : decode cX6_run 28 = .ok (.aload_n 0, 1) := by decide +kernel
theorem dX6_run_29 : decode cX6_run 29 = .ok (.getfield 12, 3) := by decide +kernel
theorem dX6_run_32 : decode cX6_run 32 = .ok (.invokevirtual 177, 3) := by decide +kernel
theorem dX6_run_35 : decode cX6_run 35 = .ok (.aload_n 0, 1) := by decide +kernel
theorem dX6_run_36 : decode cX6_run 36 = .ok (.dup, 1) := by decide +kernel
theorem dX6_run_37 : decode cX6_run 37 = .ok (.getfield 180, 3) := by decide +kernel
theorem dX6_run_40 : decode cX6_run 40 = .ok (.iconst 1, 1) := by decide +kernel
theorem dX6_run_41 : decode cX6_run 41 = .ok (.iadd, 1) := by decide +kernel
theorem dX6_run_42 : decode cX6_run 42 = .ok (.putfield 180, 3) := by decide +kernel
theorem dX6_run_45 : decode cX6_run 45 = .ok (.aload_n 0, 1) := by decide +kernel
theorem dX6_run_46 : decode cX6_run 46 = .ok (.dup, 1) := by decide +kernel
theorem dX6_run_47 : decode cX6_run 47 = .ok (.getfield 183, 3) := by decide +kernel
theorem dX6_run_50 : decode cX6_run 50 = .ok (.aload_n 0, 1) := by decide +kernel
theorem dX6_run_51 : decode cX6_run 51 = .ok (.getfield 33, 3) := by decide +kernel
theorem dX6_run_54 : decode cX6_run 54 = .ok (.getfield 186, 3) := by decide +kernel
theorem dX6_run_57 : decode cX6_run 57 = .ok (.iadd, 1) := by decide +kernel
theorem dX6_run_58 : decode cX6_run 58 = .ok (.putfield 183, 3) := by decide +kernel
theorem dX6_run_61 : decode cX6_run 61 = .ok (.aload_n 0, 1) := by decide +kernel
theorem dX6_run_62 : decode cX6_run 62 = .ok (.getfield 33, 3) := by decide +kernel
theorem dX6_run_65 : decode cX6_run 65 = .ok (.getfield 189, 3) := by decide +kernel
theorem dX6_run_68 : decode cX6_run 68 = .ok (.ifCond .eq 15, 3) := by decide +kernel
theorem dX6_run_71 : decode cX6_run 71 = .ok (.aload_n 0, 1) := by decide +kernel
theorem dX6_run_72 : decode cX6_run 72 = .ok (.dup, 1) := by decide +kernel
theorem dX6_run_73 : decode cX6_run 73 = .ok (.getfield 192, 3) := by decide +kernel
theorem dX6_run_76 : decode cX6_run 76 = .ok (.iconst 1, 1) := by decide +kernel
theorem dX6_run_77 : decode cX6_run 77 = .ok (.iadd, 1) := by decide +kernel
theorem dX6_run_78 : decode cX6_run 78 = .ok (.putfield 192, 3) := by decide +kernel
theorem dX6_run_81 : decode cX6_run 81 = .ok (.iconst 1, 1) := by decide +kernel
theorem dX6_run_82 : decode cX6_run 82 = .ok (.ireturn, 1) := by decide +kernel
theorem dX6_run_83 : decode cX6_run 83 = .ok (.aload_n 0, 1) := by decide +kernel
theorem dX6_run_84 : decode cX6_run 84 = .ok (.getfield 33, 3) := by decide +kernel
theorem dX6_run_87 : decode cX6_run 87 = .ok (.getfield 195, 3) := by decide +kernel
theorem dX6_run_90 : decode cX6_run 90 = .ok (.ifCond .eq 7, 3) := by decide +kernel
theorem dX6_run_93 : decode cX6_run 93 = .ok (.iconst 2, 1) := by decide +kernel
theorem dX6_run_94 : decode cX6_run 94 = .ok (.goto 4, 3) := by decide +kernel
theorem dX6_run_97 : decode cX6_run 97 = .ok (.iconst 0, 1) := by decide +kernel
theorem dX6_run_98 : decode cX6_run 98 = .ok (.ireturn, 1) := by decide +kernel
theorem dX6_out_0 : decode cX6_out 0 = .ok (.iload_n 1, 1) := by decide +kernel
theorem dX6_out_1 : decode cX6_out 1 = .ok (.bipush 6, 2) := by decide +kernel
theorem dX6_out_3 : decode cX6_out 3 = .ok (.invokestatic 57, 3) := by decide +kernel
theorem dX6_out_6 : decode cX6_out 6 = .ok (.ifCond .ne 6, 3) := by decide +kernel
theorem dX6_out_9 : decode cX6_out 9 = .ok (.bipush (-2), 2) := by decide +kernel
theorem dX6_out_11 : decode cX6_out 11 = .ok (.ireturn, 1) := by decide +kernel
theorem dX6_out_12 : decode cX6_out 12 = .ok (.aload_n 0, 1) := by decide +kernel
theorem dX6_out_13 : decode cX6_out 13 = .ok (.getfield 180, 3) := by decide +kernel
theorem dX6_out_16 : decode cX6_out 16 = .ok (.ifCond .ne 6, 3) := by decide +kernel
theorem dX6_out_19 : decode cX6_out 19 = .ok (.bipush (-6), 2) := by decide +kernel
theorem dX6_out_21 : decode cX6_out 21 = .ok (.ireturn, 1) := by decide +kernel
theorem dX6_out_22 : decode cX6_out 22 = .ok (.iload_n 1, 1) := by decide +kernel
theorem dX6_out_23 : decode cX6_out 23 = .ok (.bipush 6, 2) := by decide +kernel
theorem dX6_out_25 : decode cX6_out 25 = .ok (.if_icmp .ne 13, 3) := by decide +kernel
theorem dX6_out_28 : decode cX6_out 28 = .ok (.aload_n 0, 1) := by decide +kernel
theorem dX6_out_29 : decode cX6_out 29 = .ok (.getfield 33, 3) := by decide +kernel
theorem dX6_out_32 : decode cX6_out 32 = .ok (.getfield 186, 3) := by decide +kernel
theorem dX6_out_35 : decode cX6_out 35 = .ok (.goto 12, 3) := by decide +kernel
theorem dX6_out_38 : decode cX6_out 38 = .ok (.aload_n 0, 1) := by decide +kernel
theorem dX6_out_39 : decode cX6_out 39 = .ok (.getfield 33, 3) := by decide +kernel
theorem dX6_out_42 : decode cX6_out 42 = .ok (.getfield 198, 3) := by decide +kernel
theorem dX6_out_45 : decode cX6_out 45 = .ok (.iload_n 1, 1) := by decide +kernel
theorem dX6_out_46 : decode cX6_out 46 = .ok (.iaload, 1) := by decide +kernel
theorem dX6_out_47 : decode cX6_out 47 = .ok (.ireturn, 1) := by decide +kernel
theorem dX6_took_0 : decode cX6_took 0 = .ok (.iload_n 1, 1) := by decide +kernel
theorem dX6_took_1 : decode cX6_took 1 = .ok (.bipush 8, 2) := by decide +kernel
theorem dX6_took_3 : decode cX6_took 3 = .ok (.invokestatic 41, 3) := by decide +kernel
theorem dX6_took_6 : decode cX6_took 6 = .ok (.ifCond .eq 11, 3) := by decide +kernel
theorem dX6_took_9 : decode cX6_took 9 = .ok (.iload_n 2, 1) := by decide +kernel
theorem dX6_took_10 : decode cX6_took 10 = .ok (.iconst 4, 1) := by decide +kernel
theorem dX6_took_11 : decode cX6_took 11 = .ok (.invokestatic 41, 3) := by decide +kernel
theorem dX6_took_14 : decode cX6_took 14 = .ok (.ifCond .ne 6, 3) := by decide +kernel
theorem dX6_took_17 : decode cX6_took 17 = .ok (.bipush (-2), 2) := by decide +kernel
theorem dX6_took_19 : decode cX6_took 19 = .ok (.ireturn, 1) := by decide +kernel
theorem dX6_took_20 : decode cX6_took 20 = .ok (.iload_n 1, 1) := by decide +kernel
theorem dX6_took_21 : decode cX6_took 21 = .ok (.aload_n 0, 1) := by decide +kernel
theorem dX6_took_22 : decode cX6_took 22 = .ok (.getfield 33, 3) := by decide +kernel
theorem dX6_took_25 : decode cX6_took 25 = .ok (.getfield 201, 3) := by decide +kernel
theorem dX6_took_28 : decode cX6_took 28 = .ok (.if_icmp .ge 14, 3) := by decide +kernel
theorem dX6_took_31 : decode cX6_took 31 = .ok (.iload_n 2, 1) := by decide +kernel
theorem dX6_took_32 : decode cX6_took 32 = .ok (.aload_n 0, 1) := by decide +kernel
theorem dX6_took_33 : decode cX6_took 33 = .ok (.getfield 33, 3) := by decide +kernel
theorem dX6_took_36 : decode cX6_took 36 = .ok (.getfield 186, 3) := by decide +kernel
theorem dX6_took_39 : decode cX6_took 39 = .ok (.if_icmp .lt 6, 3) := by decide +kernel
theorem dX6_took_42 : decode cX6_took 42 = .ok (.bipush (-6), 2) := by decide +kernel
theorem dX6_took_44 : decode cX6_took 44 = .ok (.ireturn, 1) := by decide +kernel
theorem dX6_took_45 : decode cX6_took 45 = .ok (.aload_n 0, 1) := by decide +kernel
theorem dX6_took_46 : decode cX6_took 46 = .ok (.getfield 33, 3) := by decide +kernel
theorem dX6_took_49 : decode cX6_took 49 = .ok (.getfield 203, 3) := by decide +kernel
theorem dX6_took_52 : decode cX6_took 52 = .ok (.iload_n 2, 1) := by decide +kernel
theorem dX6_took_53 : decode cX6_took 53 = .ok (.aaload, 1) := by decide +kernel
theorem dX6_took_54 : decode cX6_took 54 = .ok (.iload_n 1, 1) := by decide +kernel
theorem dX6_took_55 : decode cX6_took 55 = .ok (.iaload, 1) := by decide +kernel
theorem dX6_took_56 : decode cX6_took 56 = .ok (.ireturn, 1) := by decide +kernel
theorem dX6_image_0 : decode cX6_image 0 = .ok (.iload_n 1, 1) := by decide +kernel
theorem dX6_image_1 : decode cX6_image 1 = .ok (.iconst 2, 1) := by decide +kernel
theorem dX6_image_2 : decode cX6_image 2 = .ok (.invokestatic 41, 3) := by decide +kernel
theorem dX6_image_5 : decode cX6_image 5 = .ok (.ifCond .ne 6, 3) := by decide +kernel
theorem dX6_image_8 : decode cX6_image 8 = .ok (.bipush (-2), 2) := by decide +kernel
theorem dX6_image_10 : decode cX6_image 10 = .ok (.ireturn, 1) := by decide +kernel
theorem dX6_image_11 : decode cX6_image 11 = .ok (.aload_n 0, 1) := by decide +kernel
theorem dX6_image_12 : decode cX6_image 12 = .ok (.getfield 37, 3) := by decide +kernel
theorem dX6_image_15 : decode cX6_image 15 = .ok (.iload_n 1, 1) := by decide +kernel
theorem dX6_image_16 : decode cX6_image 16 = .ok (.aaload, 1) := by decide +kernel
theorem dX6_image_17 : decode cX6_image 17 = .ok (.ifnonnull 16, 3) := by decide +kernel
theorem dX6_image_20 : decode cX6_image 20 = .ok (.aload_n 0, 1) := by decide +kernel
theorem dX6_image_21 : decode cX6_image 21 = .ok (.getfield 37, 3) := by decide +kernel
theorem dX6_image_24 : decode cX6_image 24 = .ok (.iload_n 1, 1) := by decide +kernel
theorem dX6_image_25 : decode cX6_image 25 = .ok (.new 9, 3) := by decide +kernel
theorem dX6_image_28 : decode cX6_image 28 = .ok (.dup, 1) := by decide +kernel
theorem dX6_image_29 : decode cX6_image 29 = .ok (.invokespecial 11, 3) := by decide +kernel
theorem dX6_image_32 : decode cX6_image 32 = .ok (.aastore, 1) := by decide +kernel
theorem dX6_image_33 : decode cX6_image 33 = .ok (.aload_n 0, 1) := by decide +kernel
theorem dX6_image_34 : decode cX6_image 34 = .ok (.getfield 37, 3) := by decide +kernel
theorem dX6_image_37 : decode cX6_image 37 = .ok (.iload_n 1, 1) := by decide +kernel
theorem dX6_image_38 : decode cX6_image 38 = .ok (.aaload, 1) := by decide +kernel
theorem dX6_image_39 : decode cX6_image 39 = .ok (.aload_n 0, 1) := by decide +kernel
theorem dX6_image_40 : decode cX6_image 40 = .ok (.getfield 12, 3) := by decide +kernel
theorem dX6_image_43 : decode cX6_image 43 = .ok (.invokevirtual 207, 3) := by decide +kernel
theorem dX6_image_46 : decode cX6_image 46 = .ok (.iconst 1, 1) := by decide +kernel
theorem dX6_image_47 : decode cX6_image 47 = .ok (.ireturn, 1) := by decide +kernel
theorem dX6_restore_0 : decode cX6_restore 0 = .ok (.iload_n 1, 1) := by decide +kernel
theorem dX6_restore_1 : decode cX6_restore 1 = .ok (.iconst 2, 1) := by decide +kernel
theorem dX6_restore_2 : decode cX6_restore 2 = .ok (.invokestatic 41, 3) := by decide +kernel
theorem dX6_restore_5 : decode cX6_restore 5 = .ok (.ifCond .ne 6, 3) := by decide +kernel
theorem dX6_restore_8 : decode cX6_restore 8 = .ok (.bipush (-2), 2) := by decide +kernel
theorem dX6_restore_10 : decode cX6_restore 10 = .ok (.ireturn, 1) := by decide +kernel
theorem dX6_restore_11 : decode cX6_restore 11 = .ok (.aload_n 0, 1) := by decide +kernel
theorem dX6_restore_12 : decode cX6_restore 12 = .ok (.getfield 37, 3) := by decide +kernel
theorem dX6_restore_15 : decode cX6_restore 15 = .ok (.iload_n 1, 1) := by decide +kernel
theorem dX6_restore_16 : decode cX6_restore 16 = .ok (.aaload, 1) := by decide +kernel
theorem dX6_restore_17 : decode cX6_restore 17 = .ok (.ifnonnull 6, 3) := by decide +kernel
theorem dX6_restore_20 : decode cX6_restore 20 = .ok (.bipush (-3), 2) := by decide +kernel
theorem dX6_restore_22 : decode cX6_restore 22 = .ok (.ireturn, 1) := by decide +kernel
theorem dX6_restore_23 : decode cX6_restore 23 = .ok (.aload_n 0, 1) := by decide +kernel
theorem dX6_restore_24 : decode cX6_restore 24 = .ok (.getfield 12, 3) := by decide +kernel
theorem dX6_restore_27 : decode cX6_restore 27 = .ok (.aload_n 0, 1) := by decide +kernel
theorem dX6_restore_28 : decode cX6_restore 28 = .ok (.getfield 37, 3) := by decide +kernel
theorem dX6_restore_31 : decode cX6_restore 31 = .ok (.iload_n 1, 1) := by decide +kernel
theorem dX6_restore_32 : decode cX6_restore 32 = .ok (.aaload, 1) := by decide +kernel
theorem dX6_restore_33 : decode cX6_restore 33 = .ok (.invokevirtual 207, 3) := by decide +kernel
theorem dX6_restore_36 : decode cX6_restore 36 = .ok (.iconst 1, 1) := by decide +kernel
theorem dX6_restore_37 : decode cX6_restore 37 = .ok (.ireturn, 1) := by decide +kernel
theorem dX6_count_0 : decode cX6_count 0 = .ok (.iload_n 1, 1) := by decide +kernel
theorem dX6_count_1 : decode cX6_count 1 = .ok (.tableswitch 150 0 9 #[55, 63, 73, 83, 93, 103, 108, 113, 118, 145], 55) := by decide +kernel
theorem dX6_count_56 : decode cX6_count 56 = .ok (.aload_n 0, 1) := by decide +kernel
theorem dX6_count_57 : decode cX6_count 57 = .ok (.getfield 12, 3) := by decide +kernel
theorem dX6_count_60 : decode cX6_count 60 = .ok (.getfield 45, 3) := by decide +kernel
theorem dX6_count_63 : decode cX6_count 63 = .ok (.ireturn, 1) := by decide +kernel
theorem dX6_count_64 : decode cX6_count 64 = .ok (.aload_n 0, 1) := by decide +kernel
theorem dX6_count_65 : decode cX6_count 65 = .ok (.getfield 12, 3) := by decide +kernel
theorem dX6_count_68 : decode cX6_count 68 = .ok (.getfield 112, 3) := by decide +kernel
theorem dX6_count_71 : decode cX6_count 71 = .ok (.iconst 0, 1) := by decide +kernel
theorem dX6_count_72 : decode cX6_count 72 = .ok (.iaload, 1) := by decide +kernel
theorem dX6_count_73 : decode cX6_count 73 = .ok (.ireturn, 1) := by decide +kernel
theorem dX6_count_74 : decode cX6_count 74 = .ok (.aload_n 0, 1) := by decide +kernel
theorem dX6_count_75 : decode cX6_count 75 = .ok (.getfield 12, 3) := by decide +kernel
theorem dX6_count_78 : decode cX6_count 78 = .ok (.getfield 112, 3) := by decide +kernel
theorem dX6_count_81 : decode cX6_count 81 = .ok (.iconst 1, 1) := by decide +kernel
theorem dX6_count_82 : decode cX6_count 82 = .ok (.iaload, 1) := by decide +kernel
theorem dX6_count_83 : decode cX6_count 83 = .ok (.ireturn, 1) := by decide +kernel
theorem dX6_count_84 : decode cX6_count 84 = .ok (.aload_n 0, 1) := by decide +kernel
theorem dX6_count_85 : decode cX6_count 85 = .ok (.getfield 12, 3) := by decide +kernel
theorem dX6_count_88 : decode cX6_count 88 = .ok (.getfield 112, 3) := by decide +kernel
theorem dX6_count_91 : decode cX6_count 91 = .ok (.iconst 2, 1) := by decide +kernel
theorem dX6_count_92 : decode cX6_count 92 = .ok (.iaload, 1) := by decide +kernel
theorem dX6_count_93 : decode cX6_count 93 = .ok (.ireturn, 1) := by decide +kernel
theorem dX6_count_94 : decode cX6_count 94 = .ok (.aload_n 0, 1) := by decide +kernel
theorem dX6_count_95 : decode cX6_count 95 = .ok (.getfield 12, 3) := by decide +kernel
theorem dX6_count_98 : decode cX6_count 98 = .ok (.getfield 112, 3) := by decide +kernel
theorem dX6_count_101 : decode cX6_count 101 = .ok (.iconst 3, 1) := by decide +kernel
theorem dX6_count_102 : decode cX6_count 102 = .ok (.iaload, 1) := by decide +kernel
theorem dX6_count_103 : decode cX6_count 103 = .ok (.ireturn, 1) := by decide +kernel
theorem dX6_count_104 : decode cX6_count 104 = .ok (.aload_n 0, 1) := by decide +kernel
theorem dX6_count_105 : decode cX6_count 105 = .ok (.getfield 180, 3) := by decide +kernel
theorem dX6_count_108 : decode cX6_count 108 = .ok (.ireturn, 1) := by decide +kernel
theorem dX6_count_109 : decode cX6_count 109 = .ok (.aload_n 0, 1) := by decide +kernel
theorem dX6_count_110 : decode cX6_count 110 = .ok (.getfield 192, 3) := by decide +kernel
theorem dX6_count_113 : decode cX6_count 113 = .ok (.ireturn, 1) := by decide +kernel
theorem dX6_count_114 : decode cX6_count 114 = .ok (.aload_n 0, 1) := by decide +kernel
theorem dX6_count_115 : decode cX6_count 115 = .ok (.getfield 183, 3) := by decide +kernel
theorem dX6_count_118 : decode cX6_count 118 = .ok (.ireturn, 1) := by decide +kernel
theorem dX6_count_119 : decode cX6_count 119 = .ok (.aload_n 0, 1) := by decide +kernel
theorem dX6_count_120 : decode cX6_count 120 = .ok (.getfield 19, 3) := by decide +kernel
theorem dX6_count_123 : decode cX6_count 123 = .ok (.aload_n 0, 1) := by decide +kernel
theorem dX6_count_124 : decode cX6_count 124 = .ok (.getfield 12, 3) := by decide +kernel
theorem dX6_count_127 : decode cX6_count 127 = .ok (.invokevirtual 118, 3) := by decide +kernel
theorem dX6_count_130 : decode cX6_count 130 = .ok (.aload_n 0, 1) := by decide +kernel
theorem dX6_count_131 : decode cX6_count 131 = .ok (.getfield 19, 3) := by decide +kernel
theorem dX6_count_134 : decode cX6_count 134 = .ok (.getfield 125, 3) := by decide +kernel
theorem dX6_count_137 : decode cX6_count 137 = .ok (.ifCond .eq 7, 3) := by decide +kernel
theorem dX6_count_140 : decode cX6_count 140 = .ok (.iconst 1, 1) := by decide +kernel
theorem dX6_count_141 : decode cX6_count 141 = .ok (.goto 4, 3) := by decide +kernel
theorem dX6_count_144 : decode cX6_count 144 = .ok (.iconst 0, 1) := by decide +kernel
theorem dX6_count_145 : decode cX6_count 145 = .ok (.ireturn, 1) := by decide +kernel
theorem dX6_count_146 : decode cX6_count 146 = .ok (.aload_n 0, 1) := by decide +kernel
theorem dX6_count_147 : decode cX6_count 147 = .ok (.invokevirtual 210, 3) := by decide +kernel
theorem dX6_count_150 : decode cX6_count 150 = .ok (.ireturn, 1) := by decide +kernel
theorem dX6_count_151 : decode cX6_count 151 = .ok (.iload_n 1, 1) := by decide +kernel
theorem dX6_count_152 : decode cX6_count 152 = .ok (.bipush 10, 2) := by decide +kernel
theorem dX6_count_154 : decode cX6_count 154 = .ok (.if_icmp .lt 24, 3) := by decide +kernel
theorem dX6_count_157 : decode cX6_count 157 = .ok (.iload_n 1, 1) := by decide +kernel
theorem dX6_count_158 : decode cX6_count 158 = .ok (.bipush 16, 2) := by decide +kernel
theorem dX6_count_160 : decode cX6_count 160 = .ok (.if_icmp .ge 18, 3) := by decide +kernel
theorem dX6_count_163 : decode cX6_count 163 = .ok (.aload_n 0, 1) := by decide +kernel
theorem dX6_count_164 : decode cX6_count 164 = .ok (.getfield 12, 3) := by decide +kernel
theorem dX6_count_167 : decode cX6_count 167 = .ok (.getfield 170, 3) := by decide +kernel
theorem dX6_count_170 : decode cX6_count 170 = .ok (.iload_n 1, 1) := by decide +kernel
theorem dX6_count_171 : decode cX6_count 171 = .ok (.bipush 10, 2) := by decide +kernel
theorem dX6_count_173 : decode cX6_count 173 = .ok (.isub, 1) := by decide +kernel
theorem dX6_count_174 : decode cX6_count 174 = .ok (.iaload, 1) := by decide +kernel
theorem dX6_count_175 : decode cX6_count 175 = .ok (.goto 5, 3) := by decide +kernel
theorem dX6_count_178 : decode cX6_count 178 = .ok (.bipush (-2), 2) := by decide +kernel
theorem dX6_count_180 : decode cX6_count 180 = .ok (.ireturn, 1) := by decide +kernel
theorem dX6_keptImages_0 : decode cX6_keptImages 0 = .ok (.iconst 0, 1) := by decide +kernel
theorem dX6_keptImages_1 : decode cX6_keptImages 1 = .ok (.istore_n 1, 1) := by decide +kernel
theorem dX6_keptImages_2 : decode cX6_keptImages 2 = .ok (.iconst 0, 1) := by decide +kernel
theorem dX6_keptImages_3 : decode cX6_keptImages 3 = .ok (.istore_n 2, 1) := by decide +kernel
theorem dX6_keptImages_4 : decode cX6_keptImages 4 = .ok (.iload_n 2, 1) := by decide +kernel
theorem dX6_keptImages_5 : decode cX6_keptImages 5 = .ok (.iconst 2, 1) := by decide +kernel
theorem dX6_keptImages_6 : decode cX6_keptImages 6 = .ok (.if_icmp .ge 24, 3) := by decide +kernel
theorem dX6_keptImages_9 : decode cX6_keptImages 9 = .ok (.aload_n 0, 1) := by decide +kernel
theorem dX6_keptImages_10 : decode cX6_keptImages 10 = .ok (.getfield 37, 3) := by decide +kernel
theorem dX6_keptImages_13 : decode cX6_keptImages 13 = .ok (.iload_n 2, 1) := by decide +kernel
theorem dX6_keptImages_14 : decode cX6_keptImages 14 = .ok (.aaload, 1) := by decide +kernel
theorem dX6_keptImages_15 : decode cX6_keptImages 15 = .ok (.ifnull 9, 3) := by decide +kernel
theorem dX6_keptImages_18 : decode cX6_keptImages 18 = .ok (.iload_n 1, 1) := by decide +kernel
theorem dX6_keptImages_19 : decode cX6_keptImages 19 = .ok (.iconst 1, 1) := by decide +kernel
theorem dX6_keptImages_20 : decode cX6_keptImages 20 = .ok (.iload_n 2, 1) := by decide +kernel
theorem dX6_keptImages_21 : decode cX6_keptImages 21 = .ok (.ishl, 1) := by decide +kernel
theorem dX6_keptImages_22 : decode cX6_keptImages 22 = .ok (.ior, 1) := by decide +kernel
theorem dX6_keptImages_23 : decode cX6_keptImages 23 = .ok (.istore_n 1, 1) := by decide +kernel
theorem dX6_keptImages_24 : decode cX6_keptImages 24 = .ok (.iinc 2 1, 3) := by decide +kernel
theorem dX6_keptImages_27 : decode cX6_keptImages 27 = .ok (.goto (-23), 3) := by decide +kernel
theorem dX6_keptImages_30 : decode cX6_keptImages 30 = .ok (.iload_n 1, 1) := by decide +kernel
theorem dX6_keptImages_31 : decode cX6_keptImages 31 = .ok (.ireturn, 1) := by decide +kernel
theorem dX6_isIn_0 : decode cX6_isIn 0 = .ok (.iload_n 0, 1) := by decide +kernel
theorem dX6_isIn_1 : decode cX6_isIn 1 = .ok (.ifCond .lt 12, 3) := by decide +kernel
theorem dX6_isIn_4 : decode cX6_isIn 4 = .ok (.iload_n 0, 1) := by decide +kernel
theorem dX6_isIn_5 : decode cX6_isIn 5 = .ok (.iload_n 1, 1) := by decide +kernel
theorem dX6_isIn_6 : decode cX6_isIn 6 = .ok (.if_icmp .ge 7, 3) := by decide +kernel
theorem dX6_isIn_9 : decode cX6_isIn 9 = .ok (.iconst 1, 1) := by decide +kernel
theorem dX6_isIn_10 : decode cX6_isIn 10 = .ok (.goto 4, 3) := by decide +kernel
theorem dX6_isIn_13 : decode cX6_isIn 13 = .ok (.iconst 0, 1) := by decide +kernel
theorem dX6_isIn_14 : decode cX6_isIn 14 = .ok (.ireturn, 1) := by decide +kernel
theorem dX6_isUpTo_0 : decode cX6_isUpTo 0 = .ok (.iload_n 0, 1) := by decide +kernel
theorem dX6_isUpTo_1 : decode cX6_isUpTo 1 = .ok (.ifCond .lt 12, 3) := by decide +kernel
theorem dX6_isUpTo_4 : decode cX6_isUpTo 4 = .ok (.iload_n 0, 1) := by decide +kernel
theorem dX6_isUpTo_5 : decode cX6_isUpTo 5 = .ok (.iload_n 1, 1) := by decide +kernel
theorem dX6_isUpTo_6 : decode cX6_isUpTo 6 = .ok (.if_icmp .gt 7, 3) := by decide +kernel
theorem dX6_isUpTo_9 : decode cX6_isUpTo 9 = .ok (.iconst 1, 1) := by decide +kernel
theorem dX6_isUpTo_10 : decode cX6_isUpTo 10 = .ok (.goto 4, 3) := by decide +kernel
theorem dX6_isUpTo_13 : decode cX6_isUpTo 13 = .ok (.iconst 0, 1) := by decide +kernel
theorem dX6_isUpTo_14 : decode cX6_isUpTo 14 = .ok (.ireturn, 1) := by decide +kernel
theorem dX6_hasTarget_0 : decode cX6_hasTarget 0 = .ok (.iload_n 0, 1) := by decide +kernel
theorem dX6_hasTarget_1 : decode cX6_hasTarget 1 = .ok (.iconst 1, 1) := by decide +kernel
theorem dX6_hasTarget_2 : decode cX6_hasTarget 2 = .ok (.if_icmp .lt 13, 3) := by decide +kernel
theorem dX6_hasTarget_5 : decode cX6_hasTarget 5 = .ok (.iload_n 0, 1) := by decide +kernel
theorem dX6_hasTarget_6 : decode cX6_hasTarget 6 = .ok (.bipush 7, 2) := by decide +kernel
theorem dX6_hasTarget_8 : decode cX6_hasTarget 8 = .ok (.if_icmp .gt 7, 3) := by decide +kernel
theorem dX6_hasTarget_11 : decode cX6_hasTarget 11 = .ok (.iconst 1, 1) := by decide +kernel
theorem dX6_hasTarget_12 : decode cX6_hasTarget 12 = .ok (.goto 4, 3) := by decide +kernel
theorem dX6_hasTarget_15 : decode cX6_hasTarget 15 = .ok (.iconst 0, 1) := by decide +kernel
theorem dX6_hasTarget_16 : decode cX6_hasTarget 16 = .ok (.ireturn, 1) := by decide +kernel
theorem dX6_hasRegister_0 : decode cX6_hasRegister 0 = .ok (.iload_n 0, 1) := by decide +kernel
theorem dX6_hasRegister_1 : decode cX6_hasRegister 1 = .ok (.iconst 5, 1) := by decide +kernel
theorem dX6_hasRegister_2 : decode cX6_hasRegister 2 = .ok (.if_icmp .lt 13, 3) := by decide +kernel
theorem dX6_hasRegister_5 : decode cX6_hasRegister 5 = .ok (.iload_n 0, 1) := by decide +kernel
theorem dX6_hasRegister_6 : decode cX6_hasRegister 6 = .ok (.bipush 7, 2) := by decide +kernel
theorem dX6_hasRegister_8 : decode cX6_hasRegister 8 = .ok (.if_icmp .gt 7, 3) := by decide +kernel
theorem dX6_hasRegister_11 : decode cX6_hasRegister 11 = .ok (.iconst 1, 1) := by decide +kernel
theorem dX6_hasRegister_12 : decode cX6_hasRegister 12 = .ok (.goto 4, 3) := by decide +kernel
theorem dX6_hasRegister_15 : decode cX6_hasRegister 15 = .ok (.iconst 0, 1) := by decide +kernel
theorem dX6_hasRegister_16 : decode cX6_hasRegister 16 = .ok (.ireturn, 1) := by decide +kernel
theorem dX6_isAct_0 : decode cX6_isAct 0 = .ok (.iload_n 0, 1) := by decide +kernel
theorem dX6_isAct_1 : decode cX6_isAct 1 = .ok (.getstatic 213, 3) := by decide +kernel
theorem dX6_isAct_4 : decode cX6_isAct 4 = .ok (.arraylength, 1) := by decide +kernel
theorem dX6_isAct_5 : decode cX6_isAct 5 = .ok (.invokestatic 41, 3) := by decide +kernel
theorem dX6_isAct_8 : decode cX6_isAct 8 = .ok (.ifCond .ne 5, 3) := by decide +kernel
theorem dX6_isAct_11 : decode cX6_isAct 11 = .ok (.iconst 0, 1) := by decide +kernel
theorem dX6_isAct_12 : decode cX6_isAct 12 = .ok (.ireturn, 1) := by decide +kernel
theorem dX6_isAct_13 : decode cX6_isAct 13 = .ok (.iload_n 0, 1) := by decide +kernel
theorem dX6_isAct_14 : decode cX6_isAct 14 = .ok (.invokestatic 216, 3) := by decide +kernel
theorem dX6_isAct_17 : decode cX6_isAct 17 = .ok (.ifCond .eq 24, 3) := by decide +kernel
theorem dX6_isAct_20 : decode cX6_isAct 20 = .ok (.iload_n 1, 1) := by decide +kernel
theorem dX6_isAct_21 : decode cX6_isAct 21 = .ok (.bipush 6, 2) := by decide +kernel
theorem dX6_isAct_23 : decode cX6_isAct 23 = .ok (.invokestatic 41, 3) := by decide +kernel
theorem dX6_isAct_26 : decode cX6_isAct 26 = .ok (.ifCond .eq 19, 3) := by decide +kernel
theorem dX6_isAct_29 : decode cX6_isAct 29 = .ok (.iload_n 2, 1) := by decide +kernel
theorem dX6_isAct_30 : decode cX6_isAct 30 = .ok (.getstatic 213, 3) := by decide +kernel
theorem dX6_isAct_33 : decode cX6_isAct 33 = .ok (.iload_n 0, 1) := by decide +kernel
theorem dX6_isAct_34 : decode cX6_isAct 34 = .ok (.iaload, 1) := by decide +kernel
theorem dX6_isAct_35 : decode cX6_isAct 35 = .ok (.invokestatic 57, 3) := by decide +kernel
theorem dX6_isAct_38 : decode cX6_isAct 38 = .ok (.ifCond .eq 7, 3) := by decide +kernel
theorem dX6_isAct_41 : decode cX6_isAct 41 = .ok (.iconst 1, 1) := by decide +kernel
theorem dX6_isAct_42 : decode cX6_isAct 42 = .ok (.goto 4, 3) := by decide +kernel
theorem dX6_isAct_45 : decode cX6_isAct 45 = .ok (.iconst 0, 1) := by decide +kernel
theorem dX6_isAct_46 : decode cX6_isAct 46 = .ok (.ireturn, 1) := by decide +kernel
theorem dJ6_bitCount_0f7a4_0 : decode cJ6_bitCount_0f7a4 0 = .ok (.iload_n 0, 1) := by decide +kernel
theorem dJ6_bitCount_0f7a4_1 : decode cJ6_bitCount_0f7a4 1 = .ok (.iload_n 0, 1) := by decide +kernel
theorem dJ6_bitCount_0f7a4_2 : decode cJ6_bitCount_0f7a4 2 = .ok (.iconst 1, 1) := by decide +kernel
theorem dJ6_bitCount_0f7a4_3 : decode cJ6_bitCount_0f7a4 3 = .ok (.iushr, 1) := by decide +kernel
theorem dJ6_bitCount_0f7a4_4 : decode cJ6_bitCount_0f7a4 4 = .ok (.ldc_w 265, 3) := by decide +kernel
theorem dJ6_bitCount_0f7a4_7 : decode cJ6_bitCount_0f7a4 7 = .ok (.iand, 1) := by decide +kernel
theorem dJ6_bitCount_0f7a4_8 : decode cJ6_bitCount_0f7a4 8 = .ok (.isub, 1) := by decide +kernel
theorem dJ6_bitCount_0f7a4_9 : decode cJ6_bitCount_0f7a4 9 = .ok (.istore_n 0, 1) := by decide +kernel
theorem dJ6_bitCount_0f7a4_10 : decode cJ6_bitCount_0f7a4 10 = .ok (.iload_n 0, 1) := by decide +kernel
theorem dJ6_bitCount_0f7a4_11 : decode cJ6_bitCount_0f7a4 11 = .ok (.ldc_w 266, 3) := by decide +kernel
theorem dJ6_bitCount_0f7a4_14 : decode cJ6_bitCount_0f7a4 14 = .ok (.iand, 1) := by decide +kernel
theorem dJ6_bitCount_0f7a4_15 : decode cJ6_bitCount_0f7a4 15 = .ok (.iload_n 0, 1) := by decide +kernel
theorem dJ6_bitCount_0f7a4_16 : decode cJ6_bitCount_0f7a4 16 = .ok (.iconst 2, 1) := by decide +kernel
theorem dJ6_bitCount_0f7a4_17 : decode cJ6_bitCount_0f7a4 17 = .ok (.iushr, 1) := by decide +kernel
theorem dJ6_bitCount_0f7a4_18 : decode cJ6_bitCount_0f7a4 18 = .ok (.ldc_w 266, 3) := by decide +kernel
theorem dJ6_bitCount_0f7a4_21 : decode cJ6_bitCount_0f7a4 21 = .ok (.iand, 1) := by decide +kernel
theorem dJ6_bitCount_0f7a4_22 : decode cJ6_bitCount_0f7a4 22 = .ok (.iadd, 1) := by decide +kernel
theorem dJ6_bitCount_0f7a4_23 : decode cJ6_bitCount_0f7a4 23 = .ok (.istore_n 0, 1) := by decide +kernel
theorem dJ6_bitCount_0f7a4_24 : decode cJ6_bitCount_0f7a4 24 = .ok (.iload_n 0, 1) := by decide +kernel
theorem dJ6_bitCount_0f7a4_25 : decode cJ6_bitCount_0f7a4 25 = .ok (.iload_n 0, 1) := by decide +kernel
theorem dJ6_bitCount_0f7a4_26 : decode cJ6_bitCount_0f7a4 26 = .ok (.iconst 4, 1) := by decide +kernel
theorem dJ6_bitCount_0f7a4_27 : decode cJ6_bitCount_0f7a4 27 = .ok (.iushr, 1) := by decide +kernel
theorem dJ6_bitCount_0f7a4_28 : decode cJ6_bitCount_0f7a4 28 = .ok (.iadd, 1) := by decide +kernel
theorem dJ6_bitCount_0f7a4_29 : decode cJ6_bitCount_0f7a4 29 = .ok (.ldc_w 267, 3) := by decide +kernel
theorem dJ6_bitCount_0f7a4_32 : decode cJ6_bitCount_0f7a4 32 = .ok (.iand, 1) := by decide +kernel
theorem dJ6_bitCount_0f7a4_33 : decode cJ6_bitCount_0f7a4 33 = .ok (.istore_n 0, 1) := by decide +kernel
theorem dJ6_bitCount_0f7a4_34 : decode cJ6_bitCount_0f7a4 34 = .ok (.iload_n 0, 1) := by decide +kernel
theorem dJ6_bitCount_0f7a4_35 : decode cJ6_bitCount_0f7a4 35 = .ok (.iload_n 0, 1) := by decide +kernel
theorem dJ6_bitCount_0f7a4_36 : decode cJ6_bitCount_0f7a4 36 = .ok (.bipush 8, 2) := by decide +kernel
theorem dJ6_bitCount_0f7a4_38 : decode cJ6_bitCount_0f7a4 38 = .ok (.iushr, 1) := by decide +kernel
theorem dJ6_bitCount_0f7a4_39 : decode cJ6_bitCount_0f7a4 39 = .ok (.iadd, 1) := by decide +kernel
theorem dJ6_bitCount_0f7a4_40 : decode cJ6_bitCount_0f7a4 40 = .ok (.istore_n 0, 1) := by decide +kernel
theorem dJ6_bitCount_0f7a4_41 : decode cJ6_bitCount_0f7a4 41 = .ok (.iload_n 0, 1) := by decide +kernel
theorem dJ6_bitCount_0f7a4_42 : decode cJ6_bitCount_0f7a4 42 = .ok (.iload_n 0, 1) := by decide +kernel
theorem dJ6_bitCount_0f7a4_43 : decode cJ6_bitCount_0f7a4 43 = .ok (.bipush 16, 2) := by decide +kernel
theorem dJ6_bitCount_0f7a4_45 : decode cJ6_bitCount_0f7a4 45 = .ok (.iushr, 1) := by decide +kernel
theorem dJ6_bitCount_0f7a4_46 : decode cJ6_bitCount_0f7a4 46 = .ok (.iadd, 1) := by decide +kernel
theorem dJ6_bitCount_0f7a4_47 : decode cJ6_bitCount_0f7a4 47 = .ok (.istore_n 0, 1) := by decide +kernel
theorem dJ6_bitCount_0f7a4_48 : decode cJ6_bitCount_0f7a4 48 = .ok (.iload_n 0, 1) := by decide +kernel
theorem dJ6_bitCount_0f7a4_49 : decode cJ6_bitCount_0f7a4 49 = .ok (.bipush 63, 2) := by decide +kernel
theorem dJ6_bitCount_0f7a4_51 : decode cJ6_bitCount_0f7a4 51 = .ok (.iand, 1) := by decide +kernel
theorem dJ6_bitCount_0f7a4_52 : decode cJ6_bitCount_0f7a4 52 = .ok (.ireturn, 1) := by decide +kernel
theorem dJ9_max_7cf53_0 : decode cJ9_max_7cf53 0 = .ok (.iload_n 0, 1) := by decide +kernel
theorem dJ9_max_7cf53_1 : decode cJ9_max_7cf53 1 = .ok (.iload_n 1, 1) := by decide +kernel
theorem dJ9_max_7cf53_2 : decode cJ9_max_7cf53 2 = .ok (.if_icmp .lt 7, 3) := by decide +kernel
theorem dJ9_max_7cf53_5 : decode cJ9_max_7cf53 5 = .ok (.iload_n 0, 1) := by decide +kernel
theorem dJ9_max_7cf53_6 : decode cJ9_max_7cf53 6 = .ok (.goto 4, 3) := by decide +kernel
theorem dJ9_max_7cf53_9 : decode cJ9_max_7cf53 9 = .ok (.iload_n 1, 1) := by decide +kernel
theorem dJ9_max_7cf53_10 : decode cJ9_max_7cf53 10 = .ok (.ireturn, 1) := by decide +kernel
theorem dJ9_min_7cf53_0 : decode cJ9_min_7cf53 0 = .ok (.iload_n 0, 1) := by decide +kernel
theorem dJ9_min_7cf53_1 : decode cJ9_min_7cf53 1 = .ok (.iload_n 1, 1) := by decide +kernel
theorem dJ9_min_7cf53_2 : decode cJ9_min_7cf53 2 = .ok (.if_icmp .gt 7, 3) := by decide +kernel
theorem dJ9_min_7cf53_5 : decode cJ9_min_7cf53 5 = .ok (.iload_n 0, 1) := by decide +kernel
theorem dJ9_min_7cf53_6 : decode cJ9_min_7cf53 6 = .ok (.goto 4, 3) := by decide +kernel
theorem dJ9_min_7cf53_9 : decode cJ9_min_7cf53 9 = .ok (.iload_n 1, 1) := by decide +kernel
theorem dJ9_min_7cf53_10 : decode cJ9_min_7cf53 10 = .ok (.ireturn, 1) := by decide +kernel
theorem dJ7_fill_53178_0 : decode cJ7_fill_53178 0 = .ok (.iconst 0, 1) := by decide +kernel
theorem dJ7_fill_53178_1 : decode cJ7_fill_53178 1 = .ok (.istore_n 2, 1) := by decide +kernel
theorem dJ7_fill_53178_2 : decode cJ7_fill_53178 2 = .ok (.aload_n 0, 1) := by decide +kernel
theorem dJ7_fill_53178_3 : decode cJ7_fill_53178 3 = .ok (.arraylength, 1) := by decide +kernel
theorem dJ7_fill_53178_4 : decode cJ7_fill_53178 4 = .ok (.istore_n 3, 1) := by decide +kernel
theorem dJ7_fill_53178_5 : decode cJ7_fill_53178 5 = .ok (.iload_n 2, 1) := by decide +kernel
theorem dJ7_fill_53178_6 : decode cJ7_fill_53178 6 = .ok (.iload_n 3, 1) := by decide +kernel
theorem dJ7_fill_53178_7 : decode cJ7_fill_53178 7 = .ok (.if_icmp .ge 13, 3) := by decide +kernel
theorem dJ7_fill_53178_10 : decode cJ7_fill_53178 10 = .ok (.aload_n 0, 1) := by decide +kernel
theorem dJ7_fill_53178_11 : decode cJ7_fill_53178 11 = .ok (.iload_n 2, 1) := by decide +kernel
theorem dJ7_fill_53178_12 : decode cJ7_fill_53178 12 = .ok (.iload_n 1, 1) := by decide +kernel
theorem dJ7_fill_53178_13 : decode cJ7_fill_53178 13 = .ok (.iastore, 1) := by decide +kernel
theorem dJ7_fill_53178_14 : decode cJ7_fill_53178 14 = .ok (.iinc 2 1, 3) := by decide +kernel
theorem dJ7_fill_53178_17 : decode cJ7_fill_53178 17 = .ok (.goto (-12), 3) := by decide +kernel
theorem dJ7_fill_53178_20 : decode cJ7_fill_53178 20 = .ok (.return_, 1) := by decide +kernel
