/-! decode rows -/
theorem dX7_reads_23 : decode cX7_reads 23 = .ok (.getfield 19, 3) := by decide +kernel
theorem dX7_reads_26 : decode cX7_reads 26 = .ok (.iload_n 3, 1) := by decide +kernel
theorem dX7_reads_27 : decode cX7_reads 27 = .ok (.iaload, 1) := by decide +kernel
theorem dX7_reads_28 : decode cX7_reads 28 = .ok (.istore 4, 2) := by decide +kernel
theorem dX7_reads_30 : decode cX7_reads 30 = .ok (.aload_n 0, 1) := by decide +kernel
theorem dX7_reads_31 : decode cX7_reads 31 = .ok (.iload_n 3, 1) := by decide +kernel
theorem dX7_reads_32 : decode cX7_reads 32 = .ok (.invokevirtual 90, 3) := by decide +kernel
theorem dX7_reads_35 : decode cX7_reads 35 = .ok (.ifCond .eq 71, 3) := by decide +kernel
theorem dX7_reads_38 : decode cX7_reads 38 = .ok (.iload_n 2, 1) := by decide +kernel
theorem dX7_reads_39 : decode cX7_reads 39 = .ok (.iload 4, 2) := by decide +kernel
theorem dX7_reads_41 : decode cX7_reads 41 = .ok (.iconst 2, 1) := by decide +kernel
theorem dX7_reads_42 : decode cX7_reads 42 = .ok (.if_icmp .eq 9, 3) := by decide +kernel
theorem dX7_reads_45 : decode cX7_reads 45 = .ok (.iload 4, 2) := by decide +kernel
theorem dX7_reads_47 : decode cX7_reads 47 = .ok (.iconst 4, 1) := by decide +kernel
theorem dX7_reads_48 : decode cX7_reads 48 = .ok (.if_icmp .ne 14, 3) := by decide +kernel
theorem dX7_reads_51 : decode cX7_reads 51 = .ok (.iconst 1, 1) := by decide +kernel
theorem dX7_reads_52 : decode cX7_reads 52 = .ok (.aload_n 0, 1) := by decide +kernel
theorem dX7_reads_53 : decode cX7_reads 53 = .ok (.getfield 25, 3) := by decide +kernel
theorem dX7_reads_56 : decode cX7_reads 56 = .ok (.iload_n 3, 1) := by decide +kernel
theorem dX7_reads_57 : decode cX7_reads 57 = .ok (.iaload, 1) := by decide +kernel
theorem dX7_reads_58 : decode cX7_reads 58 = .ok (.ishl, 1) := by decide +kernel
theorem dX7_reads_59 : decode cX7_reads 59 = .ok (.goto 4, 3) := by decide +kernel
theorem dX7_reads_62 : decode cX7_reads 62 = .ok (.iconst 0, 1) := by decide +kernel
theorem dX7_reads_63 : decode cX7_reads 63 = .ok (.ior, 1) := by decide +kernel
theorem dX7_reads_64 : decode cX7_reads 64 = .ok (.istore_n 2, 1) := by decide +kernel
theorem dX7_reads_65 : decode cX7_reads 65 = .ok (.iload_n 2, 1) := by decide +kernel
theorem dX7_reads_66 : decode cX7_reads 66 = .ok (.iload 4, 2) := by decide +kernel
theorem dX7_reads_68 : decode cX7_reads 68 = .ok (.iconst 3, 1) := by decide +kernel
theorem dX7_reads_69 : decode cX7_reads 69 = .ok (.if_icmp .eq 23, 3) := by decide +kernel
theorem dX7_reads_72 : decode cX7_reads 72 = .ok (.iload 4, 2) := by decide +kernel
theorem dX7_reads_74 : decode cX7_reads 74 = .ok (.iconst 4, 1) := by decide +kernel
theorem dX7_reads_75 : decode cX7_reads 75 = .ok (.if_icmp .eq 17, 3) := by decide +kernel
theorem dX7_reads_78 : decode cX7_reads 78 = .ok (.iload 4, 2) := by decide +kernel
theorem dX7_reads_80 : decode cX7_reads 80 = .ok (.bipush 6, 2) := by decide +kernel
theorem dX7_reads_82 : decode cX7_reads 82 = .ok (.if_icmp .eq 10, 3) := by decide +kernel
theorem dX7_reads_85 : decode cX7_reads 85 = .ok (.iload 4, 2) := by decide +kernel
theorem dX7_reads_87 : decode cX7_reads 87 = .ok (.bipush 7, 2) := by decide +kernel
theorem dX7_reads_89 : decode cX7_reads 89 = .ok (.if_icmp .ne 14, 3) := by decide +kernel
theorem dX7_reads_92 : decode cX7_reads 92 = .ok (.iconst 1, 1) := by decide +kernel
theorem dX7_reads_93 : decode cX7_reads 93 = .ok (.aload_n 0, 1) := by decide +kernel
theorem dX7_reads_94 : decode cX7_reads 94 = .ok (.getfield 22, 3) := by decide +kernel
theorem dX7_reads_97 : decode cX7_reads 97 = .ok (.iload_n 3, 1) := by decide +kernel
theorem dX7_reads_98 : decode cX7_reads 98 = .ok (.iaload, 1) := by decide +kernel
theorem dX7_reads_99 : decode cX7_reads 99 = .ok (.ishl, 1) := by decide +kernel
theorem dX7_reads_100 : decode cX7_reads 100 = .ok (.goto 4, 3) := by decide +kernel
theorem dX7_reads_103 : decode cX7_reads 103 = .ok (.iconst 0, 1) := by decide +kernel
theorem dX7_reads_104 : decode cX7_reads 104 = .ok (.ior, 1) := by decide +kernel
theorem dX7_reads_105 : decode cX7_reads 105 = .ok (.istore_n 2, 1) := by decide +kernel
theorem dX7_reads_106 : decode cX7_reads 106 = .ok (.iinc 3 1, 3) := by decide +kernel
theorem dX7_reads_109 : decode cX7_reads 109 = .ok (.goto (-96), 3) := by decide +kernel
theorem dX7_reads_112 : decode cX7_reads 112 = .ok (.iload_n 2, 1) := by decide +kernel
theorem dX7_reads_113 : decode cX7_reads 113 = .ok (.ireturn, 1) := by decide +kernel
theorem dX7_needOf_0 : decode cX7_needOf 0 = .ok (.aload_n 0, 1) := by decide +kernel
theorem dX7_needOf_1 : decode cX7_needOf 1 = .ok (.iload_n 1, 1) := by decide +kernel
theorem dX7_needOf_2 : decode cX7_needOf 2 = .ok (.invokevirtual 118, 3) := by decide +kernel
theorem dX7_needOf_5 : decode cX7_needOf 5 = .ok (.aload_n 0, 1) := by decide +kernel
theorem dX7_needOf_6 : decode cX7_needOf 6 = .ok (.getfield 7, 3) := by decide +kernel
theorem dX7_needOf_9 : decode cX7_needOf 9 = .ok (.iload_n 2, 1) := by decide +kernel
theorem dX7_needOf_10 : decode cX7_needOf 10 = .ok (.iaload, 1) := by decide +kernel
theorem dX7_needOf_11 : decode cX7_needOf 11 = .ok (.invokestatic 97, 3) := by decide +kernel
theorem dX7_needOf_14 : decode cX7_needOf 14 = .ok (.ifCond .eq 5, 3) := by decide +kernel
theorem dX7_needOf_17 : decode cX7_needOf 17 = .ok (.iconst 3, 1) := by decide +kernel
theorem dX7_needOf_18 : decode cX7_needOf 18 = .ok (.ireturn, 1) := by decide +kernel
theorem dX7_needOf_19 : decode cX7_needOf 19 = .ok (.aload_n 0, 1) := by decide +kernel
theorem dX7_needOf_20 : decode cX7_needOf 20 = .ok (.iload_n 1, 1) := by decide +kernel
theorem dX7_needOf_21 : decode cX7_needOf 21 = .ok (.invokevirtual 118, 3) := by decide +kernel
theorem dX7_needOf_24 : decode cX7_needOf 24 = .ok (.aload_n 0, 1) := by decide +kernel
theorem dX7_needOf_25 : decode cX7_needOf 25 = .ok (.iload_n 2, 1) := by decide +kernel
theorem dX7_needOf_26 : decode cX7_needOf 26 = .ok (.invokevirtual 121, 3) := by decide +kernel
theorem dX7_needOf_29 : decode cX7_needOf 29 = .ok (.aload_n 0, 1) := by decide +kernel
theorem dX7_needOf_30 : decode cX7_needOf 30 = .ok (.iload_n 2, 1) := by decide +kernel
theorem dX7_needOf_31 : decode cX7_needOf 31 = .ok (.invokevirtual 118, 3) := by decide +kernel
theorem dX7_needOf_34 : decode cX7_needOf 34 = .ok (.ior, 1) := by decide +kernel
theorem dX7_needOf_35 : decode cX7_needOf 35 = .ok (.iand, 1) := by decide +kernel
theorem dX7_needOf_36 : decode cX7_needOf 36 = .ok (.ifCond .eq 5, 3) := by decide +kernel
theorem dX7_needOf_39 : decode cX7_needOf 39 = .ok (.iconst 2, 1) := by decide +kernel
theorem dX7_needOf_40 : decode cX7_needOf 40 = .ok (.ireturn, 1) := by decide +kernel
theorem dX7_needOf_41 : decode cX7_needOf 41 = .ok (.aload_n 0, 1) := by decide +kernel
theorem dX7_needOf_42 : decode cX7_needOf 42 = .ok (.iload_n 2, 1) := by decide +kernel
theorem dX7_needOf_43 : decode cX7_needOf 43 = .ok (.invokevirtual 118, 3) := by decide +kernel
theorem dX7_needOf_46 : decode cX7_needOf 46 = .ok (.aload_n 0, 1) := by decide +kernel
theorem dX7_needOf_47 : decode cX7_needOf 47 = .ok (.iload_n 1, 1) := by decide +kernel
theorem dX7_needOf_48 : decode cX7_needOf 48 = .ok (.invokevirtual 121, 3) := by decide +kernel
theorem dX7_needOf_51 : decode cX7_needOf 51 = .ok (.iand, 1) := by decide +kernel
theorem dX7_needOf_52 : decode cX7_needOf 52 = .ok (.ifCond .eq 7, 3) := by decide +kernel
theorem dX7_needOf_55 : decode cX7_needOf 55 = .ok (.iconst 1, 1) := by decide +kernel
theorem dX7_needOf_56 : decode cX7_needOf 56 = .ok (.goto 4, 3) := by decide +kernel
theorem dX7_needOf_59 : decode cX7_needOf 59 = .ok (.iconst 0, 1) := by decide +kernel
theorem dX7_needOf_60 : decode cX7_needOf 60 = .ok (.ireturn, 1) := by decide +kernel
theorem dX7_needs_0 : decode cX7_needs 0 = .ok (.aload_n 0, 1) := by decide +kernel
theorem dX7_needs_1 : decode cX7_needs 1 = .ok (.iload_n 1, 1) := by decide +kernel
theorem dX7_needs_2 : decode cX7_needs 2 = .ok (.invokevirtual 101, 3) := by decide +kernel
theorem dX7_needs_5 : decode cX7_needs 5 = .ok (.ifCond .eq 11, 3) := by decide +kernel
theorem dX7_needs_8 : decode cX7_needs 8 = .ok (.aload_n 0, 1) := by decide +kernel
theorem dX7_needs_9 : decode cX7_needs 9 = .ok (.iload_n 2, 1) := by decide +kernel
theorem dX7_needs_10 : decode cX7_needs 10 = .ok (.invokevirtual 101, 3) := by decide +kernel
theorem dX7_needs_13 : decode cX7_needs 13 = .ok (.ifCond .ne 5, 3) := by decide +kernel
theorem dX7_needs_16 : decode cX7_needs 16 = .ok (.iconst (-1), 1) := by decide +kernel
theorem dX7_needs_17 : decode cX7_needs 17 = .ok (.ireturn, 1) := by decide +kernel
theorem dX7_needs_18 : decode cX7_needs 18 = .ok (.iload_n 1, 1) := by decide +kernel
theorem dX7_needs_19 : decode cX7_needs 19 = .ok (.iload_n 2, 1) := by decide +kernel
theorem dX7_needs_20 : decode cX7_needs 20 = .ok (.if_icmp .ne 6, 3) := by decide +kernel
theorem dX7_needs_23 : decode cX7_needs 23 = .ok (.bipush (-2), 2) := by decide +kernel
theorem dX7_needs_25 : decode cX7_needs 25 = .ok (.ireturn, 1) := by decide +kernel
theorem dX7_needs_26 : decode cX7_needs 26 = .ok (.iload_n 1, 1) := by decide +kernel
theorem dX7_needs_27 : decode cX7_needs 27 = .ok (.iload_n 2, 1) := by decide +kernel
theorem dX7_needs_28 : decode cX7_needs 28 = .ok (.if_icmp .ge 12, 3) := by decide +kernel
theorem dX7_needs_31 : decode cX7_needs 31 = .ok (.aload_n 0, 1) := by decide +kernel
theorem dX7_needs_32 : decode cX7_needs 32 = .ok (.iload_n 1, 1) := by decide +kernel
theorem dX7_needs_33 : decode cX7_needs 33 = .ok (.iload_n 2, 1) := by decide +kernel
theorem dX7_needs_34 : decode cX7_needs 34 = .ok (.invokevirtual 124, 3) := by decide +kernel
theorem dX7_needs_37 : decode cX7_needs 37 = .ok (.goto 9, 3) := by decide +kernel
theorem dX7_needs_40 : decode cX7_needs 40 = .ok (.aload_n 0, 1) := by decide +kernel
theorem dX7_needs_41 : decode cX7_needs 41 = .ok (.iload_n 2, 1) := by decide +kernel
theorem dX7_needs_42 : decode cX7_needs 42 = .ok (.iload_n 1, 1) := by decide +kernel
theorem dX7_needs_43 : decode cX7_needs 43 = .ok (.invokevirtual 124, 3) := by decide +kernel
theorem dX7_needs_46 : decode cX7_needs 46 = .ok (.ireturn, 1) := by decide +kernel
theorem dX7_sizeOf_0 : decode cX7_sizeOf 0 = .ok (.aload_n 0, 1) := by decide +kernel
theorem dX7_sizeOf_1 : decode cX7_sizeOf 1 = .ok (.getfield 13, 3) := by decide +kernel
theorem dX7_sizeOf_4 : decode cX7_sizeOf 4 = .ok (.iload_n 1, 1) := by decide +kernel
theorem dX7_sizeOf_5 : decode cX7_sizeOf 5 = .ok (.iaload, 1) := by decide +kernel
theorem dX7_sizeOf_6 : decode cX7_sizeOf 6 = .ok (.iconst 1, 1) := by decide +kernel
theorem dX7_sizeOf_7 : decode cX7_sizeOf 7 = .ok (.iadd, 1) := by decide +kernel
theorem dX7_sizeOf_8 : decode cX7_sizeOf 8 = .ok (.ireturn, 1) := by decide +kernel
theorem dX7_levelOf_0 : decode cX7_levelOf 0 = .ok (.iconst 0, 1) := by decide +kernel
theorem dX7_levelOf_1 : decode cX7_levelOf 1 = .ok (.istore_n 2, 1) := by decide +kernel
theorem dX7_levelOf_2 : decode cX7_levelOf 2 = .ok (.iload_n 2, 1) := by decide +kernel
theorem dX7_levelOf_3 : decode cX7_levelOf 3 = .ok (.iload_n 1, 1) := by decide +kernel
theorem dX7_levelOf_4 : decode cX7_levelOf 4 = .ok (.if_icmp .gt 77, 3) := by decide +kernel
theorem dX7_levelOf_7 : decode cX7_levelOf 7 = .ok (.aload_n 0, 1) := by decide +kernel
theorem dX7_levelOf_8 : decode cX7_levelOf 8 = .ok (.getfield 37, 3) := by decide +kernel
theorem dX7_levelOf_11 : decode cX7_levelOf 11 = .ok (.iload_n 2, 1) := by decide +kernel
theorem dX7_levelOf_12 : decode cX7_levelOf 12 = .ok (.iconst 0, 1) := by decide +kernel
theorem dX7_levelOf_13 : decode cX7_levelOf 13 = .ok (.iastore, 1) := by decide +kernel
theorem dX7_levelOf_14 : decode cX7_levelOf 14 = .ok (.iconst 0, 1) := by decide +kernel
theorem dX7_levelOf_15 : decode cX7_levelOf 15 = .ok (.istore_n 3, 1) := by decide +kernel
theorem dX7_levelOf_16 : decode cX7_levelOf 16 = .ok (.iload_n 3, 1) := by decide +kernel
theorem dX7_levelOf_17 : decode cX7_levelOf 17 = .ok (.iload_n 2, 1) := by decide +kernel
theorem dX7_levelOf_18 : decode cX7_levelOf 18 = .ok (.if_icmp .ge 57, 3) := by decide +kernel
theorem dX7_levelOf_21 : decode cX7_levelOf 21 = .ok (.aload_n 0, 1) := by decide +kernel
theorem dX7_levelOf_22 : decode cX7_levelOf 22 = .ok (.getfield 37, 3) := by decide +kernel
theorem dX7_levelOf_25 : decode cX7_levelOf 25 = .ok (.iload_n 2, 1) := by decide +kernel
theorem dX7_levelOf_26 : decode cX7_levelOf 26 = .ok (.aload_n 0, 1) := by decide +kernel
theorem dX7_levelOf_27 : decode cX7_levelOf 27 = .ok (.iload_n 3, 1) := by decide +kernel
theorem dX7_levelOf_28 : decode cX7_levelOf 28 = .ok (.iload_n 2, 1) := by decide +kernel
theorem dX7_levelOf_29 : decode cX7_levelOf 29 = .ok (.invokevirtual 124, 3) := by decide +kernel
theorem dX7_levelOf_32 : decode cX7_levelOf 32 = .ok (.iconst 1, 1) := by decide +kernel
theorem dX7_levelOf_33 : decode cX7_levelOf 33 = .ok (.if_icmp .le 29, 3) := by decide +kernel
theorem dX7_levelOf_36 : decode cX7_levelOf 36 = .ok (.aload_n 0, 1) := by decide +kernel
theorem dX7_levelOf_37 : decode cX7_levelOf 37 = .ok (.getfield 37, 3) := by decide +kernel
theorem dX7_levelOf_40 : decode cX7_levelOf 40 = .ok (.iload_n 3, 1) := by decide +kernel
theorem dX7_levelOf_41 : decode cX7_levelOf 41 = .ok (.iaload, 1) := by decide +kernel
theorem dX7_levelOf_42 : decode cX7_levelOf 42 = .ok (.aload_n 0, 1) := by decide +kernel
theorem dX7_levelOf_43 : decode cX7_levelOf 43 = .ok (.getfield 37, 3) := by decide +kernel
theorem dX7_levelOf_46 : decode cX7_levelOf 46 = .ok (.iload_n 2, 1) := by decide +kernel
theorem dX7_levelOf_47 : decode cX7_levelOf 47 = .ok (.iaload, 1) := by decide +kernel
theorem dX7_levelOf_48 : decode cX7_levelOf 48 = .ok (.if_icmp .lt 14, 3) := by decide +kernel
theorem dX7_levelOf_51 : decode cX7_levelOf 51 = .ok (.aload_n 0, 1) := by decide +kernel
theorem dX7_levelOf_52 : decode cX7_levelOf 52 = .ok (.getfield 37, 3) := by decide +kernel
theorem dX7_levelOf_55 : decode cX7_levelOf 55 = .ok (.iload_n 3, 1) := by decide +kernel
theorem dX7_levelOf_56 : decode cX7_levelOf 56 = .ok (.iaload, 1) := by decide +kernel
theorem dX7_levelOf_57 : decode cX7_levelOf 57 = .ok (.iconst 1, 1) := by decide +kernel
theorem dX7_levelOf_58 : decode cX7_levelOf 58 = .ok (.iadd, 1) := by decide +kernel
theorem dX7_levelOf_59 : decode cX7_levelOf 59 = .ok (.goto 9, 3) := by decide +kernel
theorem dX7_levelOf_62 : decode cX7_levelOf 62 = .ok (.aload_n 0, 1) := by decide +kernel
theorem dX7_levelOf_63 : decode cX7_levelOf 63 = .ok (.getfield 37, 3) := by decide +kernel
theorem dX7_levelOf_66 : decode cX7_levelOf 66 = .ok (.iload_n 2, 1) := by decide +kernel
theorem dX7_levelOf_67 : decode cX7_levelOf 67 = .ok (.iaload, 1) := by decide +kernel
theorem dX7_levelOf_68 : decode cX7_levelOf 68 = .ok (.iastore, 1) := by decide +kernel
theorem dX7_levelOf_69 : decode cX7_levelOf 69 = .ok (.iinc 3 1, 3) := by decide +kernel
theorem dX7_levelOf_72 : decode cX7_levelOf 72 = .ok (.goto (-56), 3) := by decide +kernel
theorem dX7_levelOf_75 : decode cX7_levelOf 75 = .ok (.iinc 2 1, 3) := by decide +kernel
theorem dX7_levelOf_78 : decode cX7_levelOf 78 = .ok (.goto (-76), 3) := by decide +kernel
theorem dX7_levelOf_81 : decode cX7_levelOf 81 = .ok (.aload_n 0, 1) := by decide +kernel
theorem dX7_levelOf_82 : decode cX7_levelOf 82 = .ok (.getfield 37, 3) := by decide +kernel
theorem dX7_levelOf_85 : decode cX7_levelOf 85 = .ok (.iload_n 1, 1) := by decide +kernel
theorem dX7_levelOf_86 : decode cX7_levelOf 86 = .ok (.iaload, 1) := by decide +kernel
theorem dX7_levelOf_87 : decode cX7_levelOf 87 = .ok (.ireturn, 1) := by decide +kernel
theorem dX7_pack_0 : decode cX7_pack 0 = .ok (.iconst 0, 1) := by decide +kernel
theorem dX7_pack_1 : decode cX7_pack 1 = .ok (.istore_n 1, 1) := by decide +kernel
theorem dX7_pack_2 : decode cX7_pack 2 = .ok (.iload_n 1, 1) := by decide +kernel
theorem dX7_pack_3 : decode cX7_pack 3 = .ok (.bipush 8, 2) := by decide +kernel
theorem dX7_pack_5 : decode cX7_pack 5 = .ok (.if_icmp .ge 23, 3) := by decide +kernel
theorem dX7_pack_8 : decode cX7_pack 8 = .ok (.aload_n 0, 1) := by decide +kernel
theorem dX7_pack_9 : decode cX7_pack 9 = .ok (.getfield 43, 3) := by decide +kernel
theorem dX7_pack_12 : decode cX7_pack 12 = .ok (.iload_n 1, 1) := by decide +kernel
theorem dX7_pack_13 : decode cX7_pack 13 = .ok (.iconst 0, 1) := by decide +kernel
theorem dX7_pack_14 : decode cX7_pack 14 = .ok (.iastore, 1) := by decide +kernel
theorem dX7_pack_15 : decode cX7_pack 15 = .ok (.aload_n 0, 1) := by decide +kernel
theorem dX7_pack_16 : decode cX7_pack 16 = .ok (.getfield 46, 3) := by decide +kernel
theorem dX7_pack_19 : decode cX7_pack 19 = .ok (.iload_n 1, 1) := by decide +kernel
theorem dX7_pack_20 : decode cX7_pack 20 = .ok (.iconst 0, 1) := by decide +kernel
theorem dX7_pack_21 : decode cX7_pack 21 = .ok (.iastore, 1) := by decide +kernel
theorem dX7_pack_22 : decode cX7_pack 22 = .ok (.iinc 1 1, 3) := by decide +kernel
theorem dX7_pack_25 : decode cX7_pack 25 = .ok (.goto (-23), 3) := by decide +kernel
theorem dX7_pack_28 : decode cX7_pack 28 = .ok (.iconst 0, 1) := by decide +kernel
theorem dX7_pack_29 : decode cX7_pack 29 = .ok (.istore_n 1, 1) := by decide +kernel
theorem dX7_pack_30 : decode cX7_pack 30 = .ok (.iload_n 1, 1) := by decide +kernel
theorem dX7_pack_31 : decode cX7_pack 31 = .ok (.aload_n 0, 1) := by decide +kernel
theorem dX7_pack_32 : decode cX7_pack 32 = .ok (.getfield 71, 3) := by decide +kernel
theorem dX7_pack_35 : decode cX7_pack 35 = .ok (.if_icmp .ge 175, 3) := by decide +kernel
theorem dX7_pack_38 : decode cX7_pack 38 = .ok (.iconst 0, 1) := by decide +kernel
theorem dX7_pack_39 : decode cX7_pack 39 = .ok (.istore_n 2, 1) := by decide +kernel
theorem dX7_pack_40 : decode cX7_pack 40 = .ok (.iconst 0, 1) := by decide +kernel
theorem dX7_pack_41 : decode cX7_pack 41 = .ok (.istore_n 3, 1) := by decide +kernel
theorem dX7_pack_42 : decode cX7_pack 42 = .ok (.iload_n 3, 1) := by decide +kernel
theorem dX7_pack_43 : decode cX7_pack 43 = .ok (.iload_n 1, 1) := by decide +kernel
theorem dX7_pack_44 : decode cX7_pack 44 = .ok (.if_icmp .ge 65, 3) := by decide +kernel
theorem dX7_pack_47 : decode cX7_pack 47 = .ok (.aload_n 0, 1) := by decide +kernel
theorem dX7_pack_48 : decode cX7_pack 48 = .ok (.iload_n 3, 1) := by decide +kernel
theorem dX7_pack_49 : decode cX7_pack 49 = .ok (.iload_n 1, 1) := by decide +kernel
theorem dX7_pack_50 : decode cX7_pack 50 = .ok (.invokevirtual 124, 3) := by decide +kernel
theorem dX7_pack_53 : decode cX7_pack 53 = .ok (.istore 4, 2) := by decide +kernel
theorem dX7_pack_55 : decode cX7_pack 55 = .ok (.iload 4, 2) := by decide +kernel
theorem dX7_pack_57 : decode cX7_pack 57 = .ok (.iconst 1, 1) := by decide +kernel
theorem dX7_pack_58 : decode cX7_pack 58 = .ok (.if_icmp .le 14, 3) := by decide +kernel
theorem dX7_pack_61 : decode cX7_pack 61 = .ok (.aload_n 0, 1) := by decide +kernel
theorem dX7_pack_62 : decode cX7_pack 62 = .ok (.getfield 40, 3) := by decide +kernel
theorem dX7_pack_65 : decode cX7_pack 65 = .ok (.iload_n 3, 1) := by decide +kernel
theorem dX7_pack_66 : decode cX7_pack 66 = .ok (.iaload, 1) := by decide +kernel
theorem dX7_pack_67 : decode cX7_pack 67 = .ok (.iconst 1, 1) := by decide +kernel
theorem dX7_pack_68 : decode cX7_pack 68 = .ok (.iadd, 1) := by decide +kernel
theorem dX7_pack_69 : decode cX7_pack 69 = .ok (.goto 19, 3) := by decide +kernel
theorem dX7_pack_72 : decode cX7_pack 72 = .ok (.iload 4, 2) := by decide +kernel
theorem dX7_pack_74 : decode cX7_pack 74 = .ok (.iconst 1, 1) := by decide +kernel
theorem dX7_pack_75 : decode cX7_pack 75 = .ok (.if_icmp .ne 12, 3) := by decide +kernel
theorem dX7_pack_78 : decode cX7_pack 78 = .ok (.aload_n 0, 1) := by decide +kernel
theorem dX7_pack_79 : decode cX7_pack 79 = .ok (.getfield 40, 3) := by decide +kernel
theorem dX7_pack_82 : decode cX7_pack 82 = .ok (.iload_n 3, 1) := by decide +kernel
theorem dX7_pack_83 : decode cX7_pack 83 = .ok (.iaload, 1) := by decide +kernel
theorem dX7_pack_84 : decode cX7_pack 84 = .ok (.goto 4, 3) := by decide +kernel
theorem dX7_pack_87 : decode cX7_pack 87 = .ok (.iconst 0, 1) := by decide +kernel
theorem dX7_pack_88 : decode cX7_pack 88 = .ok (.istore 5, 2) := by decide +kernel
theorem dX7_pack_90 : decode cX7_pack 90 = .ok (.iload 5, 2) := by decide +kernel
theorem dX7_pack_92 : decode cX7_pack 92 = .ok (.iload_n 2, 1) := by decide +kernel
theorem dX7_pack_93 : decode cX7_pack 93 = .ok (.if_icmp .le 8, 3) := by decide +kernel
theorem dX7_pack_96 : decode cX7_pack 96 = .ok (.iload 5, 2) := by decide +kernel
theorem dX7_pack_98 : decode cX7_pack 98 = .ok (.goto 4, 3) := by decide +kernel
theorem dX7_pack_101 : decode cX7_pack 101 = .ok (.iload_n 2, 1) := by decide +kernel
theorem dX7_pack_102 : decode cX7_pack 102 = .ok (.istore_n 2, 1) := by decide +kernel
theorem dX7_pack_103 : decode cX7_pack 103 = .ok (.iinc 3 1, 3) := by decide +kernel
theorem dX7_pack_106 : decode cX7_pack 106 = .ok (.goto (-64), 3) := by decide +kernel
theorem dX7_pack_109 : decode cX7_pack 109 = .ok (.iload_n 2, 1) := by decide +kernel
theorem dX7_pack_110 : decode cX7_pack 110 = .ok (.aload_n 0, 1) := by decide +kernel
theorem dX7_pack_111 : decode cX7_pack 111 = .ok (.getfield 34, 3) := by decide +kernel
theorem dX7_pack_114 : decode cX7_pack 114 = .ok (.iconst 2, 1) := by decide +kernel
theorem dX7_pack_115 : decode cX7_pack 115 = .ok (.iaload, 1) := by decide +kernel
theorem dX7_pack_116 : decode cX7_pack 116 = .ok (.if_icmp .ge 45, 3) := by decide +kernel
theorem dX7_pack_119 : decode cX7_pack 119 = .ok (.aload_n 0, 1) := by decide +kernel
theorem dX7_pack_120 : decode cX7_pack 120 = .ok (.getfield 43, 3) := by decide +kernel
theorem dX7_pack_123 : decode cX7_pack 123 = .ok (.iload_n 2, 1) := by decide +kernel
theorem dX7_pack_124 : decode cX7_pack 124 = .ok (.iaload, 1) := by decide +kernel
theorem dX7_pack_125 : decode cX7_pack 125 = .ok (.aload_n 0, 1) := by decide +kernel
theorem dX7_pack_126 : decode cX7_pack 126 = .ok (.getfield 34, 3) := by decide +kernel
theorem dX7_pack_129 : decode cX7_pack 129 = .ok (.iconst 1, 1) := by decide +kernel
theorem dX7_pack_130 : decode cX7_pack 130 = .ok (.iaload, 1) := by decide +kernel
theorem dX7_pack_131 : decode cX7_pack 131 = .ok (.if_icmp .eq 24, 3) := by decide +kernel
theorem dX7_pack_134 : decode cX7_pack 134 = .ok (.aload_n 0, 1) := by decide +kernel
theorem dX7_pack_135 : decode cX7_pack 135 = .ok (.getfield 46, 3) := by decide +kernel
theorem dX7_pack_138 : decode cX7_pack 138 = .ok (.iload_n 2, 1) := by decide +kernel
theorem dX7_pack_139 : decode cX7_pack 139 = .ok (.iaload, 1) := by decide +kernel
theorem dX7_pack_140 : decode cX7_pack 140 = .ok (.aload_n 0, 1) := by decide +kernel
theorem dX7_pack_141 : decode cX7_pack 141 = .ok (.iload_n 1, 1) := by decide +kernel
theorem dX7_pack_142 : decode cX7_pack 142 = .ok (.invokevirtual 127, 3) := by decide +kernel
theorem dX7_pack_145 : decode cX7_pack 145 = .ok (.iadd, 1) := by decide +kernel
theorem dX7_pack_146 : decode cX7_pack 146 = .ok (.aload_n 0, 1) := by decide +kernel
theorem dX7_pack_147 : decode cX7_pack 147 = .ok (.getfield 34, 3) := by decide +kernel
theorem dX7_pack_150 : decode cX7_pack 150 = .ok (.iconst 0, 1) := by decide +kernel
theorem dX7_pack_151 : decode cX7_pack 151 = .ok (.iaload, 1) := by decide +kernel
theorem dX7_pack_152 : decode cX7_pack 152 = .ok (.if_icmp .le 9, 3) := by decide +kernel
theorem dX7_pack_155 : decode cX7_pack 155 = .ok (.iinc 2 1, 3) := by decide +kernel
theorem dX7_pack_158 : decode cX7_pack 158 = .ok (.goto (-49), 3) := by decide +kernel
theorem dX7_pack_161 : decode cX7_pack 161 = .ok (.iload_n 2, 1) := by decide +kernel
theorem dX7_pack_162 : decode cX7_pack 162 = .ok (.aload_n 0, 1) := by decide +kernel
theorem dX7_pack_163 : decode cX7_pack 163 = .ok (.getfield 34, 3) := by decide +kernel
theorem dX7_pack_166 : decode cX7_pack 166 = .ok (.iconst 2, 1) := by decide +kernel
theorem dX7_pack_167 : decode cX7_pack 167 = .ok (.iaload, 1) := by decide +kernel
theorem dX7_pack_168 : decode cX7_pack 168 = .ok (.if_icmp .lt 5, 3) := by decide +kernel
theorem dX7_pack_171 : decode cX7_pack 171 = .ok (.iconst 0, 1) := by decide +kernel
theorem dX7_pack_172 : decode cX7_pack 172 = .ok (.ireturn, 1) := by decide +kernel
theorem dX7_pack_173 : decode cX7_pack 173 = .ok (.aload_n 0, 1) := by decide +kernel
theorem dX7_pack_174 : decode cX7_pack 174 = .ok (.getfield 40, 3) := by decide +kernel
theorem dX7_pack_177 : decode cX7_pack 177 = .ok (.iload_n 1, 1) := by decide +kernel
theorem dX7_pack_178 : decode cX7_pack 178 = .ok (.iload_n 2, 1) := by decide +kernel
theorem dX7_pack_179 : decode cX7_pack 179 = .ok (.iastore, 1) := by decide +kernel
theorem dX7_pack_180 : decode cX7_pack 180 = .ok (.aload_n 0, 1) := by decide +kernel
theorem dX7_pack_181 : decode cX7_pack 181 = .ok (.getfield 43, 3) := by decide +kernel
theorem dX7_pack_184 : decode cX7_pack 184 = .ok (.iload_n 2, 1) := by decide +kernel
theorem dX7_pack_185 : decode cX7_pack 185 = .ok (.dup2, 1) := by decide +kernel
theorem dX7_pack_186 : decode cX7_pack 186 = .ok (.iaload, 1) := by decide +kernel
theorem dX7_pack_187 : decode cX7_pack 187 = .ok (.iconst 1, 1) := by decide +kernel
theorem dX7_pack_188 : decode cX7_pack 188 = .ok (.iadd, 1) := by decide +kernel
theorem dX7_pack_189 : decode cX7_pack 189 = .ok (.iastore, 1) := by decide +kernel
theorem dX7_pack_190 : decode cX7_pack 190 = .ok (.aload_n 0, 1) := by decide +kernel
theorem dX7_pack_191 : decode cX7_pack 191 = .ok (.getfield 46, 3) := by decide +kernel
theorem dX7_pack_194 : decode cX7_pack 194 = .ok (.iload_n 2, 1) := by decide +kernel
theorem dX7_pack_195 : decode cX7_pack 195 = .ok (.dup2, 1) := by decide +kernel
theorem dX7_pack_196 : decode cX7_pack 196 = .ok (.iaload, 1) := by decide +kernel
theorem dX7_pack_197 : decode cX7_pack 197 = .ok (.aload_n 0, 1) := by decide +kernel
theorem dX7_pack_198 : decode cX7_pack 198 = .ok (.iload_n 1, 1) := by decide +kernel
theorem dX7_pack_199 : decode cX7_pack 199 = .ok (.invokevirtual 127, 3) := by decide +kernel
theorem dX7_pack_202 : decode cX7_pack 202 = .ok (.iadd, 1) := by decide +kernel
theorem dX7_pack_203 : decode cX7_pack 203 = .ok (.iastore, 1) := by decide +kernel
theorem dX7_pack_204 : decode cX7_pack 204 = .ok (.iinc 1 1, 3) := by decide +kernel
theorem dX7_pack_207 : decode cX7_pack 207 = .ok (.goto (-177), 3) := by decide +kernel
theorem dX7_pack_210 : decode cX7_pack 210 = .ok (.iconst 1, 1) := by decide +kernel
theorem dX7_pack_211 : decode cX7_pack 211 = .ok (.ireturn, 1) := by decide +kernel
theorem dX7_part_0 : decode cX7_part 0 = .ok (.iload_n 2, 1) := by decide +kernel
theorem dX7_part_1 : decode cX7_part 1 = .ok (.bipush 30, 2) := by decide +kernel
theorem dX7_part_3 : decode cX7_part 3 = .ok (.if_icmp .le 7, 3) := by decide +kernel
theorem dX7_part_6 : decode cX7_part 6 = .ok (.iconst 4, 1) := by decide +kernel
theorem dX7_part_7 : decode cX7_part 7 = .ok (.goto 9, 3) := by decide +kernel
theorem dX7_part_10 : decode cX7_part 10 = .ok (.iload_n 2, 1) := by decide +kernel
theorem dX7_part_11 : decode cX7_part 11 = .ok (.bipush 10, 2) := by decide +kernel
theorem dX7_part_13 : decode cX7_part 13 = .ok (.isub, 1) := by decide +kernel
theorem dX7_part_14 : decode cX7_part 14 = .ok (.iconst 4, 1) := by decide +kernel
theorem dX7_part_15 : decode cX7_part 15 = .ok (.idiv, 1) := by decide +kernel
theorem dX7_part_16 : decode cX7_part 16 = .ok (.istore_n 3, 1) := by decide +kernel
theorem dX7_part_17 : decode cX7_part 17 = .ok (.iconst 5, 1) := by decide +kernel
theorem dX7_part_18 : decode cX7_part 18 = .ok (.iload_n 1, 1) := by decide +kernel
theorem dX7_part_19 : decode cX7_part 19 = .ok (.imul, 1) := by decide +kernel
theorem dX7_part_20 : decode cX7_part 20 = .ok (.iload_n 3, 1) := by decide +kernel
theorem dX7_part_21 : decode cX7_part 21 = .ok (.iadd, 1) := by decide +kernel
theorem dX7_part_22 : decode cX7_part 22 = .ok (.istore 4, 2) := by decide +kernel
theorem dX7_part_24 : decode cX7_part 24 = .ok (.iload_n 2, 1) := by decide +kernel
theorem dX7_part_25 : decode cX7_part 25 = .ok (.bipush 30, 2) := by decide +kernel
theorem dX7_part_27 : decode cX7_part 27 = .ok (.if_icmp .le 10, 3) := by decide +kernel
theorem dX7_part_30 : decode cX7_part 30 = .ok (.iload_n 2, 1) := by decide +kernel
theorem dX7_part_31 : decode cX7_part 31 = .ok (.bipush 30, 2) := by decide +kernel
theorem dX7_part_33 : decode cX7_part 33 = .ok (.isub, 1) := by decide +kernel
theorem dX7_part_34 : decode cX7_part 34 = .ok (.goto 9, 3) := by decide +kernel
theorem dX7_part_37 : decode cX7_part 37 = .ok (.iload_n 2, 1) := by decide +kernel
theorem dX7_part_38 : decode cX7_part 38 = .ok (.bipush 10, 2) := by decide +kernel
theorem dX7_part_40 : decode cX7_part 40 = .ok (.isub, 1) := by decide +kernel
theorem dX7_part_41 : decode cX7_part 41 = .ok (.iconst 4, 1) := by decide +kernel
theorem dX7_part_42 : decode cX7_part 42 = .ok (.irem, 1) := by decide +kernel
theorem dX7_part_43 : decode cX7_part 43 = .ok (.istore 5, 2) := by decide +kernel
theorem dX7_part_45 : decode cX7_part 45 = .ok (.iload_n 2, 1) := by decide +kernel
theorem dX7_part_46 : decode cX7_part 46 = .ok (.bipush 31, 2) := by decide +kernel
theorem dX7_part_48 : decode cX7_part 48 = .ok (.if_icmp .ge 16, 3) := by decide +kernel
theorem dX7_part_51 : decode cX7_part 51 = .ok (.iload_n 3, 1) := by decide +kernel
theorem dX7_part_52 : decode cX7_part 52 = .ok (.aload_n 0, 1) := by decide +kernel
theorem dX7_part_53 : decode cX7_part 53 = .ok (.getfield 13, 3) := by decide +kernel
theorem dX7_part_56 : decode cX7_part 56 = .ok (.iload_n 1, 1) := by decide +kernel
theorem dX7_part_57 : decode cX7_part 57 = .ok (.iaload, 1) := by decide +kernel
theorem dX7_part_58 : decode cX7_part 58 = .ok (.if_icmp .lt 6, 3) := by decide +kernel
theorem dX7_part_61 : decode cX7_part 61 = .ok (.bipush (-2), 2) := by decide +kernel
theorem dX7_part_63 : decode cX7_part 63 = .ok (.ireturn, 1) := by decide +kernel
theorem dX7_part_64 : decode cX7_part 64 = .ok (.iload 5, 2) := by decide +kernel
theorem dX7_part_66 : decode cX7_part 66 = .ok (.ifCond .ne 13, 3) := by decide +kernel
theorem dX7_part_69 : decode cX7_part 69 = .ok (.aload_n 0, 1) := by decide +kernel
theorem dX7_part_70 : decode cX7_part 70 = .ok (.getfield 16, 3) := by decide +kernel
theorem dX7_part_73 : decode cX7_part 73 = .ok (.iload 4, 2) := by decide +kernel
theorem dX7_part_75 : decode cX7_part 75 = .ok (.iaload, 1) := by decide +kernel
theorem dX7_part_76 : decode cX7_part 76 = .ok (.goto 42, 3) := by decide +kernel
theorem dX7_part_79 : decode cX7_part 79 = .ok (.iload 5, 2) := by decide +kernel
theorem dX7_part_81 : decode cX7_part 81 = .ok (.iconst 1, 1) := by decide +kernel
theorem dX7_part_82 : decode cX7_part 82 = .ok (.if_icmp .ne 13, 3) := by decide +kernel
theorem dX7_part_85 : decode cX7_part 85 = .ok (.aload_n 0, 1) := by decide +kernel
theorem dX7_part_86 : decode cX7_part 86 = .ok (.getfield 19, 3) := by decide +kernel
theorem dX7_part_89 : decode cX7_part 89 = .ok (.iload 4, 2) := by decide +kernel
theorem dX7_part_91 : decode cX7_part 91 = .ok (.iaload, 1) := by decide +kernel
theorem dX7_part_92 : decode cX7_part 92 = .ok (.goto 26, 3) := by decide +kernel
theorem dX7_part_95 : decode cX7_part 95 = .ok (.iload 5, 2) := by decide +kernel
theorem dX7_part_97 : decode cX7_part 97 = .ok (.iconst 2, 1) := by decide +kernel
theorem dX7_part_98 : decode cX7_part 98 = .ok (.if_icmp .ne 13, 3) := by decide +kernel
theorem dX7_part_101 : decode cX7_part 101 = .ok (.aload_n 0, 1) := by decide +kernel
theorem dX7_part_102 : decode cX7_part 102 = .ok (.getfield 22, 3) := by decide +kernel
theorem dX7_part_105 : decode cX7_part 105 = .ok (.iload 4, 2) := by decide +kernel
theorem dX7_part_107 : decode cX7_part 107 = .ok (.iaload, 1) := by decide +kernel
theorem dX7_part_108 : decode cX7_part 108 = .ok (.goto 10, 3) := by decide +kernel
theorem dX7_part_111 : decode cX7_part 111 = .ok (.aload_n 0, 1) := by decide +kernel
theorem dX7_part_112 : decode cX7_part 112 = .ok (.getfield 25, 3) := by decide +kernel
theorem dX7_part_115 : decode cX7_part 115 = .ok (.iload 4, 2) := by decide +kernel
theorem dX7_part_117 : decode cX7_part 117 = .ok (.iaload, 1) := by decide +kernel
theorem dX7_part_118 : decode cX7_part 118 = .ok (.ireturn, 1) := by decide +kernel
theorem dX7_told_0 : decode cX7_told 0 = .ok (.aload_n 0, 1) := by decide +kernel
theorem dX7_told_1 : decode cX7_told 1 = .ok (.iload_n 1, 1) := by decide +kernel
theorem dX7_told_2 : decode cX7_told 2 = .ok (.invokevirtual 101, 3) := by decide +kernel
theorem dX7_told_5 : decode cX7_told 5 = .ok (.ifCond .ne 5, 3) := by decide +kernel
theorem dX7_told_8 : decode cX7_told 8 = .ok (.iconst (-1), 1) := by decide +kernel
theorem dX7_told_9 : decode cX7_told 9 = .ok (.ireturn, 1) := by decide +kernel
theorem dX7_told_10 : decode cX7_told 10 = .ok (.iload_n 2, 1) := by decide +kernel
theorem dX7_told_11 : decode cX7_told 11 = .ok (.bipush 10, 2) := by decide +kernel
theorem dX7_told_13 : decode cX7_told 13 = .ok (.bipush 25, 2) := by decide +kernel
theorem dX7_told_15 : decode cX7_told 15 = .ok (.invokestatic 75, 3) := by decide +kernel
theorem dX7_told_18 : decode cX7_told 18 = .ok (.ifCond .ne 14, 3) := by decide +kernel
theorem dX7_told_21 : decode cX7_told 21 = .ok (.iload_n 2, 1) := by decide +kernel
theorem dX7_told_22 : decode cX7_told 22 = .ok (.bipush 31, 2) := by decide +kernel
theorem dX7_told_24 : decode cX7_told 24 = .ok (.bipush 33, 2) := by decide +kernel
theorem dX7_told_26 : decode cX7_told 26 = .ok (.invokestatic 75, 3) := by decide +kernel
theorem dX7_told_29 : decode cX7_told 29 = .ok (.ifCond .eq 10, 3) := by decide +kernel
theorem dX7_told_32 : decode cX7_told 32 = .ok (.aload_n 0, 1) := by decide +kernel
theorem dX7_told_33 : decode cX7_told 33 = .ok (.iload_n 1, 1) := by decide +kernel
theorem dX7_told_34 : decode cX7_told 34 = .ok (.iload_n 2, 1) := by decide +kernel
theorem dX7_told_35 : decode cX7_told 35 = .ok (.invokevirtual 130, 3) := by decide +kernel
theorem dX7_told_38 : decode cX7_told 38 = .ok (.ireturn, 1) := by decide +kernel
theorem dX7_told_39 : decode cX7_told 39 = .ok (.iload_n 2, 1) := by decide +kernel
theorem dX7_told_40 : decode cX7_told 40 = .ok (.tableswitch 101 0 6 #[44, 51, 58, 64, 83, 89, 95], 44) := by decide +kernel
theorem dX7_told_84 : decode cX7_told 84 = .ok (.aload_n 0, 1) := by decide +kernel
theorem dX7_told_85 : decode cX7_told 85 = .ok (.getfield 7, 3) := by decide +kernel
theorem dX7_told_88 : decode cX7_told 88 = .ok (.iload_n 1, 1) := by decide +kernel
theorem dX7_told_89 : decode cX7_told 89 = .ok (.iaload, 1) := by decide +kernel
theorem dX7_told_90 : decode cX7_told 90 = .ok (.ireturn, 1) := by decide +kernel
theorem dX7_told_91 : decode cX7_told 91 = .ok (.aload_n 0, 1) := by decide +kernel
theorem dX7_told_92 : decode cX7_told 92 = .ok (.getfield 13, 3) := by decide +kernel
theorem dX7_told_95 : decode cX7_told 95 = .ok (.iload_n 1, 1) := by decide +kernel
theorem dX7_told_96 : decode cX7_told 96 = .ok (.iaload, 1) := by decide +kernel
theorem dX7_told_97 : decode cX7_told 97 = .ok (.ireturn, 1) := by decide +kernel
theorem dX7_told_98 : decode cX7_told 98 = .ok (.aload_n 0, 1) := by decide +kernel
theorem dX7_told_99 : decode cX7_told 99 = .ok (.iload_n 1, 1) := by decide +kernel
theorem dX7_told_100 : decode cX7_told 100 = .ok (.invokevirtual 133, 3) := by decide +kernel
theorem dX7_told_103 : decode cX7_told 103 = .ok (.ireturn, 1) := by decide +kernel
theorem dX7_told_104 : decode cX7_told 104 = .ok (.aload_n 0, 1) := by decide +kernel
theorem dX7_told_105 : decode cX7_told 105 = .ok (.invokevirtual 136, 3) := by decide +kernel
theorem dX7_told_108 : decode cX7_told 108 = .ok (.ifCond .eq 12, 3) := by decide +kernel
theorem dX7_told_111 : decode cX7_told 111 = .ok (.aload_n 0, 1) := by decide +kernel
theorem dX7_told_112 : decode cX7_told 112 = .ok (.getfield 40, 3) := by decide +kernel
theorem dX7_told_115 : decode cX7_told 115 = .ok (.iload_n 1, 1) := by decide +kernel
theorem dX7_told_116 : decode cX7_told 116 = .ok (.iaload, 1) := by decide +kernel
theorem dX7_told_117 : decode cX7_told 117 = .ok (.goto 5, 3) := by decide +kernel
theorem dX7_told_120 : decode cX7_told 120 = .ok (.bipush (-3), 2) := by decide +kernel
theorem dX7_told_122 : decode cX7_told 122 = .ok (.ireturn, 1) := by decide +kernel
theorem dX7_told_123 : decode cX7_told 123 = .ok (.aload_n 0, 1) := by decide +kernel
theorem dX7_told_124 : decode cX7_told 124 = .ok (.iload_n 1, 1) := by decide +kernel
theorem dX7_told_125 : decode cX7_told 125 = .ok (.invokevirtual 118, 3) := by decide +kernel
theorem dX7_told_128 : decode cX7_told 128 = .ok (.ireturn, 1) := by decide +kernel
theorem dX7_told_129 : decode cX7_told 129 = .ok (.aload_n 0, 1) := by decide +kernel
theorem dX7_told_130 : decode cX7_told 130 = .ok (.iload_n 1, 1) := by decide +kernel
theorem dX7_told_131 : decode cX7_told 131 = .ok (.invokevirtual 121, 3) := by decide +kernel
theorem dX7_told_134 : decode cX7_told 134 = .ok (.ireturn, 1) := by decide +kernel
theorem dX7_told_135 : decode cX7_told 135 = .ok (.aload_n 0, 1) := by decide +kernel
theorem dX7_told_136 : decode cX7_told 136 = .ok (.iload_n 1, 1) := by decide +kernel
theorem dX7_told_137 : decode cX7_told 137 = .ok (.invokevirtual 93, 3) := by decide +kernel
theorem dX7_told_140 : decode cX7_told 140 = .ok (.ireturn, 1) := by decide +kernel
theorem dX7_told_141 : decode cX7_told 141 = .ok (.bipush (-2), 2) := by decide +kernel
theorem dX7_told_143 : decode cX7_told 143 = .ok (.ireturn, 1) := by decide +kernel
theorem dX7_stages_0 : decode cX7_stages 0 = .ok (.aload_n 0, 1) := by decide +kernel
theorem dX7_stages_1 : decode cX7_stages 1 = .ok (.invokevirtual 136, 3) := by decide +kernel
theorem dX7_stages_4 : decode cX7_stages 4 = .ok (.ifCond .ne 6, 3) := by decide +kernel
theorem dX7_stages_7 : decode cX7_stages 7 = .ok (.bipush (-3), 2) := by decide +kernel
theorem dX7_stages_9 : decode cX7_stages 9 = .ok (.ireturn, 1) := by decide +kernel
theorem dX7_stages_10 : decode cX7_stages 10 = .ok (.iconst 0, 1) := by decide +kernel
theorem dX7_stages_11 : decode cX7_stages 11 = .ok (.istore_n 1, 1) := by decide +kernel
theorem dX7_stages_12 : decode cX7_stages 12 = .ok (.iconst 0, 1) := by decide +kernel
theorem dX7_stages_13 : decode cX7_stages 13 = .ok (.istore_n 2, 1) := by decide +kernel
theorem dX7_stages_14 : decode cX7_stages 14 = .ok (.iload_n 2, 1) := by decide +kernel
theorem dX7_stages_15 : decode cX7_stages 15 = .ok (.bipush 8, 2) := by decide +kernel
theorem dX7_stages_17 : decode cX7_stages 17 = .ok (.if_icmp .ge 26, 3) := by decide +kernel
theorem dX7_stages_20 : decode cX7_stages 20 = .ok (.iload_n 1, 1) := by decide +kernel
theorem dX7_stages_21 : decode cX7_stages 21 = .ok (.aload_n 0, 1) := by decide +kernel
theorem dX7_stages_22 : decode cX7_stages 22 = .ok (.getfield 43, 3) := by decide +kernel
theorem dX7_stages_25 : decode cX7_stages 25 = .ok (.iload_n 2, 1) := by decide +kernel
theorem dX7_stages_26 : decode cX7_stages 26 = .ok (.iaload, 1) := by decide +kernel
theorem dX7_stages_27 : decode cX7_stages 27 = .ok (.ifCond .le 7, 3) := by decide +kernel
theorem dX7_stages_30 : decode cX7_stages 30 = .ok (.iconst 1, 1) := by decide +kernel
theorem dX7_stages_31 : decode cX7_stages 31 = .ok (.goto 4, 3) := by decide +kernel
theorem dX7_stages_34 : decode cX7_stages 34 = .ok (.iconst 0, 1) := by decide +kernel
theorem dX7_stages_35 : decode cX7_stages 35 = .ok (.iadd, 1) := by decide +kernel
theorem dX7_stages_36 : decode cX7_stages 36 = .ok (.istore_n 1, 1) := by decide +kernel
theorem dX7_stages_37 : decode cX7_stages 37 = .ok (.iinc 2 1, 3) := by decide +kernel
theorem dX7_stages_40 : decode cX7_stages 40 = .ok (.goto (-26), 3) := by decide +kernel
theorem dX7_stages_43 : decode cX7_stages 43 = .ok (.iload_n 1, 1) := by decide +kernel
theorem dX7_stages_44 : decode cX7_stages 44 = .ok (.ireturn, 1) := by decide +kernel
theorem dX7_stage_0 : decode cX7_stage 0 = .ok (.iload_n 1, 1) := by decide +kernel
theorem dX7_stage_1 : decode cX7_stage 1 = .ok (.iconst 0, 1) := by decide +kernel
theorem dX7_stage_2 : decode cX7_stage 2 = .ok (.bipush 7, 2) := by decide +kernel
theorem dX7_stage_4 : decode cX7_stage 4 = .ok (.invokestatic 75, 3) := by decide +kernel
theorem dX7_stage_7 : decode cX7_stage 7 = .ok (.ifCond .eq 12, 3) := by decide +kernel
theorem dX7_stage_10 : decode cX7_stage 10 = .ok (.iload_n 2, 1) := by decide +kernel
theorem dX7_stage_11 : decode cX7_stage 11 = .ok (.iconst 0, 1) := by decide +kernel
theorem dX7_stage_12 : decode cX7_stage 12 = .ok (.iconst 1, 1) := by decide +kernel
theorem dX7_stage_13 : decode cX7_stage 13 = .ok (.invokestatic 75, 3) := by decide +kernel
theorem dX7_stage_16 : decode cX7_stage 16 = .ok (.ifCond .ne 6, 3) := by decide +kernel
theorem dX7_stage_19 : decode cX7_stage 19 = .ok (.bipush (-2), 2) := by decide +kernel
theorem dX7_stage_21 : decode cX7_stage 21 = .ok (.ireturn, 1) := by decide +kernel
theorem dX7_stage_22 : decode cX7_stage 22 = .ok (.aload_n 0, 1) := by decide +kernel
theorem dX7_stage_23 : decode cX7_stage 23 = .ok (.invokevirtual 136, 3) := by decide +kernel
theorem dX7_stage_26 : decode cX7_stage 26 = .ok (.ifCond .ne 6, 3) := by decide +kernel
theorem dX7_stage_29 : decode cX7_stage 29 = .ok (.bipush (-3), 2) := by decide +kernel
theorem dX7_stage_31 : decode cX7_stage 31 = .ok (.ireturn, 1) := by decide +kernel
theorem dX7_stage_32 : decode cX7_stage 32 = .ok (.iconst 0, 1) := by decide +kernel
theorem dX7_stage_33 : decode cX7_stage 33 = .ok (.istore_n 3, 1) := by decide +kernel
theorem dX7_stage_34 : decode cX7_stage 34 = .ok (.iconst 0, 1) := by decide +kernel
theorem dX7_stage_35 : decode cX7_stage 35 = .ok (.istore 4, 2) := by decide +kernel
theorem dX7_stage_37 : decode cX7_stage 37 = .ok (.iload 4, 2) := by decide +kernel
theorem dX7_stage_39 : decode cX7_stage 39 = .ok (.aload_n 0, 1) := by decide +kernel
theorem dX7_stage_40 : decode cX7_stage 40 = .ok (.getfield 71, 3) := by decide +kernel
theorem dX7_stage_43 : decode cX7_stage 43 = .ok (.if_icmp .ge 31, 3) := by decide +kernel
theorem dX7_stage_46 : decode cX7_stage 46 = .ok (.iload_n 3, 1) := by decide +kernel
theorem dX7_stage_47 : decode cX7_stage 47 = .ok (.aload_n 0, 1) := by decide +kernel
theorem dX7_stage_48 : decode cX7_stage 48 = .ok (.getfield 40, 3) := by decide +kernel
theorem dX7_stage_51 : decode cX7_stage 51 = .ok (.iload 4, 2) := by decide +kernel
theorem dX7_stage_53 : decode cX7_stage 53 = .ok (.iaload, 1) := by decide +kernel
theorem dX7_stage_54 : decode cX7_stage 54 = .ok (.iload_n 1, 1) := by decide +kernel
theorem dX7_stage_55 : decode cX7_stage 55 = .ok (.if_icmp .ne 10, 3) := by decide +kernel
theorem dX7_stage_58 : decode cX7_stage 58 = .ok (.iconst 1, 1) := by decide +kernel
theorem dX7_stage_59 : decode cX7_stage 59 = .ok (.iload 4, 2) := by decide +kernel
theorem dX7_stage_61 : decode cX7_stage 61 = .ok (.ishl, 1) := by decide +kernel
theorem dX7_stage_62 : decode cX7_stage 62 = .ok (.goto 4, 3) := by decide +kernel
theorem dX7_stage_65 : decode cX7_stage 65 = .ok (.iconst 0, 1) := by decide +kernel
theorem dX7_stage_66 : decode cX7_stage 66 = .ok (.ior, 1) := by decide +kernel
theorem dX7_stage_67 : decode cX7_stage 67 = .ok (.istore_n 3, 1) := by decide +kernel
theorem dX7_stage_68 : decode cX7_stage 68 = .ok (.iinc 4 1, 3) := by decide +kernel
theorem dX7_stage_71 : decode cX7_stage 71 = .ok (.goto (-34), 3) := by decide +kernel
theorem dX7_stage_74 : decode cX7_stage 74 = .ok (.iload_n 2, 1) := by decide +kernel
theorem dX7_stage_75 : decode cX7_stage 75 = .ok (.ifCond .ne 7, 3) := by decide +kernel
theorem dX7_stage_78 : decode cX7_stage 78 = .ok (.iload_n 3, 1) := by decide +kernel
theorem dX7_stage_79 : decode cX7_stage 79 = .ok (.goto 9, 3) := by decide +kernel
theorem dX7_stage_82 : decode cX7_stage 82 = .ok (.aload_n 0, 1) := by decide +kernel
theorem dX7_stage_83 : decode cX7_stage 83 = .ok (.getfield 46, 3) := by decide +kernel
theorem dX7_stage_86 : decode cX7_stage 86 = .ok (.iload_n 1, 1) := by decide +kernel
theorem dX7_stage_87 : decode cX7_stage 87 = .ok (.iaload, 1) := by decide +kernel
theorem dX7_stage_88 : decode cX7_stage 88 = .ok (.ireturn, 1) := by decide +kernel
theorem dX7_canFollow_0 : decode cX7_canFollow 0 = .ok (.iconst 0, 1) := by decide +kernel
theorem dX7_canFollow_1 : decode cX7_canFollow 1 = .ok (.istore_n 3, 1) := by decide +kernel
theorem dX7_canFollow_2 : decode cX7_canFollow 2 = .ok (.iload_n 2, 1) := by decide +kernel
theorem dX7_canFollow_3 : decode cX7_canFollow 3 = .ok (.invokestatic 140, 3) := by decide +kernel
theorem dX7_canFollow_6 : decode cX7_canFollow 6 = .ok (.aload_n 0, 1) := by decide +kernel
theorem dX7_canFollow_7 : decode cX7_canFollow 7 = .ok (.getfield 34, 3) := by decide +kernel
theorem dX7_canFollow_10 : decode cX7_canFollow 10 = .ok (.iconst 1, 1) := by decide +kernel
theorem dX7_canFollow_11 : decode cX7_canFollow 11 = .ok (.iaload, 1) := by decide +kernel
theorem dX7_canFollow_12 : decode cX7_canFollow 12 = .ok (.if_icmp .gt 7, 3) := by decide +kernel
theorem dX7_canFollow_15 : decode cX7_canFollow 15 = .ok (.iconst 1, 1) := by decide +kernel
theorem dX7_canFollow_16 : decode cX7_canFollow 16 = .ok (.goto 4, 3) := by decide +kernel
theorem dX7_canFollow_19 : decode cX7_canFollow 19 = .ok (.iconst 0, 1) := by decide +kernel
theorem dX7_canFollow_20 : decode cX7_canFollow 20 = .ok (.istore 4, 2) := by decide +kernel
theorem dX7_canFollow_22 : decode cX7_canFollow 22 = .ok (.iconst 0, 1) := by decide +kernel
theorem dX7_canFollow_23 : decode cX7_canFollow 23 = .ok (.istore 5, 2) := by decide +kernel
theorem dX7_canFollow_25 : decode cX7_canFollow 25 = .ok (.iload 5, 2) := by decide +kernel
theorem dX7_canFollow_27 : decode cX7_canFollow 27 = .ok (.aload_n 0, 1) := by decide +kernel
theorem dX7_canFollow_28 : decode cX7_canFollow 28 = .ok (.getfield 71, 3) := by decide +kernel
theorem dX7_canFollow_31 : decode cX7_canFollow 31 = .ok (.if_icmp .ge 69, 3) := by decide +kernel
theorem dX7_canFollow_34 : decode cX7_canFollow 34 = .ok (.iload_n 2, 1) := by decide +kernel
theorem dX7_canFollow_35 : decode cX7_canFollow 35 = .ok (.iload 5, 2) := by decide +kernel
theorem dX7_canFollow_37 : decode cX7_canFollow 37 = .ok (.invokestatic 97, 3) := by decide +kernel
theorem dX7_canFollow_40 : decode cX7_canFollow 40 = .ok (.ifCond .eq 54, 3) := by decide +kernel
theorem dX7_canFollow_43 : decode cX7_canFollow 43 = .ok (.iload_n 3, 1) := by decide +kernel
theorem dX7_canFollow_44 : decode cX7_canFollow 44 = .ok (.aload_n 0, 1) := by decide +kernel
theorem dX7_canFollow_45 : decode cX7_canFollow 45 = .ok (.iload 5, 2) := by decide +kernel
theorem dX7_canFollow_47 : decode cX7_canFollow 47 = .ok (.invokevirtual 127, 3) := by decide +kernel
theorem dX7_canFollow_50 : decode cX7_canFollow 50 = .ok (.iadd, 1) := by decide +kernel
theorem dX7_canFollow_51 : decode cX7_canFollow 51 = .ok (.istore_n 3, 1) := by decide +kernel
theorem dX7_canFollow_52 : decode cX7_canFollow 52 = .ok (.iload 4, 2) := by decide +kernel
theorem dX7_canFollow_54 : decode cX7_canFollow 54 = .ok (.ifCond .eq 37, 3) := by decide +kernel
theorem dX7_canFollow_57 : decode cX7_canFollow 57 = .ok (.aload_n 0, 1) := by decide +kernel
theorem dX7_canFollow_58 : decode cX7_canFollow 58 = .ok (.getfield 52, 3) := by decide +kernel
theorem dX7_canFollow_61 : decode cX7_canFollow 61 = .ok (.iload 5, 2) := by decide +kernel
theorem dX7_canFollow_63 : decode cX7_canFollow 63 = .ok (.iaload, 1) := by decide +kernel
theorem dX7_canFollow_64 : decode cX7_canFollow 64 = .ok (.iload_n 1, 1) := by decide +kernel
theorem dX7_canFollow_65 : decode cX7_canFollow 65 = .ok (.iconst (-1), 1) := by decide +kernel
theorem dX7_canFollow_66 : decode cX7_canFollow 66 = .ok (.ixor, 1) := by decide +kernel
theorem dX7_canFollow_67 : decode cX7_canFollow 67 = .ok (.iand, 1) := by decide +kernel
theorem dX7_canFollow_68 : decode cX7_canFollow 68 = .ok (.ifCond .ne 23, 3) := by decide +kernel
theorem dX7_canFollow_71 : decode cX7_canFollow 71 = .ok (.aload_n 0, 1) := by decide +kernel
theorem dX7_canFollow_72 : decode cX7_canFollow 72 = .ok (.getfield 55, 3) := by decide +kernel
theorem dX7_canFollow_75 : decode cX7_canFollow 75 = .ok (.iload 5, 2) := by decide +kernel
theorem dX7_canFollow_77 : decode cX7_canFollow 77 = .ok (.iaload, 1) := by decide +kernel
theorem dX7_canFollow_78 : decode cX7_canFollow 78 = .ok (.iload_n 1, 1) := by decide +kernel
theorem dX7_canFollow_79 : decode cX7_canFollow 79 = .ok (.iload_n 2, 1) := by decide +kernel
theorem dX7_canFollow_80 : decode cX7_canFollow 80 = .ok (.ior, 1) := by decide +kernel
theorem dX7_canFollow_81 : decode cX7_canFollow 81 = .ok (.iconst (-1), 1) := by decide +kernel
theorem dX7_canFollow_82 : decode cX7_canFollow 82 = .ok (.ixor, 1) := by decide +kernel
theorem dX7_canFollow_83 : decode cX7_canFollow 83 = .ok (.iand, 1) := by decide +kernel
theorem dX7_canFollow_84 : decode cX7_canFollow 84 = .ok (.ifCond .ne 7, 3) := by decide +kernel
theorem dX7_canFollow_87 : decode cX7_canFollow 87 = .ok (.iconst 1, 1) := by decide +kernel
theorem dX7_canFollow_88 : decode cX7_canFollow 88 = .ok (.goto 4, 3) := by decide +kernel
theorem dX7_canFollow_91 : decode cX7_canFollow 91 = .ok (.iconst 0, 1) := by decide +kernel
theorem dX7_canFollow_92 : decode cX7_canFollow 92 = .ok (.istore 4, 2) := by decide +kernel
theorem dX7_canFollow_94 : decode cX7_canFollow 94 = .ok (.iinc 5 1, 3) := by decide +kernel
theorem dX7_canFollow_97 : decode cX7_canFollow 97 = .ok (.goto (-72), 3) := by decide +kernel
theorem dX7_canFollow_100 : decode cX7_canFollow 100 = .ok (.iload 4, 2) := by decide +kernel
theorem dX7_canFollow_102 : decode cX7_canFollow 102 = .ok (.ifCond .eq 17, 3) := by decide +kernel
theorem dX7_canFollow_105 : decode cX7_canFollow 105 = .ok (.iload_n 3, 1) := by decide +kernel
theorem dX7_canFollow_106 : decode cX7_canFollow 106 = .ok (.aload_n 0, 1) := by decide +kernel
theorem dX7_canFollow_107 : decode cX7_canFollow 107 = .ok (.getfield 34, 3) := by decide +kernel
theorem dX7_canFollow_110 : decode cX7_canFollow 110 = .ok (.iconst 0, 1) := by decide +kernel
theorem dX7_canFollow_111 : decode cX7_canFollow 111 = .ok (.iaload, 1) := by decide +kernel
theorem dX7_canFollow_112 : decode cX7_canFollow 112 = .ok (.if_icmp .gt 7, 3) := by decide +kernel
theorem dX7_canFollow_115 : decode cX7_canFollow 115 = .ok (.iconst 1, 1) := by decide +kernel
theorem dX7_canFollow_116 : decode cX7_canFollow 116 = .ok (.goto 4, 3) := by decide +kernel
theorem dX7_canFollow_119 : decode cX7_canFollow 119 = .ok (.iconst 0, 1) := by decide +kernel
theorem dX7_canFollow_120 : decode cX7_canFollow 120 = .ok (.ireturn, 1) := by decide +kernel
theorem dX7_fewest_0 : decode cX7_fewest 0 = .ok (.iconst 0, 1) := by decide +kernel
theorem dX7_fewest_1 : decode cX7_fewest 1 = .ok (.istore_n 1, 1) := by decide +kernel
theorem dX7_fewest_2 : decode cX7_fewest 2 = .ok (.iload_n 1, 1) := by decide +kernel
theorem dX7_fewest_3 : decode cX7_fewest 3 = .ok (.aload_n 0, 1) := by decide +kernel
theorem dX7_fewest_4 : decode cX7_fewest 4 = .ok (.getfield 71, 3) := by decide +kernel
theorem dX7_fewest_7 : decode cX7_fewest 7 = .ok (.if_icmp .ge 85, 3) := by decide +kernel
theorem dX7_fewest_10 : decode cX7_fewest 10 = .ok (.aload_n 0, 1) := by decide +kernel
theorem dX7_fewest_11 : decode cX7_fewest 11 = .ok (.getfield 52, 3) := by decide +kernel
theorem dX7_fewest_14 : decode cX7_fewest 14 = .ok (.iload_n 1, 1) := by decide +kernel
theorem dX7_fewest_15 : decode cX7_fewest 15 = .ok (.iconst 0, 1) := by decide +kernel
theorem dX7_fewest_16 : decode cX7_fewest 16 = .ok (.iastore, 1) := by decide +kernel
theorem dX7_fewest_17 : decode cX7_fewest 17 = .ok (.aload_n 0, 1) := by decide +kernel
theorem dX7_fewest_18 : decode cX7_fewest 18 = .ok (.getfield 55, 3) := by decide +kernel
theorem dX7_fewest_21 : decode cX7_fewest 21 = .ok (.iload_n 1, 1) := by decide +kernel
theorem dX7_fewest_22 : decode cX7_fewest 22 = .ok (.iconst 0, 1) := by decide +kernel
theorem dX7_fewest_23 : decode cX7_fewest 23 = .ok (.iastore, 1) := by decide +kernel
theorem dX7_fewest_24 : decode cX7_fewest 24 = .ok (.iconst 0, 1) := by decide +kernel
theorem dX7_fewest_25 : decode cX7_fewest 25 = .ok (.istore_n 2, 1) := by decide +kernel
theorem dX7_fewest_26 : decode cX7_fewest 26 = .ok (.iload_n 2, 1) := by decide +kernel
theorem dX7_fewest_27 : decode cX7_fewest 27 = .ok (.iload_n 1, 1) := by decide +kernel
theorem dX7_fewest_28 : decode cX7_fewest 28 = .ok (.if_icmp .ge 58, 3) := by decide +kernel
theorem dX7_fewest_31 : decode cX7_fewest 31 = .ok (.aload_n 0, 1) := by decide +kernel
theorem dX7_fewest_32 : decode cX7_fewest 32 = .ok (.iload_n 2, 1) := by decide +kernel
theorem dX7_fewest_33 : decode cX7_fewest 33 = .ok (.iload_n 1, 1) := by decide +kernel
theorem dX7_fewest_34 : decode cX7_fewest 34 = .ok (.invokevirtual 124, 3) := by decide +kernel
theorem dX7_fewest_37 : decode cX7_fewest 37 = .ok (.istore_n 3, 1) := by decide +kernel
theorem dX7_fewest_38 : decode cX7_fewest 38 = .ok (.aload_n 0, 1) := by decide +kernel
theorem dX7_fewest_39 : decode cX7_fewest 39 = .ok (.getfield 52, 3) := by decide +kernel
theorem dX7_fewest_42 : decode cX7_fewest 42 = .ok (.iload_n 1, 1) := by decide +kernel
theorem dX7_fewest_43 : decode cX7_fewest 43 = .ok (.dup2, 1) := by decide +kernel
theorem dX7_fewest_44 : decode cX7_fewest 44 = .ok (.iaload, 1) := by decide +kernel
theorem dX7_fewest_45 : decode cX7_fewest 45 = .ok (.iload_n 3, 1) := by decide +kernel
theorem dX7_fewest_46 : decode cX7_fewest 46 = .ok (.iconst 1, 1) := by decide +kernel
theorem dX7_fewest_47 : decode cX7_fewest 47 = .ok (.if_icmp .le 9, 3) := by decide +kernel
theorem dX7_fewest_50 : decode cX7_fewest 50 = .ok (.iconst 1, 1) := by decide +kernel
theorem dX7_fewest_51 : decode cX7_fewest 51 = .ok (.iload_n 2, 1) := by decide +kernel
theorem dX7_fewest_52 : decode cX7_fewest 52 = .ok (.ishl, 1) := by decide +kernel
theorem dX7_fewest_53 : decode cX7_fewest 53 = .ok (.goto 4, 3) := by decide +kernel
theorem dX7_fewest_56 : decode cX7_fewest 56 = .ok (.iconst 0, 1) := by decide +kernel
theorem dX7_fewest_57 : decode cX7_fewest 57 = .ok (.ior, 1) := by decide +kernel
theorem dX7_fewest_58 : decode cX7_fewest 58 = .ok (.iastore, 1) := by decide +kernel
theorem dX7_fewest_59 : decode cX7_fewest 59 = .ok (.aload_n 0, 1) := by decide +kernel
theorem dX7_fewest_60 : decode cX7_fewest 60 = .ok (.getfield 55, 3) := by decide +kernel
theorem dX7_fewest_63 : decode cX7_fewest 63 = .ok (.iload_n 1, 1) := by decide +kernel
theorem dX7_fewest_64 : decode cX7_fewest 64 = .ok (.dup2, 1) := by decide +kernel
theorem dX7_fewest_65 : decode cX7_fewest 65 = .ok (.iaload, 1) := by decide +kernel
theorem dX7_fewest_66 : decode cX7_fewest 66 = .ok (.iload_n 3, 1) := by decide +kernel
theorem dX7_fewest_67 : decode cX7_fewest 67 = .ok (.iconst 1, 1) := by decide +kernel
theorem dX7_fewest_68 : decode cX7_fewest 68 = .ok (.if_icmp .ne 9, 3) := by decide +kernel
theorem dX7_fewest_71 : decode cX7_fewest 71 = .ok (.iconst 1, 1) := by decide +kernel
theorem dX7_fewest_72 : decode cX7_fewest 72 = .ok (.iload_n 2, 1) := by decide +kernel
theorem dX7_fewest_73 : decode cX7_fewest 73 = .ok (.ishl, 1) := by decide +kernel
theorem dX7_fewest_74 : decode cX7_fewest 74 = .ok (.goto 4, 3) := by decide +kernel
theorem dX7_fewest_77 : decode cX7_fewest 77 = .ok (.iconst 0, 1) := by decide +kernel
theorem dX7_fewest_78 : decode cX7_fewest 78 = .ok (.ior, 1) := by decide +kernel
theorem dX7_fewest_79 : decode cX7_fewest 79 = .ok (.iastore, 1) := by decide +kernel
theorem dX7_fewest_80 : decode cX7_fewest 80 = .ok (.iinc 2 1, 3) := by decide +kernel
theorem dX7_fewest_83 : decode cX7_fewest 83 = .ok (.goto (-57), 3) := by decide +kernel
theorem dX7_fewest_86 : decode cX7_fewest 86 = .ok (.iinc 1 1, 3) := by decide +kernel
theorem dX7_fewest_89 : decode cX7_fewest 89 = .ok (.goto (-87), 3) := by decide +kernel
theorem dX7_fewest_92 : decode cX7_fewest 92 = .ok (.iconst 1, 1) := by decide +kernel
theorem dX7_fewest_93 : decode cX7_fewest 93 = .ok (.aload_n 0, 1) := by decide +kernel
theorem dX7_fewest_94 : decode cX7_fewest 94 = .ok (.getfield 71, 3) := by decide +kernel
theorem dX7_fewest_97 : decode cX7_fewest 97 = .ok (.ishl, 1) := by decide +kernel
theorem dX7_fewest_98 : decode cX7_fewest 98 = .ok (.iconst 1, 1) := by decide +kernel
theorem dX7_fewest_99 : decode cX7_fewest 99 = .ok (.isub, 1) := by decide +kernel
theorem dX7_fewest_100 : decode cX7_fewest 100 = .ok (.istore_n 1, 1) := by decide +kernel
theorem dX7_fewest_101 : decode cX7_fewest 101 = .ok (.aload_n 0, 1) := by decide +kernel
theorem dX7_fewest_102 : decode cX7_fewest 102 = .ok (.getfield 49, 3) := by decide +kernel
theorem dX7_fewest_105 : decode cX7_fewest 105 = .ok (.iconst 0, 1) := by decide +kernel
theorem dX7_fewest_106 : decode cX7_fewest 106 = .ok (.iconst 0, 1) := by decide +kernel
theorem dX7_fewest_107 : decode cX7_fewest 107 = .ok (.iastore, 1) := by decide +kernel
theorem dX7_fewest_108 : decode cX7_fewest 108 = .ok (.iconst 1, 1) := by decide +kernel
theorem dX7_fewest_109 : decode cX7_fewest 109 = .ok (.istore_n 2, 1) := by decide +kernel
theorem dX7_fewest_110 : decode cX7_fewest 110 = .ok (.iload_n 2, 1) := by decide +kernel
theorem dX7_fewest_111 : decode cX7_fewest 111 = .ok (.iload_n 1, 1) := by decide +kernel
theorem dX7_fewest_112 : decode cX7_fewest 112 = .ok (.if_icmp .gt 101, 3) := by decide +kernel
theorem dX7_fewest_115 : decode cX7_fewest 115 = .ok (.aload_n 0, 1) := by decide +kernel
theorem dX7_fewest_116 : decode cX7_fewest 116 = .ok (.getfield 49, 3) := by decide +kernel
theorem dX7_fewest_119 : decode cX7_fewest 119 = .ok (.iload_n 2, 1) := by decide +kernel
theorem dX7_fewest_120 : decode cX7_fewest 120 = .ok (.bipush (-6), 2) := by decide +kernel
theorem dX7_fewest_122 : decode cX7_fewest 122 = .ok (.iastore, 1) := by decide +kernel
theorem dX7_fewest_123 : decode cX7_fewest 123 = .ok (.iload_n 2, 1) := by decide +kernel
theorem dX7_fewest_124 : decode cX7_fewest 124 = .ok (.istore_n 3, 1) := by decide +kernel
theorem dX7_fewest_125 : decode cX7_fewest 125 = .ok (.iload_n 3, 1) := by decide +kernel
theorem dX7_fewest_126 : decode cX7_fewest 126 = .ok (.ifCond .le 81, 3) := by decide +kernel
theorem dX7_fewest_129 : decode cX7_fewest 129 = .ok (.iload_n 2, 1) := by decide +kernel
theorem dX7_fewest_130 : decode cX7_fewest 130 = .ok (.iload_n 3, 1) := by decide +kernel
theorem dX7_fewest_131 : decode cX7_fewest 131 = .ok (.iconst (-1), 1) := by decide +kernel
theorem dX7_fewest_132 : decode cX7_fewest 132 = .ok (.ixor, 1) := by decide +kernel
theorem dX7_fewest_133 : decode cX7_fewest 133 = .ok (.iand, 1) := by decide +kernel
theorem dX7_fewest_134 : decode cX7_fewest 134 = .ok (.istore 4, 2) := by decide +kernel
theorem dX7_fewest_136 : decode cX7_fewest 136 = .ok (.aload_n 0, 1) := by decide +kernel
theorem dX7_fewest_137 : decode cX7_fewest 137 = .ok (.getfield 49, 3) := by decide +kernel
theorem dX7_fewest_140 : decode cX7_fewest 140 = .ok (.iload 4, 2) := by decide +kernel
theorem dX7_fewest_142 : decode cX7_fewest 142 = .ok (.iaload, 1) := by decide +kernel
theorem dX7_fewest_143 : decode cX7_fewest 143 = .ok (.ifCond .lt 55, 3) := by decide +kernel
theorem dX7_fewest_146 : decode cX7_fewest 146 = .ok (.aload_n 0, 1) := by decide +kernel
theorem dX7_fewest_147 : decode cX7_fewest 147 = .ok (.iload 4, 2) := by decide +kernel
theorem dX7_fewest_149 : decode cX7_fewest 149 = .ok (.iload_n 3, 1) := by decide +kernel
theorem dX7_fewest_150 : decode cX7_fewest 150 = .ok (.invokevirtual 143, 3) := by decide +kernel
theorem dX7_fewest_153 : decode cX7_fewest 153 = .ok (.ifCond .eq 45, 3) := by decide +kernel
theorem dX7_fewest_156 : decode cX7_fewest 156 = .ok (.aload_n 0, 1) := by decide +kernel
theorem dX7_fewest_157 : decode cX7_fewest 157 = .ok (.getfield 49, 3) := by decide +kernel
theorem dX7_fewest_160 : decode cX7_fewest 160 = .ok (.iload_n 2, 1) := by decide +kernel
theorem dX7_fewest_161 : decode cX7_fewest 161 = .ok (.iaload, 1) := by decide +kernel
theorem dX7_fewest_162 : decode cX7_fewest 162 = .ok (.ifCond .lt 21, 3) := by decide +kernel
theorem dX7_fewest_165 : decode cX7_fewest 165 = .ok (.aload_n 0, 1) := by decide +kernel
theorem dX7_fewest_166 : decode cX7_fewest 166 = .ok (.getfield 49, 3) := by decide +kernel
theorem dX7_fewest_169 : decode cX7_fewest 169 = .ok (.iload 4, 2) := by decide +kernel
theorem dX7_fewest_171 : decode cX7_fewest 171 = .ok (.iaload, 1) := by decide +kernel
theorem dX7_fewest_172 : decode cX7_fewest 172 = .ok (.iconst 1, 1) := by decide +kernel
theorem dX7_fewest_173 : decode cX7_fewest 173 = .ok (.iadd, 1) := by decide +kernel
theorem dX7_fewest_174 : decode cX7_fewest 174 = .ok (.aload_n 0, 1) := by decide +kernel
theorem dX7_fewest_175 : decode cX7_fewest 175 = .ok (.getfield 49, 3) := by decide +kernel
theorem dX7_fewest_178 : decode cX7_fewest 178 = .ok (.iload_n 2, 1) := by decide +kernel
theorem dX7_fewest_179 : decode cX7_fewest 179 = .ok (.iaload, 1) := by decide +kernel
theorem dX7_fewest_180 : decode cX7_fewest 180 = .ok (.if_icmp .ge 18, 3) := by decide +kernel
theorem dX7_fewest_183 : decode cX7_fewest 183 = .ok (.aload_n 0, 1) := by decide +kernel
theorem dX7_fewest_184 : decode cX7_fewest 184 = .ok (.getfield 49, 3) := by decide +kernel
theorem dX7_fewest_187 : decode cX7_fewest 187 = .ok (.iload_n 2, 1) := by decide +kernel
theorem dX7_fewest_188 : decode cX7_fewest 188 = .ok (.aload_n 0, 1) := by decide +kernel
theorem dX7_fewest_189 : decode cX7_fewest 189 = .ok (.getfield 49, 3) := by decide +kernel
theorem dX7_fewest_192 : decode cX7_fewest 192 = .ok (.iload 4, 2) := by decide +kernel
theorem dX7_fewest_194 : decode cX7_fewest 194 = .ok (.iaload, 1) := by decide +kernel
theorem dX7_fewest_195 : decode cX7_fewest 195 = .ok (.iconst 1, 1) := by decide +kernel
theorem dX7_fewest_196 : decode cX7_fewest 196 = .ok (.iadd, 1) := by decide +kernel
theorem dX7_fewest_197 : decode cX7_fewest 197 = .ok (.iastore, 1) := by decide +kernel
theorem dX7_fewest_198 : decode cX7_fewest 198 = .ok (.iload_n 3, 1) := by decide +kernel
theorem dX7_fewest_199 : decode cX7_fewest 199 = .ok (.iconst 1, 1) := by decide +kernel
theorem dX7_fewest_200 : decode cX7_fewest 200 = .ok (.isub, 1) := by decide +kernel
theorem dX7_fewest_201 : decode cX7_fewest 201 = .ok (.iload_n 2, 1) := by decide +kernel
theorem dX7_fewest_202 : decode cX7_fewest 202 = .ok (.iand, 1) := by decide +kernel
theorem dX7_fewest_203 : decode cX7_fewest 203 = .ok (.istore_n 3, 1) := by decide +kernel
theorem dX7_fewest_204 : decode cX7_fewest 204 = .ok (.goto (-79), 3) := by decide +kernel
theorem dX7_fewest_207 : decode cX7_fewest 207 = .ok (.iinc 2 1, 3) := by decide +kernel
theorem dX7_fewest_210 : decode cX7_fewest 210 = .ok (.goto (-100), 3) := by decide +kernel
theorem dX7_fewest_213 : decode cX7_fewest 213 = .ok (.aload_n 0, 1) := by decide +kernel
theorem dX7_fewest_214 : decode cX7_fewest 214 = .ok (.getfield 49, 3) := by decide +kernel
theorem dX7_fewest_217 : decode cX7_fewest 217 = .ok (.iload_n 1, 1) := by decide +kernel
theorem dX7_fewest_218 : decode cX7_fewest 218 = .ok (.iaload, 1) := by decide +kernel
theorem dX7_fewest_219 : decode cX7_fewest 219 = .ok (.ireturn, 1) := by decide +kernel
theorem dX7_tell_0 : decode cX7_tell 0 = .ok (.iload_n 1, 1) := by decide +kernel
theorem dX7_tell_1 : decode cX7_tell 1 = .ok (.invokestatic 79, 3) := by decide +kernel
theorem dX7_tell_4 : decode cX7_tell 4 = .ok (.ifCond .ne 5, 3) := by decide +kernel
theorem dX7_tell_7 : decode cX7_tell 7 = .ok (.iconst (-1), 1) := by decide +kernel
theorem dX7_tell_8 : decode cX7_tell 8 = .ok (.ireturn, 1) := by decide +kernel
theorem dX7_tell_9 : decode cX7_tell 9 = .ok (.iload_n 2, 1) := by decide +kernel
theorem dX7_tell_10 : decode cX7_tell 10 = .ok (.iconst 0, 1) := by decide +kernel
theorem dX7_tell_11 : decode cX7_tell 11 = .ok (.sipush 255, 3) := by decide +kernel
theorem dX7_tell_14 : decode cX7_tell 14 = .ok (.invokestatic 75, 3) := by decide +kernel
theorem dX7_tell_17 : decode cX7_tell 17 = .ok (.ifCond .ne 6, 3) := by decide +kernel
theorem dX7_tell_20 : decode cX7_tell 20 = .ok (.bipush (-2), 2) := by decide +kernel
theorem dX7_tell_22 : decode cX7_tell 22 = .ok (.ireturn, 1) := by decide +kernel
theorem dX7_tell_23 : decode cX7_tell 23 = .ok (.aload_n 0, 1) := by decide +kernel
theorem dX7_tell_24 : decode cX7_tell 24 = .ok (.getfield 31, 3) := by decide +kernel
theorem dX7_tell_27 : decode cX7_tell 27 = .ok (.iload_n 1, 1) := by decide +kernel
theorem dX7_tell_28 : decode cX7_tell 28 = .ok (.iaload, 1) := by decide +kernel
theorem dX7_tell_29 : decode cX7_tell 29 = .ok (.istore_n 3, 1) := by decide +kernel
theorem dX7_tell_30 : decode cX7_tell 30 = .ok (.aload_n 0, 1) := by decide +kernel
theorem dX7_tell_31 : decode cX7_tell 31 = .ok (.getfield 31, 3) := by decide +kernel
theorem dX7_tell_34 : decode cX7_tell 34 = .ok (.iload_n 1, 1) := by decide +kernel
theorem dX7_tell_35 : decode cX7_tell 35 = .ok (.iload_n 2, 1) := by decide +kernel
theorem dX7_tell_36 : decode cX7_tell 36 = .ok (.iastore, 1) := by decide +kernel
theorem dX7_tell_37 : decode cX7_tell 37 = .ok (.iload_n 3, 1) := by decide +kernel
theorem dX7_tell_38 : decode cX7_tell 38 = .ok (.ireturn, 1) := by decide +kernel
theorem dX7_put_0 : decode cX7_put 0 = .ok (.iload_n 1, 1) := by decide +kernel
theorem dX7_put_1 : decode cX7_put 1 = .ok (.iconst 0, 1) := by decide +kernel
theorem dX7_put_2 : decode cX7_put 2 = .ok (.iconst 3, 1) := by decide +kernel
theorem dX7_put_3 : decode cX7_put 3 = .ok (.invokestatic 75, 3) := by decide +kernel
theorem dX7_put_6 : decode cX7_put 6 = .ok (.ifCond .ne 5, 3) := by decide +kernel
theorem dX7_put_9 : decode cX7_put 9 = .ok (.iconst (-1), 1) := by decide +kernel
theorem dX7_put_10 : decode cX7_put 10 = .ok (.ireturn, 1) := by decide +kernel
theorem dX7_put_11 : decode cX7_put 11 = .ok (.iload_n 2, 1) := by decide +kernel
theorem dX7_put_12 : decode cX7_put 12 = .ok (.iconst 0, 1) := by decide +kernel
