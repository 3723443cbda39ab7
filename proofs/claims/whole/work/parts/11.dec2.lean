theorem dX12_inserts_84 : decode cX12_inserts 84 = .ok (.iload_n 1, 1) := by decide +kernel
theorem dX12_inserts_85 : decode cX12_inserts 85 = .ok (.iconst 0, 1) := by decide +kernel
theorem dX12_inserts_86 : decode cX12_inserts 86 = .ok (.iastore, 1) := by decide +kernel
theorem dX12_inserts_87 : decode cX12_inserts 87 = .ok (.aload_n 0, 1) := by decide +kernel
theorem dX12_inserts_88 : decode cX12_inserts 88 = .ok (.dup, 1) := by decide +kernel
theorem dX12_inserts_89 : decode cX12_inserts 89 = .ok (.getfield 270, 3) := by decide +kernel
theorem dX12_inserts_92 : decode cX12_inserts 92 = .ok (.iconst 1, 1) := by decide +kernel
theorem dX12_inserts_93 : decode cX12_inserts 93 = .ok (.iadd, 1) := by decide +kernel
theorem dX12_inserts_94 : decode cX12_inserts 94 = .ok (.putfield 270, 3) := by decide +kernel
theorem dX12_inserts_97 : decode cX12_inserts 97 = .ok (.return_, 1) := by decide +kernel
theorem dX12_starts_0 : decode cX12_starts 0 = .ok (.aload_n 0, 1) := by decide +kernel
theorem dX12_starts_1 : decode cX12_starts 1 = .ok (.iconst 0, 1) := by decide +kernel
theorem dX12_starts_2 : decode cX12_starts 2 = .ok (.putfield 270, 3) := by decide +kernel
theorem dX12_starts_5 : decode cX12_starts 5 = .ok (.iconst 0, 1) := by decide +kernel
theorem dX12_starts_6 : decode cX12_starts 6 = .ok (.istore_n 1, 1) := by decide +kernel
theorem dX12_starts_7 : decode cX12_starts 7 = .ok (.iload_n 1, 1) := by decide +kernel
theorem dX12_starts_8 : decode cX12_starts 8 = .ok (.aload_n 0, 1) := by decide +kernel
theorem dX12_starts_9 : decode cX12_starts 9 = .ok (.getfield 33, 3) := by decide +kernel
theorem dX12_starts_12 : decode cX12_starts 12 = .ok (.bipush 10, 2) := by decide +kernel
theorem dX12_starts_14 : decode cX12_starts 14 = .ok (.iaload, 1) := by decide +kernel
theorem dX12_starts_15 : decode cX12_starts 15 = .ok (.if_icmp .ge 38, 3) := by decide +kernel
theorem dX12_starts_18 : decode cX12_starts 18 = .ok (.aload_n 0, 1) := by decide +kernel
theorem dX12_starts_19 : decode cX12_starts 19 = .ok (.iload_n 1, 1) := by decide +kernel
theorem dX12_starts_20 : decode cX12_starts 20 = .ok (.aload_n 0, 1) := by decide +kernel
theorem dX12_starts_21 : decode cX12_starts 21 = .ok (.getfield 33, 3) := by decide +kernel
theorem dX12_starts_24 : decode cX12_starts 24 = .ok (.sipush 475, 3) := by decide +kernel
theorem dX12_starts_27 : decode cX12_starts 27 = .ok (.iload_n 1, 1) := by decide +kernel
theorem dX12_starts_28 : decode cX12_starts 28 = .ok (.iadd, 1) := by decide +kernel
theorem dX12_starts_29 : decode cX12_starts 29 = .ok (.iaload, 1) := by decide +kernel
theorem dX12_starts_30 : decode cX12_starts 30 = .ok (.aload_n 0, 1) := by decide +kernel
theorem dX12_starts_31 : decode cX12_starts 31 = .ok (.aload_n 0, 1) := by decide +kernel
theorem dX12_starts_32 : decode cX12_starts 32 = .ok (.getfield 33, 3) := by decide +kernel
theorem dX12_starts_35 : decode cX12_starts 35 = .ok (.sipush 475, 3) := by decide +kernel
theorem dX12_starts_38 : decode cX12_starts 38 = .ok (.iload_n 1, 1) := by decide +kernel
theorem dX12_starts_39 : decode cX12_starts 39 = .ok (.iadd, 1) := by decide +kernel
theorem dX12_starts_40 : decode cX12_starts 40 = .ok (.iaload, 1) := by decide +kernel
theorem dX12_starts_41 : decode cX12_starts 41 = .ok (.invokevirtual 312, 3) := by decide +kernel
theorem dX12_starts_44 : decode cX12_starts 44 = .ok (.invokevirtual 319, 3) := by decide +kernel
theorem dX12_starts_47 : decode cX12_starts 47 = .ok (.iinc 1 1, 3) := by decide +kernel
theorem dX12_starts_50 : decode cX12_starts 50 = .ok (.goto (-43), 3) := by decide +kernel
theorem dX12_starts_53 : decode cX12_starts 53 = .ok (.return_, 1) := by decide +kernel
theorem dX12_parts_0 : decode cX12_parts 0 = .ok (.aload_n 0, 1) := by decide +kernel
theorem dX12_parts_1 : decode cX12_parts 1 = .ok (.iload_n 1, 1) := by decide +kernel
theorem dX12_parts_2 : decode cX12_parts 2 = .ok (.invokevirtual 285, 3) := by decide +kernel
theorem dX12_parts_5 : decode cX12_parts 5 = .ok (.iconst 0, 1) := by decide +kernel
theorem dX12_parts_6 : decode cX12_parts 6 = .ok (.istore_n 2, 1) := by decide +kernel
theorem dX12_parts_7 : decode cX12_parts 7 = .ok (.iload_n 2, 1) := by decide +kernel
theorem dX12_parts_8 : decode cX12_parts 8 = .ok (.aload_n 0, 1) := by decide +kernel
theorem dX12_parts_9 : decode cX12_parts 9 = .ok (.getfield 270, 3) := by decide +kernel
theorem dX12_parts_12 : decode cX12_parts 12 = .ok (.if_icmp .ge 49, 3) := by decide +kernel
theorem dX12_parts_15 : decode cX12_parts 15 = .ok (.aload_n 0, 1) := by decide +kernel
theorem dX12_parts_16 : decode cX12_parts 16 = .ok (.getfield 56, 3) := by decide +kernel
theorem dX12_parts_19 : decode cX12_parts 19 = .ok (.iload_n 2, 1) := by decide +kernel
theorem dX12_parts_20 : decode cX12_parts 20 = .ok (.iaload, 1) := by decide +kernel
theorem dX12_parts_21 : decode cX12_parts 21 = .ok (.aload_n 0, 1) := by decide +kernel
theorem dX12_parts_22 : decode cX12_parts 22 = .ok (.getfield 59, 3) := by decide +kernel
theorem dX12_parts_25 : decode cX12_parts 25 = .ok (.iload_n 2, 1) := by decide +kernel
theorem dX12_parts_26 : decode cX12_parts 26 = .ok (.iaload, 1) := by decide +kernel
theorem dX12_parts_27 : decode cX12_parts 27 = .ok (.if_icmp .gt 26, 3) := by decide +kernel
theorem dX12_parts_30 : decode cX12_parts 30 = .ok (.aload_n 0, 1) := by decide +kernel
theorem dX12_parts_31 : decode cX12_parts 31 = .ok (.getfield 62, 3) := by decide +kernel
theorem dX12_parts_34 : decode cX12_parts 34 = .ok (.iload_n 2, 1) := by decide +kernel
theorem dX12_parts_35 : decode cX12_parts 35 = .ok (.iaload, 1) := by decide +kernel
theorem dX12_parts_36 : decode cX12_parts 36 = .ok (.aload_n 0, 1) := by decide +kernel
theorem dX12_parts_37 : decode cX12_parts 37 = .ok (.getfield 33, 3) := by decide +kernel
theorem dX12_parts_40 : decode cX12_parts 40 = .ok (.bipush 8, 2) := by decide +kernel
theorem dX12_parts_42 : decode cX12_parts 42 = .ok (.iaload, 1) := by decide +kernel
theorem dX12_parts_43 : decode cX12_parts 43 = .ok (.aload_n 0, 1) := by decide +kernel
theorem dX12_parts_44 : decode cX12_parts 44 = .ok (.getfield 59, 3) := by decide +kernel
theorem dX12_parts_47 : decode cX12_parts 47 = .ok (.iload_n 2, 1) := by decide +kernel
theorem dX12_parts_48 : decode cX12_parts 48 = .ok (.iaload, 1) := by decide +kernel
theorem dX12_parts_49 : decode cX12_parts 49 = .ok (.imul, 1) := by decide +kernel
theorem dX12_parts_50 : decode cX12_parts 50 = .ok (.if_icmp .le 5, 3) := by decide +kernel
theorem dX12_parts_53 : decode cX12_parts 53 = .ok (.iconst 1, 1) := by decide +kernel
theorem dX12_parts_54 : decode cX12_parts 54 = .ok (.ireturn, 1) := by decide +kernel
theorem dX12_parts_55 : decode cX12_parts 55 = .ok (.iinc 2 1, 3) := by decide +kernel
theorem dX12_parts_58 : decode cX12_parts 58 = .ok (.goto (-51), 3) := by decide +kernel
theorem dX12_parts_61 : decode cX12_parts 61 = .ok (.iconst 0, 1) := by decide +kernel
theorem dX12_parts_62 : decode cX12_parts 62 = .ok (.istore_n 2, 1) := by decide +kernel
theorem dX12_parts_63 : decode cX12_parts 63 = .ok (.iload_n 2, 1) := by decide +kernel
theorem dX12_parts_64 : decode cX12_parts 64 = .ok (.aload_n 0, 1) := by decide +kernel
theorem dX12_parts_65 : decode cX12_parts 65 = .ok (.getfield 270, 3) := by decide +kernel
theorem dX12_parts_68 : decode cX12_parts 68 = .ok (.if_icmp .ge 37, 3) := by decide +kernel
theorem dX12_parts_71 : decode cX12_parts 71 = .ok (.aload_n 0, 1) := by decide +kernel
theorem dX12_parts_72 : decode cX12_parts 72 = .ok (.getfield 62, 3) := by decide +kernel
theorem dX12_parts_75 : decode cX12_parts 75 = .ok (.iload_n 2, 1) := by decide +kernel
theorem dX12_parts_76 : decode cX12_parts 76 = .ok (.dup2, 1) := by decide +kernel
theorem dX12_parts_77 : decode cX12_parts 77 = .ok (.iaload, 1) := by decide +kernel
theorem dX12_parts_78 : decode cX12_parts 78 = .ok (.aload_n 0, 1) := by decide +kernel
theorem dX12_parts_79 : decode cX12_parts 79 = .ok (.getfield 56, 3) := by decide +kernel
theorem dX12_parts_82 : decode cX12_parts 82 = .ok (.iload_n 2, 1) := by decide +kernel
theorem dX12_parts_83 : decode cX12_parts 83 = .ok (.iaload, 1) := by decide +kernel
theorem dX12_parts_84 : decode cX12_parts 84 = .ok (.ifCond .le 12, 3) := by decide +kernel
theorem dX12_parts_87 : decode cX12_parts 87 = .ok (.aload_n 0, 1) := by decide +kernel
theorem dX12_parts_88 : decode cX12_parts 88 = .ok (.getfield 56, 3) := by decide +kernel
theorem dX12_parts_91 : decode cX12_parts 91 = .ok (.iload_n 2, 1) := by decide +kernel
theorem dX12_parts_92 : decode cX12_parts 92 = .ok (.iaload, 1) := by decide +kernel
theorem dX12_parts_93 : decode cX12_parts 93 = .ok (.goto 4, 3) := by decide +kernel
theorem dX12_parts_96 : decode cX12_parts 96 = .ok (.iconst 0, 1) := by decide +kernel
theorem dX12_parts_97 : decode cX12_parts 97 = .ok (.iadd, 1) := by decide +kernel
theorem dX12_parts_98 : decode cX12_parts 98 = .ok (.iastore, 1) := by decide +kernel
theorem dX12_parts_99 : decode cX12_parts 99 = .ok (.iinc 2 1, 3) := by decide +kernel
theorem dX12_parts_102 : decode cX12_parts 102 = .ok (.goto (-39), 3) := by decide +kernel
theorem dX12_parts_105 : decode cX12_parts 105 = .ok (.iconst 0, 1) := by decide +kernel
theorem dX12_parts_106 : decode cX12_parts 106 = .ok (.ireturn, 1) := by decide +kernel
theorem dX12_haltOf_0 : decode cX12_haltOf 0 = .ok (.iconst 0, 1) := by decide +kernel
theorem dX12_haltOf_1 : decode cX12_haltOf 1 = .ok (.istore_n 2, 1) := by decide +kernel
theorem dX12_haltOf_2 : decode cX12_haltOf 2 = .ok (.iload_n 2, 1) := by decide +kernel
theorem dX12_haltOf_3 : decode cX12_haltOf 3 = .ok (.aload_n 0, 1) := by decide +kernel
theorem dX12_haltOf_4 : decode cX12_haltOf 4 = .ok (.getfield 33, 3) := by decide +kernel
theorem dX12_haltOf_7 : decode cX12_haltOf 7 = .ok (.iconst 1, 1) := by decide +kernel
theorem dX12_haltOf_8 : decode cX12_haltOf 8 = .ok (.iaload, 1) := by decide +kernel
theorem dX12_haltOf_9 : decode cX12_haltOf 9 = .ok (.if_icmp .ge 32, 3) := by decide +kernel
theorem dX12_haltOf_12 : decode cX12_haltOf 12 = .ok (.aload_n 0, 1) := by decide +kernel
theorem dX12_haltOf_13 : decode cX12_haltOf 13 = .ok (.iload_n 2, 1) := by decide +kernel
theorem dX12_haltOf_14 : decode cX12_haltOf 14 = .ok (.invokevirtual 261, 3) := by decide +kernel
theorem dX12_haltOf_17 : decode cX12_haltOf 17 = .ok (.iload_n 1, 1) := by decide +kernel
theorem dX12_haltOf_18 : decode cX12_haltOf 18 = .ok (.if_icmp .ne 17, 3) := by decide +kernel
theorem dX12_haltOf_21 : decode cX12_haltOf 21 = .ok (.iload_n 1, 1) := by decide +kernel
theorem dX12_haltOf_22 : decode cX12_haltOf 22 = .ok (.ifCond .le 13, 3) := by decide +kernel
theorem dX12_haltOf_25 : decode cX12_haltOf 25 = .ok (.aload_n 0, 1) := by decide +kernel
theorem dX12_haltOf_26 : decode cX12_haltOf 26 = .ok (.iload_n 2, 1) := by decide +kernel
theorem dX12_haltOf_27 : decode cX12_haltOf 27 = .ok (.invokevirtual 264, 3) := by decide +kernel
theorem dX12_haltOf_30 : decode cX12_haltOf 30 = .ok (.ifCond .lt 5, 3) := by decide +kernel
theorem dX12_haltOf_33 : decode cX12_haltOf 33 = .ok (.iload_n 2, 1) := by decide +kernel
theorem dX12_haltOf_34 : decode cX12_haltOf 34 = .ok (.ireturn, 1) := by decide +kernel
theorem dX12_haltOf_35 : decode cX12_haltOf 35 = .ok (.iinc 2 1, 3) := by decide +kernel
theorem dX12_haltOf_38 : decode cX12_haltOf 38 = .ok (.goto (-36), 3) := by decide +kernel
theorem dX12_haltOf_41 : decode cX12_haltOf 41 = .ok (.iconst (-1), 1) := by decide +kernel
theorem dX12_haltOf_42 : decode cX12_haltOf 42 = .ok (.ireturn, 1) := by decide +kernel
theorem dX12_placeBy_0 : decode cX12_placeBy 0 = .ok (.iload_n 1, 1) := by decide +kernel
theorem dX12_placeBy_1 : decode cX12_placeBy 1 = .ok (.iconst 1, 1) := by decide +kernel
theorem dX12_placeBy_2 : decode cX12_placeBy 2 = .ok (.if_icmp .ne 5, 3) := by decide +kernel
theorem dX12_placeBy_5 : decode cX12_placeBy 5 = .ok (.iconst 0, 1) := by decide +kernel
theorem dX12_placeBy_6 : decode cX12_placeBy 6 = .ok (.ireturn, 1) := by decide +kernel
theorem dX12_placeBy_7 : decode cX12_placeBy 7 = .ok (.iload_n 1, 1) := by decide +kernel
theorem dX12_placeBy_8 : decode cX12_placeBy 8 = .ok (.iconst 3, 1) := by decide +kernel
theorem dX12_placeBy_9 : decode cX12_placeBy 9 = .ok (.if_icmp .ne 15, 3) := by decide +kernel
theorem dX12_placeBy_12 : decode cX12_placeBy 12 = .ok (.iload_n 2, 1) := by decide +kernel
theorem dX12_placeBy_13 : decode cX12_placeBy 13 = .ok (.iconst 4, 1) := by decide +kernel
theorem dX12_placeBy_14 : decode cX12_placeBy 14 = .ok (.if_icmp .ge 10, 3) := by decide +kernel
theorem dX12_placeBy_17 : decode cX12_placeBy 17 = .ok (.aload_n 0, 1) := by decide +kernel
theorem dX12_placeBy_18 : decode cX12_placeBy 18 = .ok (.getfield 68, 3) := by decide +kernel
theorem dX12_placeBy_21 : decode cX12_placeBy 21 = .ok (.iload_n 2, 1) := by decide +kernel
theorem dX12_placeBy_22 : decode cX12_placeBy 22 = .ok (.iaload, 1) := by decide +kernel
theorem dX12_placeBy_23 : decode cX12_placeBy 23 = .ok (.ireturn, 1) := by decide +kernel
theorem dX12_placeBy_24 : decode cX12_placeBy 24 = .ok (.iconst 0, 1) := by decide +kernel
theorem dX12_placeBy_25 : decode cX12_placeBy 25 = .ok (.istore 4, 2) := by decide +kernel
theorem dX12_placeBy_27 : decode cX12_placeBy 27 = .ok (.iload 4, 2) := by decide +kernel
theorem dX12_placeBy_29 : decode cX12_placeBy 29 = .ok (.aload_n 0, 1) := by decide +kernel
theorem dX12_placeBy_30 : decode cX12_placeBy 30 = .ok (.getfield 270, 3) := by decide +kernel
theorem dX12_placeBy_33 : decode cX12_placeBy 33 = .ok (.if_icmp .ge 32, 3) := by decide +kernel
theorem dX12_placeBy_36 : decode cX12_placeBy 36 = .ok (.iload_n 1, 1) := by decide +kernel
theorem dX12_placeBy_37 : decode cX12_placeBy 37 = .ok (.iconst 2, 1) := by decide +kernel
theorem dX12_placeBy_38 : decode cX12_placeBy 38 = .ok (.if_icmp .ne 27, 3) := by decide +kernel
theorem dX12_placeBy_41 : decode cX12_placeBy 41 = .ok (.aload_n 0, 1) := by decide +kernel
theorem dX12_placeBy_42 : decode cX12_placeBy 42 = .ok (.getfield 59, 3) := by decide +kernel
theorem dX12_placeBy_45 : decode cX12_placeBy 45 = .ok (.iload 4, 2) := by decide +kernel
theorem dX12_placeBy_47 : decode cX12_placeBy 47 = .ok (.iaload, 1) := by decide +kernel
theorem dX12_placeBy_48 : decode cX12_placeBy 48 = .ok (.aload_n 0, 1) := by decide +kernel
theorem dX12_placeBy_49 : decode cX12_placeBy 49 = .ok (.iload_n 3, 1) := by decide +kernel
theorem dX12_placeBy_50 : decode cX12_placeBy 50 = .ok (.invokevirtual 312, 3) := by decide +kernel
theorem dX12_placeBy_53 : decode cX12_placeBy 53 = .ok (.if_icmp .ge 6, 3) := by decide +kernel
theorem dX12_placeBy_56 : decode cX12_placeBy 56 = .ok (.iload 4, 2) := by decide +kernel
theorem dX12_placeBy_58 : decode cX12_placeBy 58 = .ok (.ireturn, 1) := by decide +kernel
theorem dX12_placeBy_59 : decode cX12_placeBy 59 = .ok (.iinc 4 1, 3) := by decide +kernel
theorem dX12_placeBy_62 : decode cX12_placeBy 62 = .ok (.goto (-35), 3) := by decide +kernel
theorem dX12_placeBy_65 : decode cX12_placeBy 65 = .ok (.aload_n 0, 1) := by decide +kernel
theorem dX12_placeBy_66 : decode cX12_placeBy 66 = .ok (.getfield 270, 3) := by decide +kernel
theorem dX12_placeBy_69 : decode cX12_placeBy 69 = .ok (.ireturn, 1) := by decide +kernel
theorem dX12_livesBy_0 : decode cX12_livesBy 0 = .ok (.aload_n 0, 1) := by decide +kernel
theorem dX12_livesBy_1 : decode cX12_livesBy 1 = .ok (.invokevirtual 323, 3) := by decide +kernel
theorem dX12_livesBy_4 : decode cX12_livesBy 4 = .ok (.iconst 0, 1) := by decide +kernel
theorem dX12_livesBy_5 : decode cX12_livesBy 5 = .ok (.istore_n 2, 1) := by decide +kernel
theorem dX12_livesBy_6 : decode cX12_livesBy 6 = .ok (.aload_n 0, 1) := by decide +kernel
theorem dX12_livesBy_7 : decode cX12_livesBy 7 = .ok (.iconst 0, 1) := by decide +kernel
theorem dX12_livesBy_8 : decode cX12_livesBy 8 = .ok (.putfield 326, 3) := by decide +kernel
theorem dX12_livesBy_11 : decode cX12_livesBy 11 = .ok (.iconst 1, 1) := by decide +kernel
theorem dX12_livesBy_12 : decode cX12_livesBy 12 = .ok (.istore_n 3, 1) := by decide +kernel
theorem dX12_livesBy_13 : decode cX12_livesBy 13 = .ok (.iload_n 3, 1) := by decide +kernel
theorem dX12_livesBy_14 : decode cX12_livesBy 14 = .ok (.aload_n 0, 1) := by decide +kernel
theorem dX12_livesBy_15 : decode cX12_livesBy 15 = .ok (.getfield 33, 3) := by decide +kernel
theorem dX12_livesBy_18 : decode cX12_livesBy 18 = .ok (.iconst 0, 1) := by decide +kernel
theorem dX12_livesBy_19 : decode cX12_livesBy 19 = .ok (.iaload, 1) := by decide +kernel
theorem dX12_livesBy_20 : decode cX12_livesBy 20 = .ok (.if_icmp .ge 91, 3) := by decide +kernel
theorem dX12_livesBy_23 : decode cX12_livesBy 23 = .ok (.aload_n 0, 1) := by decide +kernel
theorem dX12_livesBy_24 : decode cX12_livesBy 24 = .ok (.iload_n 3, 1) := by decide +kernel
theorem dX12_livesBy_25 : decode cX12_livesBy 25 = .ok (.invokevirtual 329, 3) := by decide +kernel
theorem dX12_livesBy_28 : decode cX12_livesBy 28 = .ok (.ifCond .eq 5, 3) := by decide +kernel
theorem dX12_livesBy_31 : decode cX12_livesBy 31 = .ok (.iload_n 2, 1) := by decide +kernel
theorem dX12_livesBy_32 : decode cX12_livesBy 32 = .ok (.ireturn, 1) := by decide +kernel
theorem dX12_livesBy_33 : decode cX12_livesBy 33 = .ok (.aload_n 0, 1) := by decide +kernel
theorem dX12_livesBy_34 : decode cX12_livesBy 34 = .ok (.iload_n 3, 1) := by decide +kernel
theorem dX12_livesBy_35 : decode cX12_livesBy 35 = .ok (.invokevirtual 332, 3) := by decide +kernel
theorem dX12_livesBy_38 : decode cX12_livesBy 38 = .ok (.istore 4, 2) := by decide +kernel
theorem dX12_livesBy_40 : decode cX12_livesBy 40 = .ok (.iload 4, 2) := by decide +kernel
theorem dX12_livesBy_42 : decode cX12_livesBy 42 = .ok (.ifCond .ge 6, 3) := by decide +kernel
theorem dX12_livesBy_45 : decode cX12_livesBy 45 = .ok (.goto 60, 3) := by decide +kernel
theorem dX12_livesBy_48 : decode cX12_livesBy 48 = .ok (.aload_n 0, 1) := by decide +kernel
theorem dX12_livesBy_49 : decode cX12_livesBy 49 = .ok (.getfield 270, 3) := by decide +kernel
theorem dX12_livesBy_52 : decode cX12_livesBy 52 = .ok (.bipush 20, 2) := by decide +kernel
theorem dX12_livesBy_54 : decode cX12_livesBy 54 = .ok (.if_icmp .ge 48, 3) := by decide +kernel
theorem dX12_livesBy_57 : decode cX12_livesBy 57 = .ok (.aload_n 0, 1) := by decide +kernel
theorem dX12_livesBy_58 : decode cX12_livesBy 58 = .ok (.aload_n 0, 1) := by decide +kernel
theorem dX12_livesBy_59 : decode cX12_livesBy 59 = .ok (.iload_n 1, 1) := by decide +kernel
theorem dX12_livesBy_60 : decode cX12_livesBy 60 = .ok (.aload_n 0, 1) := by decide +kernel
theorem dX12_livesBy_61 : decode cX12_livesBy 61 = .ok (.getfield 326, 3) := by decide +kernel
theorem dX12_livesBy_64 : decode cX12_livesBy 64 = .ok (.aload_n 0, 1) := by decide +kernel
theorem dX12_livesBy_65 : decode cX12_livesBy 65 = .ok (.iload 4, 2) := by decide +kernel
theorem dX12_livesBy_67 : decode cX12_livesBy 67 = .ok (.invokevirtual 264, 3) := by decide +kernel
theorem dX12_livesBy_70 : decode cX12_livesBy 70 = .ok (.invokevirtual 335, 3) := by decide +kernel
theorem dX12_livesBy_73 : decode cX12_livesBy 73 = .ok (.aload_n 0, 1) := by decide +kernel
theorem dX12_livesBy_74 : decode cX12_livesBy 74 = .ok (.iload 4, 2) := by decide +kernel
theorem dX12_livesBy_76 : decode cX12_livesBy 76 = .ok (.invokevirtual 264, 3) := by decide +kernel
theorem dX12_livesBy_79 : decode cX12_livesBy 79 = .ok (.aload_n 0, 1) := by decide +kernel
theorem dX12_livesBy_80 : decode cX12_livesBy 80 = .ok (.aload_n 0, 1) := by decide +kernel
theorem dX12_livesBy_81 : decode cX12_livesBy 81 = .ok (.iload 4, 2) := by decide +kernel
theorem dX12_livesBy_83 : decode cX12_livesBy 83 = .ok (.invokevirtual 264, 3) := by decide +kernel
theorem dX12_livesBy_86 : decode cX12_livesBy 86 = .ok (.invokevirtual 312, 3) := by decide +kernel
theorem dX12_livesBy_89 : decode cX12_livesBy 89 = .ok (.invokevirtual 319, 3) := by decide +kernel
theorem dX12_livesBy_92 : decode cX12_livesBy 92 = .ok (.aload_n 0, 1) := by decide +kernel
theorem dX12_livesBy_93 : decode cX12_livesBy 93 = .ok (.dup, 1) := by decide +kernel
theorem dX12_livesBy_94 : decode cX12_livesBy 94 = .ok (.getfield 326, 3) := by decide +kernel
theorem dX12_livesBy_97 : decode cX12_livesBy 97 = .ok (.iconst 1, 1) := by decide +kernel
theorem dX12_livesBy_98 : decode cX12_livesBy 98 = .ok (.iadd, 1) := by decide +kernel
theorem dX12_livesBy_99 : decode cX12_livesBy 99 = .ok (.putfield 326, 3) := by decide +kernel
theorem dX12_livesBy_102 : decode cX12_livesBy 102 = .ok (.iinc 2 1, 3) := by decide +kernel
theorem dX12_livesBy_105 : decode cX12_livesBy 105 = .ok (.iinc 3 1, 3) := by decide +kernel
theorem dX12_livesBy_108 : decode cX12_livesBy 108 = .ok (.goto (-95), 3) := by decide +kernel
theorem dX12_livesBy_111 : decode cX12_livesBy 111 = .ok (.iload_n 2, 1) := by decide +kernel
theorem dX12_livesBy_112 : decode cX12_livesBy 112 = .ok (.ireturn, 1) := by decide +kernel
theorem dX12_lives_0 : decode cX12_lives 0 = .ok (.aload_n 0, 1) := by decide +kernel
theorem dX12_lives_1 : decode cX12_lives 1 = .ok (.iconst 0, 1) := by decide +kernel
theorem dX12_lives_2 : decode cX12_lives 2 = .ok (.putfield 1, 3) := by decide +kernel
theorem dX12_lives_5 : decode cX12_lives 5 = .ok (.iload_n 1, 1) := by decide +kernel
theorem dX12_lives_6 : decode cX12_lives 6 = .ok (.iconst 0, 1) := by decide +kernel
theorem dX12_lives_7 : decode cX12_lives 7 = .ok (.iconst 2, 1) := by decide +kernel
theorem dX12_lives_8 : decode cX12_lives 8 = .ok (.invokestatic 182, 3) := by decide +kernel
theorem dX12_lives_11 : decode cX12_lives 11 = .ok (.ifCond .eq 11, 3) := by decide +kernel
theorem dX12_lives_14 : decode cX12_lives 14 = .ok (.aload_n 0, 1) := by decide +kernel
theorem dX12_lives_15 : decode cX12_lives 15 = .ok (.iload_n 1, 1) := by decide +kernel
theorem dX12_lives_16 : decode cX12_lives 16 = .ok (.invokevirtual 339, 3) := by decide +kernel
theorem dX12_lives_19 : decode cX12_lives 19 = .ok (.goto 4, 3) := by decide +kernel
theorem dX12_lives_22 : decode cX12_lives 22 = .ok (.iconst (-1), 1) := by decide +kernel
theorem dX12_lives_23 : decode cX12_lives 23 = .ok (.ireturn, 1) := by decide +kernel
theorem dX12_longest_0 : decode cX12_longest 0 = .ok (.aload_n 0, 1) := by decide +kernel
theorem dX12_longest_1 : decode cX12_longest 1 = .ok (.iconst 0, 1) := by decide +kernel
theorem dX12_longest_2 : decode cX12_longest 2 = .ok (.putfield 1, 3) := by decide +kernel
theorem dX12_longest_5 : decode cX12_longest 5 = .ok (.iconst (-1), 1) := by decide +kernel
theorem dX12_longest_6 : decode cX12_longest 6 = .ok (.istore_n 1, 1) := by decide +kernel
theorem dX12_longest_7 : decode cX12_longest 7 = .ok (.iconst 0, 1) := by decide +kernel
theorem dX12_longest_8 : decode cX12_longest 8 = .ok (.istore_n 2, 1) := by decide +kernel
theorem dX12_longest_9 : decode cX12_longest 9 = .ok (.iload_n 2, 1) := by decide +kernel
theorem dX12_longest_10 : decode cX12_longest 10 = .ok (.iconst 4, 1) := by decide +kernel
theorem dX12_longest_11 : decode cX12_longest 11 = .ok (.if_icmp .ge 16, 3) := by decide +kernel
theorem dX12_longest_14 : decode cX12_longest 14 = .ok (.aload_n 0, 1) := by decide +kernel
theorem dX12_longest_15 : decode cX12_longest 15 = .ok (.getfield 68, 3) := by decide +kernel
theorem dX12_longest_18 : decode cX12_longest 18 = .ok (.iload_n 2, 1) := by decide +kernel
theorem dX12_longest_19 : decode cX12_longest 19 = .ok (.iconst 0, 1) := by decide +kernel
theorem dX12_longest_20 : decode cX12_longest 20 = .ok (.iastore, 1) := by decide +kernel
theorem dX12_longest_21 : decode cX12_longest 21 = .ok (.iinc 2 1, 3) := by decide +kernel
theorem dX12_longest_24 : decode cX12_longest 24 = .ok (.goto (-15), 3) := by decide +kernel
theorem dX12_longest_27 : decode cX12_longest 27 = .ok (.iconst 1, 1) := by decide +kernel
theorem dX12_longest_28 : decode cX12_longest 28 = .ok (.istore_n 2, 1) := by decide +kernel
theorem dX12_longest_29 : decode cX12_longest 29 = .ok (.iload_n 2, 1) := by decide +kernel
theorem dX12_longest_30 : decode cX12_longest 30 = .ok (.ifCond .eq 153, 3) := by decide +kernel
theorem dX12_longest_33 : decode cX12_longest 33 = .ok (.aload_n 0, 1) := by decide +kernel
theorem dX12_longest_34 : decode cX12_longest 34 = .ok (.iconst 3, 1) := by decide +kernel
theorem dX12_longest_35 : decode cX12_longest 35 = .ok (.invokevirtual 339, 3) := by decide +kernel
theorem dX12_longest_38 : decode cX12_longest 38 = .ok (.istore_n 3, 1) := by decide +kernel
theorem dX12_longest_39 : decode cX12_longest 39 = .ok (.iload_n 3, 1) := by decide +kernel
theorem dX12_longest_40 : decode cX12_longest 40 = .ok (.iload_n 1, 1) := by decide +kernel
theorem dX12_longest_41 : decode cX12_longest 41 = .ok (.if_icmp .le 54, 3) := by decide +kernel
theorem dX12_longest_44 : decode cX12_longest 44 = .ok (.iload_n 3, 1) := by decide +kernel
theorem dX12_longest_45 : decode cX12_longest 45 = .ok (.istore_n 1, 1) := by decide +kernel
theorem dX12_longest_46 : decode cX12_longest 46 = .ok (.aload_n 0, 1) := by decide +kernel
theorem dX12_longest_47 : decode cX12_longest 47 = .ok (.aload_n 0, 1) := by decide +kernel
theorem dX12_longest_48 : decode cX12_longest 48 = .ok (.getfield 326, 3) := by decide +kernel
theorem dX12_longest_51 : decode cX12_longest 51 = .ok (.iconst 4, 1) := by decide +kernel
theorem dX12_longest_52 : decode cX12_longest 52 = .ok (.if_icmp .ge 10, 3) := by decide +kernel
theorem dX12_longest_55 : decode cX12_longest 55 = .ok (.aload_n 0, 1) := by decide +kernel
theorem dX12_longest_56 : decode cX12_longest 56 = .ok (.getfield 326, 3) := by decide +kernel
theorem dX12_longest_59 : decode cX12_longest 59 = .ok (.goto 4, 3) := by decide +kernel
theorem dX12_longest_62 : decode cX12_longest 62 = .ok (.iconst 4, 1) := by decide +kernel
theorem dX12_longest_63 : decode cX12_longest 63 = .ok (.putfield 342, 3) := by decide +kernel
theorem dX12_longest_66 : decode cX12_longest 66 = .ok (.iconst 0, 1) := by decide +kernel
theorem dX12_longest_67 : decode cX12_longest 67 = .ok (.istore 4, 2) := by decide +kernel
theorem dX12_longest_69 : decode cX12_longest 69 = .ok (.iload 4, 2) := by decide +kernel
theorem dX12_longest_71 : decode cX12_longest 71 = .ok (.iconst 4, 1) := by decide +kernel
theorem dX12_longest_72 : decode cX12_longest 72 = .ok (.if_icmp .ge 23, 3) := by decide +kernel
theorem dX12_longest_75 : decode cX12_longest 75 = .ok (.aload_n 0, 1) := by decide +kernel
theorem dX12_longest_76 : decode cX12_longest 76 = .ok (.getfield 71, 3) := by decide +kernel
theorem dX12_longest_79 : decode cX12_longest 79 = .ok (.iload 4, 2) := by decide +kernel
theorem dX12_longest_81 : decode cX12_longest 81 = .ok (.aload_n 0, 1) := by decide +kernel
theorem dX12_longest_82 : decode cX12_longest 82 = .ok (.getfield 68, 3) := by decide +kernel
theorem dX12_longest_85 : decode cX12_longest 85 = .ok (.iload 4, 2) := by decide +kernel
theorem dX12_longest_87 : decode cX12_longest 87 = .ok (.iaload, 1) := by decide +kernel
theorem dX12_longest_88 : decode cX12_longest 88 = .ok (.iastore, 1) := by decide +kernel
theorem dX12_longest_89 : decode cX12_longest 89 = .ok (.iinc 4 1, 3) := by decide +kernel
theorem dX12_longest_92 : decode cX12_longest 92 = .ok (.goto (-23), 3) := by decide +kernel
theorem dX12_longest_95 : decode cX12_longest 95 = .ok (.aload_n 0, 1) := by decide +kernel
theorem dX12_longest_96 : decode cX12_longest 96 = .ok (.getfield 326, 3) := by decide +kernel
theorem dX12_longest_99 : decode cX12_longest 99 = .ok (.iconst 4, 1) := by decide +kernel
theorem dX12_longest_100 : decode cX12_longest 100 = .ok (.if_icmp .ge 10, 3) := by decide +kernel
theorem dX12_longest_103 : decode cX12_longest 103 = .ok (.aload_n 0, 1) := by decide +kernel
theorem dX12_longest_104 : decode cX12_longest 104 = .ok (.getfield 326, 3) := by decide +kernel
theorem dX12_longest_107 : decode cX12_longest 107 = .ok (.goto 4, 3) := by decide +kernel
theorem dX12_longest_110 : decode cX12_longest 110 = .ok (.iconst 4, 1) := by decide +kernel
theorem dX12_longest_111 : decode cX12_longest 111 = .ok (.iconst 1, 1) := by decide +kernel
theorem dX12_longest_112 : decode cX12_longest 112 = .ok (.isub, 1) := by decide +kernel
theorem dX12_longest_113 : decode cX12_longest 113 = .ok (.istore 4, 2) := by decide +kernel
theorem dX12_longest_115 : decode cX12_longest 115 = .ok (.iload 4, 2) := by decide +kernel
theorem dX12_longest_117 : decode cX12_longest 117 = .ok (.ifCond .lt 37, 3) := by decide +kernel
theorem dX12_longest_120 : decode cX12_longest 120 = .ok (.aload_n 0, 1) := by decide +kernel
theorem dX12_longest_121 : decode cX12_longest 121 = .ok (.getfield 68, 3) := by decide +kernel
theorem dX12_longest_124 : decode cX12_longest 124 = .ok (.iload 4, 2) := by decide +kernel
theorem dX12_longest_126 : decode cX12_longest 126 = .ok (.iaload, 1) := by decide +kernel
theorem dX12_longest_127 : decode cX12_longest 127 = .ok (.aload_n 0, 1) := by decide +kernel
theorem dX12_longest_128 : decode cX12_longest 128 = .ok (.getfield 33, 3) := by decide +kernel
theorem dX12_longest_131 : decode cX12_longest 131 = .ok (.bipush 10, 2) := by decide +kernel
theorem dX12_longest_133 : decode cX12_longest 133 = .ok (.iaload, 1) := by decide +kernel
theorem dX12_longest_134 : decode cX12_longest 134 = .ok (.iload 4, 2) := by decide +kernel
theorem dX12_longest_136 : decode cX12_longest 136 = .ok (.iadd, 1) := by decide +kernel
theorem dX12_longest_137 : decode cX12_longest 137 = .ok (.if_icmp .ne 17, 3) := by decide +kernel
theorem dX12_longest_140 : decode cX12_longest 140 = .ok (.aload_n 0, 1) := by decide +kernel
theorem dX12_longest_141 : decode cX12_longest 141 = .ok (.getfield 68, 3) := by decide +kernel
theorem dX12_longest_144 : decode cX12_longest 144 = .ok (.iload 4, 2) := by decide +kernel
theorem dX12_longest_146 : decode cX12_longest 146 = .ok (.iconst 0, 1) := by decide +kernel
theorem dX12_longest_147 : decode cX12_longest 147 = .ok (.iastore, 1) := by decide +kernel
theorem dX12_longest_148 : decode cX12_longest 148 = .ok (.iinc 4 (-1), 3) := by decide +kernel
theorem dX12_longest_151 : decode cX12_longest 151 = .ok (.goto (-36), 3) := by decide +kernel
theorem dX12_longest_154 : decode cX12_longest 154 = .ok (.iload 4, 2) := by decide +kernel
theorem dX12_longest_156 : decode cX12_longest 156 = .ok (.ifCond .lt 7, 3) := by decide +kernel
theorem dX12_longest_159 : decode cX12_longest 159 = .ok (.iconst 1, 1) := by decide +kernel
theorem dX12_longest_160 : decode cX12_longest 160 = .ok (.goto 4, 3) := by decide +kernel
theorem dX12_longest_163 : decode cX12_longest 163 = .ok (.iconst 0, 1) := by decide +kernel
theorem dX12_longest_164 : decode cX12_longest 164 = .ok (.istore_n 2, 1) := by decide +kernel
theorem dX12_longest_165 : decode cX12_longest 165 = .ok (.iload_n 2, 1) := by decide +kernel
theorem dX12_longest_166 : decode cX12_longest 166 = .ok (.ifCond .eq 14, 3) := by decide +kernel
theorem dX12_longest_169 : decode cX12_longest 169 = .ok (.aload_n 0, 1) := by decide +kernel
theorem dX12_longest_170 : decode cX12_longest 170 = .ok (.getfield 68, 3) := by decide +kernel
theorem dX12_longest_173 : decode cX12_longest 173 = .ok (.iload 4, 2) := by decide +kernel
theorem dX12_longest_175 : decode cX12_longest 175 = .ok (.dup2, 1) := by decide +kernel
theorem dX12_longest_176 : decode cX12_longest 176 = .ok (.iaload, 1) := by decide +kernel
theorem dX12_longest_177 : decode cX12_longest 177 = .ok (.iconst 1, 1) := by decide +kernel
theorem dX12_longest_178 : decode cX12_longest 178 = .ok (.iadd, 1) := by decide +kernel
theorem dX12_longest_179 : decode cX12_longest 179 = .ok (.iastore, 1) := by decide +kernel
theorem dX12_longest_180 : decode cX12_longest 180 = .ok (.goto (-151), 3) := by decide +kernel
theorem dX12_longest_183 : decode cX12_longest 183 = .ok (.iload_n 1, 1) := by decide +kernel
theorem dX12_longest_184 : decode cX12_longest 184 = .ok (.ireturn, 1) := by decide +kernel
theorem dX12_placed_0 : decode cX12_placed 0 = .ok (.aload_n 0, 1) := by decide +kernel
theorem dX12_placed_1 : decode cX12_placed 1 = .ok (.iconst 0, 1) := by decide +kernel
theorem dX12_placed_2 : decode cX12_placed 2 = .ok (.putfield 1, 3) := by decide +kernel
theorem dX12_placed_5 : decode cX12_placed 5 = .ok (.iload_n 1, 1) := by decide +kernel
theorem dX12_placed_6 : decode cX12_placed 6 = .ok (.iconst 0, 1) := by decide +kernel
theorem dX12_placed_7 : decode cX12_placed 7 = .ok (.aload_n 0, 1) := by decide +kernel
theorem dX12_placed_8 : decode cX12_placed 8 = .ok (.getfield 342, 3) := by decide +kernel
theorem dX12_placed_11 : decode cX12_placed 11 = .ok (.iconst 1, 1) := by decide +kernel
theorem dX12_placed_12 : decode cX12_placed 12 = .ok (.isub, 1) := by decide +kernel
theorem dX12_placed_13 : decode cX12_placed 13 = .ok (.invokestatic 182, 3) := by decide +kernel
theorem dX12_placed_16 : decode cX12_placed 16 = .ok (.ifCond .eq 12, 3) := by decide +kernel
theorem dX12_placed_19 : decode cX12_placed 19 = .ok (.aload_n 0, 1) := by decide +kernel
theorem dX12_placed_20 : decode cX12_placed 20 = .ok (.getfield 71, 3) := by decide +kernel
theorem dX12_placed_23 : decode cX12_placed 23 = .ok (.iload_n 1, 1) := by decide +kernel
theorem dX12_placed_24 : decode cX12_placed 24 = .ok (.iaload, 1) := by decide +kernel
theorem dX12_placed_25 : decode cX12_placed 25 = .ok (.goto 4, 3) := by decide +kernel
theorem dX12_placed_28 : decode cX12_placed 28 = .ok (.iconst (-1), 1) := by decide +kernel
theorem dX12_placed_29 : decode cX12_placed 29 = .ok (.ireturn, 1) := by decide +kernel
theorem dX12_platformOf_0 : decode cX12_platformOf 0 = .ok (.aload_n 0, 1) := by decide +kernel
theorem dX12_platformOf_1 : decode cX12_platformOf 1 = .ok (.aload_n 0, 1) := by decide +kernel
theorem dX12_platformOf_2 : decode cX12_platformOf 2 = .ok (.iload_n 1, 1) := by decide +kernel
theorem dX12_platformOf_3 : decode cX12_platformOf 3 = .ok (.invokevirtual 261, 3) := by decide +kernel
theorem dX12_platformOf_6 : decode cX12_platformOf 6 = .ok (.invokevirtual 288, 3) := by decide +kernel
theorem dX12_platformOf_9 : decode cX12_platformOf 9 = .ok (.iconst 0, 1) := by decide +kernel
theorem dX12_platformOf_10 : decode cX12_platformOf 10 = .ok (.istore_n 2, 1) := by decide +kernel
theorem dX12_platformOf_11 : decode cX12_platformOf 11 = .ok (.iconst 0, 1) := by decide +kernel
theorem dX12_platformOf_12 : decode cX12_platformOf 12 = .ok (.istore_n 3, 1) := by decide +kernel
theorem dX12_platformOf_13 : decode cX12_platformOf 13 = .ok (.iload_n 3, 1) := by decide +kernel
theorem dX12_platformOf_14 : decode cX12_platformOf 14 = .ok (.aload_n 0, 1) := by decide +kernel
theorem dX12_platformOf_15 : decode cX12_platformOf 15 = .ok (.getfield 270, 3) := by decide +kernel
theorem dX12_platformOf_18 : decode cX12_platformOf 18 = .ok (.if_icmp .ge 57, 3) := by decide +kernel
theorem dX12_platformOf_21 : decode cX12_platformOf 21 = .ok (.aload_n 0, 1) := by decide +kernel
theorem dX12_platformOf_22 : decode cX12_platformOf 22 = .ok (.getfield 53, 3) := by decide +kernel
theorem dX12_platformOf_25 : decode cX12_platformOf 25 = .ok (.iload_n 3, 1) := by decide +kernel
theorem dX12_platformOf_26 : decode cX12_platformOf 26 = .ok (.iaload, 1) := by decide +kernel
theorem dX12_platformOf_27 : decode cX12_platformOf 27 = .ok (.aload_n 0, 1) := by decide +kernel
theorem dX12_platformOf_28 : decode cX12_platformOf 28 = .ok (.aload_n 0, 1) := by decide +kernel
theorem dX12_platformOf_29 : decode cX12_platformOf 29 = .ok (.getfield 50, 3) := by decide +kernel
theorem dX12_platformOf_32 : decode cX12_platformOf 32 = .ok (.iload_n 3, 1) := by decide +kernel
theorem dX12_platformOf_33 : decode cX12_platformOf 33 = .ok (.iaload, 1) := by decide +kernel
theorem dX12_platformOf_34 : decode cX12_platformOf 34 = .ok (.invokevirtual 273, 3) := by decide +kernel
theorem dX12_platformOf_37 : decode cX12_platformOf 37 = .ok (.isub, 1) := by decide +kernel
theorem dX12_platformOf_38 : decode cX12_platformOf 38 = .ok (.iconst 1, 1) := by decide +kernel
theorem dX12_platformOf_39 : decode cX12_platformOf 39 = .ok (.iadd, 1) := by decide +kernel
theorem dX12_platformOf_40 : decode cX12_platformOf 40 = .ok (.aload_n 0, 1) := by decide +kernel
theorem dX12_platformOf_41 : decode cX12_platformOf 41 = .ok (.iload_n 1, 1) := by decide +kernel
theorem dX12_platformOf_42 : decode cX12_platformOf 42 = .ok (.invokevirtual 261, 3) := by decide +kernel
theorem dX12_platformOf_45 : decode cX12_platformOf 45 = .ok (.aload_n 0, 1) := by decide +kernel
theorem dX12_platformOf_46 : decode cX12_platformOf 46 = .ok (.getfield 33, 3) := by decide +kernel
theorem dX12_platformOf_49 : decode cX12_platformOf 49 = .ok (.sipush 411, 3) := by decide +kernel
theorem dX12_platformOf_52 : decode cX12_platformOf 52 = .ok (.iconst 3, 1) := by decide +kernel
theorem dX12_platformOf_53 : decode cX12_platformOf 53 = .ok (.iload_n 1, 1) := by decide +kernel
theorem dX12_platformOf_54 : decode cX12_platformOf 54 = .ok (.imul, 1) := by decide +kernel
theorem dX12_platformOf_55 : decode cX12_platformOf 55 = .ok (.iadd, 1) := by decide +kernel
theorem dX12_platformOf_56 : decode cX12_platformOf 56 = .ok (.iconst 1, 1) := by decide +kernel
theorem dX12_platformOf_57 : decode cX12_platformOf 57 = .ok (.iadd, 1) := by decide +kernel
theorem dX12_platformOf_58 : decode cX12_platformOf 58 = .ok (.iaload, 1) := by decide +kernel
theorem dX12_platformOf_59 : decode cX12_platformOf 59 = .ok (.isub, 1) := by decide +kernel
theorem dX12_platformOf_60 : decode cX12_platformOf 60 = .ok (.if_icmp .le 9, 3) := by decide +kernel
theorem dX12_platformOf_63 : decode cX12_platformOf 63 = .ok (.iload_n 2, 1) := by decide +kernel
theorem dX12_platformOf_64 : decode cX12_platformOf 64 = .ok (.iconst 1, 1) := by decide +kernel
theorem dX12_platformOf_65 : decode cX12_platformOf 65 = .ok (.iload_n 3, 1) := by decide +kernel
theorem dX12_platformOf_66 : decode cX12_platformOf 66 = .ok (.ishl, 1) := by decide +kernel
theorem dX12_platformOf_67 : decode cX12_platformOf 67 = .ok (.ior, 1) := by decide +kernel
theorem dX12_platformOf_68 : decode cX12_platformOf 68 = .ok (.istore_n 2, 1) := by decide +kernel
theorem dX12_platformOf_69 : decode cX12_platformOf 69 = .ok (.iinc 3 1, 3) := by decide +kernel
theorem dX12_platformOf_72 : decode cX12_platformOf 72 = .ok (.goto (-59), 3) := by decide +kernel
theorem dX12_platformOf_75 : decode cX12_platformOf 75 = .ok (.iload_n 2, 1) := by decide +kernel
theorem dX12_platformOf_76 : decode cX12_platformOf 76 = .ok (.ireturn, 1) := by decide +kernel
theorem dX12_platform_0 : decode cX12_platform 0 = .ok (.aload_n 0, 1) := by decide +kernel
theorem dX12_platform_1 : decode cX12_platform 1 = .ok (.iconst 0, 1) := by decide +kernel
theorem dX12_platform_2 : decode cX12_platform 2 = .ok (.putfield 1, 3) := by decide +kernel
theorem dX12_platform_5 : decode cX12_platform 5 = .ok (.aload_n 0, 1) := by decide +kernel
theorem dX12_platform_6 : decode cX12_platform 6 = .ok (.iload_n 1, 1) := by decide +kernel
theorem dX12_platform_7 : decode cX12_platform 7 = .ok (.invokevirtual 258, 3) := by decide +kernel
theorem dX12_platform_10 : decode cX12_platform 10 = .ok (.ifCond .eq 11, 3) := by decide +kernel
theorem dX12_platform_13 : decode cX12_platform 13 = .ok (.aload_n 0, 1) := by decide +kernel
theorem dX12_platform_14 : decode cX12_platform 14 = .ok (.iload_n 1, 1) := by decide +kernel
theorem dX12_platform_15 : decode cX12_platform 15 = .ok (.invokevirtual 345, 3) := by decide +kernel
theorem dX12_platform_18 : decode cX12_platform 18 = .ok (.goto 4, 3) := by decide +kernel
theorem dX12_platform_21 : decode cX12_platform 21 = .ok (.iconst (-1), 1) := by decide +kernel
theorem dX12_platform_22 : decode cX12_platform 22 = .ok (.ireturn, 1) := by decide +kernel
theorem dX12_room_0 : decode cX12_room 0 = .ok (.aload_n 0, 1) := by decide +kernel
theorem dX12_room_1 : decode cX12_room 1 = .ok (.iconst 0, 1) := by decide +kernel
theorem dX12_room_2 : decode cX12_room 2 = .ok (.putfield 1, 3) := by decide +kernel
theorem dX12_room_5 : decode cX12_room 5 = .ok (.aload_n 0, 1) := by decide +kernel
theorem dX12_room_6 : decode cX12_room 6 = .ok (.iload_n 1, 1) := by decide +kernel
theorem dX12_room_7 : decode cX12_room 7 = .ok (.invokevirtual 258, 3) := by decide +kernel
theorem dX12_room_10 : decode cX12_room 10 = .ok (.ifCond .ne 5, 3) := by decide +kernel
theorem dX12_room_13 : decode cX12_room 13 = .ok (.iconst (-1), 1) := by decide +kernel
theorem dX12_room_14 : decode cX12_room 14 = .ok (.ireturn, 1) := by decide +kernel
theorem dX12_room_15 : decode cX12_room 15 = .ok (.aload_n 0, 1) := by decide +kernel
theorem dX12_room_16 : decode cX12_room 16 = .ok (.aload_n 0, 1) := by decide +kernel
theorem dX12_room_17 : decode cX12_room 17 = .ok (.iload_n 1, 1) := by decide +kernel
theorem dX12_room_18 : decode cX12_room 18 = .ok (.invokevirtual 261, 3) := by decide +kernel
theorem dX12_room_21 : decode cX12_room 21 = .ok (.invokevirtual 288, 3) := by decide +kernel
theorem dX12_room_24 : decode cX12_room 24 = .ok (.aload_n 0, 1) := by decide +kernel
theorem dX12_room_25 : decode cX12_room 25 = .ok (.getfield 270, 3) := by decide +kernel
theorem dX12_room_28 : decode cX12_room 28 = .ok (.ifCond .ne 7, 3) := by decide +kernel
theorem dX12_room_31 : decode cX12_room 31 = .ok (.iconst 0, 1) := by decide +kernel
theorem dX12_room_32 : decode cX12_room 32 = .ok (.goto 36, 3) := by decide +kernel
theorem dX12_room_35 : decode cX12_room 35 = .ok (.aload_n 0, 1) := by decide +kernel
theorem dX12_room_36 : decode cX12_room 36 = .ok (.iload_n 1, 1) := by decide +kernel
theorem dX12_room_37 : decode cX12_room 37 = .ok (.invokevirtual 261, 3) := by decide +kernel
theorem dX12_room_40 : decode cX12_room 40 = .ok (.aload_n 0, 1) := by decide +kernel
theorem dX12_room_41 : decode cX12_room 41 = .ok (.getfield 53, 3) := by decide +kernel
theorem dX12_room_44 : decode cX12_room 44 = .ok (.aload_n 0, 1) := by decide +kernel
theorem dX12_room_45 : decode cX12_room 45 = .ok (.getfield 270, 3) := by decide +kernel
theorem dX12_room_48 : decode cX12_room 48 = .ok (.iconst 1, 1) := by decide +kernel
theorem dX12_room_49 : decode cX12_room 49 = .ok (.isub, 1) := by decide +kernel
theorem dX12_room_50 : decode cX12_room 50 = .ok (.iaload, 1) := by decide +kernel
theorem dX12_room_51 : decode cX12_room 51 = .ok (.isub, 1) := by decide +kernel
theorem dX12_room_52 : decode cX12_room 52 = .ok (.aload_n 0, 1) := by decide +kernel
theorem dX12_room_53 : decode cX12_room 53 = .ok (.aload_n 0, 1) := by decide +kernel
theorem dX12_room_54 : decode cX12_room 54 = .ok (.getfield 50, 3) := by decide +kernel
theorem dX12_room_57 : decode cX12_room 57 = .ok (.aload_n 0, 1) := by decide +kernel
theorem dX12_room_58 : decode cX12_room 58 = .ok (.getfield 270, 3) := by decide +kernel
theorem dX12_room_61 : decode cX12_room 61 = .ok (.iconst 1, 1) := by decide +kernel
theorem dX12_room_62 : decode cX12_room 62 = .ok (.isub, 1) := by decide +kernel
theorem dX12_room_63 : decode cX12_room 63 = .ok (.iaload, 1) := by decide +kernel
theorem dX12_room_64 : decode cX12_room 64 = .ok (.invokevirtual 273, 3) := by decide +kernel
theorem dX12_room_67 : decode cX12_room 67 = .ok (.iadd, 1) := by decide +kernel
theorem dX12_room_68 : decode cX12_room 68 = .ok (.ireturn, 1) := by decide +kernel
theorem dX12_withAt_0 : decode cX12_withAt 0 = .ok (.aload_n 0, 1) := by decide +kernel
theorem dX12_withAt_1 : decode cX12_withAt 1 = .ok (.iload_n 1, 1) := by decide +kernel
theorem dX12_withAt_2 : decode cX12_withAt 2 = .ok (.invokevirtual 282, 3) := by decide +kernel
theorem dX12_withAt_5 : decode cX12_withAt 5 = .ok (.aload_n 0, 1) := by decide +kernel
theorem dX12_withAt_6 : decode cX12_withAt 6 = .ok (.iload_n 1, 1) := by decide +kernel
theorem dX12_withAt_7 : decode cX12_withAt 7 = .ok (.invokevirtual 285, 3) := by decide +kernel
theorem dX12_withAt_10 : decode cX12_withAt 10 = .ok (.return_, 1) := by decide +kernel
theorem dX12_mayPass_0 : decode cX12_mayPass 0 = .ok (.aload_n 0, 1) := by decide +kernel
theorem dX12_mayPass_1 : decode cX12_mayPass 1 = .ok (.getfield 56, 3) := by decide +kernel
theorem dX12_mayPass_4 : decode cX12_mayPass 4 = .ok (.iload_n 1, 1) := by decide +kernel
theorem dX12_mayPass_5 : decode cX12_mayPass 5 = .ok (.iaload, 1) := by decide +kernel
theorem dX12_mayPass_6 : decode cX12_mayPass 6 = .ok (.aload_n 0, 1) := by decide +kernel
theorem dX12_mayPass_7 : decode cX12_mayPass 7 = .ok (.aload_n 0, 1) := by decide +kernel
theorem dX12_mayPass_8 : decode cX12_mayPass 8 = .ok (.getfield 50, 3) := by decide +kernel
theorem dX12_mayPass_11 : decode cX12_mayPass 11 = .ok (.iload_n 1, 1) := by decide +kernel
theorem dX12_mayPass_12 : decode cX12_mayPass 12 = .ok (.iaload, 1) := by decide +kernel
theorem dX12_mayPass_13 : decode cX12_mayPass 13 = .ok (.invokevirtual 312, 3) := by decide +kernel
theorem dX12_mayPass_16 : decode cX12_mayPass 16 = .ok (.iconst 2, 1) := by decide +kernel
theorem dX12_mayPass_17 : decode cX12_mayPass 17 = .ok (.idiv, 1) := by decide +kernel
theorem dX12_mayPass_18 : decode cX12_mayPass 18 = .ok (.if_icmp .gt 7, 3) := by decide +kernel
theorem dX12_mayPass_21 : decode cX12_mayPass 21 = .ok (.iconst 1, 1) := by decide +kernel
theorem dX12_mayPass_22 : decode cX12_mayPass 22 = .ok (.goto 4, 3) := by decide +kernel
theorem dX12_mayPass_25 : decode cX12_mayPass 25 = .ok (.iconst 0, 1) := by decide +kernel
theorem dX12_mayPass_26 : decode cX12_mayPass 26 = .ok (.ireturn, 1) := by decide +kernel
theorem dX12_isWalk_0 : decode cX12_isWalk 0 = .ok (.aload_n 0, 1) := by decide +kernel
theorem dX12_isWalk_1 : decode cX12_isWalk 1 = .ok (.iload_n 3, 1) := by decide +kernel
theorem dX12_isWalk_2 : decode cX12_isWalk 2 = .ok (.invokevirtual 291, 3) := by decide +kernel
theorem dX12_isWalk_5 : decode cX12_isWalk 5 = .ok (.ifCond .ne 5, 3) := by decide +kernel
theorem dX12_isWalk_8 : decode cX12_isWalk 8 = .ok (.iconst 0, 1) := by decide +kernel
theorem dX12_isWalk_9 : decode cX12_isWalk 9 = .ok (.ireturn, 1) := by decide +kernel
theorem dX12_isWalk_10 : decode cX12_isWalk 10 = .ok (.aload_n 0, 1) := by decide +kernel
theorem dX12_isWalk_11 : decode cX12_isWalk 11 = .ok (.iload_n 3, 1) := by decide +kernel
theorem dX12_isWalk_12 : decode cX12_isWalk 12 = .ok (.invokevirtual 282, 3) := by decide +kernel
theorem dX12_isWalk_15 : decode cX12_isWalk 15 = .ok (.iload_n 1, 1) := by decide +kernel
theorem dX12_isWalk_16 : decode cX12_isWalk 16 = .ok (.ifCond .lt 20, 3) := by decide +kernel
theorem dX12_isWalk_19 : decode cX12_isWalk 19 = .ok (.iload_n 1, 1) := by decide +kernel
theorem dX12_isWalk_20 : decode cX12_isWalk 20 = .ok (.iload_n 2, 1) := by decide +kernel
theorem dX12_isWalk_21 : decode cX12_isWalk 21 = .ok (.if_icmp .gt 15, 3) := by decide +kernel
theorem dX12_isWalk_24 : decode cX12_isWalk 24 = .ok (.iload_n 2, 1) := by decide +kernel
theorem dX12_isWalk_25 : decode cX12_isWalk 25 = .ok (.aload_n 0, 1) := by decide +kernel
theorem dX12_isWalk_26 : decode cX12_isWalk 26 = .ok (.getfield 270, 3) := by decide +kernel
theorem dX12_isWalk_29 : decode cX12_isWalk 29 = .ok (.if_icmp .ge 7, 3) := by decide +kernel
theorem dX12_isWalk_32 : decode cX12_isWalk 32 = .ok (.iconst 1, 1) := by decide +kernel
theorem dX12_isWalk_33 : decode cX12_isWalk 33 = .ok (.goto 4, 3) := by decide +kernel
theorem dX12_isWalk_36 : decode cX12_isWalk 36 = .ok (.iconst 0, 1) := by decide +kernel
theorem dX12_isWalk_37 : decode cX12_isWalk 37 = .ok (.ireturn, 1) := by decide +kernel
theorem dX12_cook_0 : decode cX12_cook 0 = .ok (.aload_n 0, 1) := by decide +kernel
theorem dX12_cook_1 : decode cX12_cook 1 = .ok (.iconst 0, 1) := by decide +kernel
theorem dX12_cook_2 : decode cX12_cook 2 = .ok (.putfield 1, 3) := by decide +kernel
theorem dX12_cook_5 : decode cX12_cook 5 = .ok (.aload_n 0, 1) := by decide +kernel
theorem dX12_cook_6 : decode cX12_cook 6 = .ok (.iload_n 1, 1) := by decide +kernel
theorem dX12_cook_7 : decode cX12_cook 7 = .ok (.iload_n 2, 1) := by decide +kernel
theorem dX12_cook_8 : decode cX12_cook 8 = .ok (.iload_n 3, 1) := by decide +kernel
theorem dX12_cook_9 : decode cX12_cook 9 = .ok (.invokevirtual 348, 3) := by decide +kernel
theorem dX12_cook_12 : decode cX12_cook 12 = .ok (.ifCond .ne 5, 3) := by decide +kernel
theorem dX12_cook_15 : decode cX12_cook 15 = .ok (.iconst (-1), 1) := by decide +kernel
theorem dX12_cook_16 : decode cX12_cook 16 = .ok (.ireturn, 1) := by decide +kernel
theorem dX12_cook_17 : decode cX12_cook 17 = .ok (.iload_n 1, 1) := by decide +kernel
theorem dX12_cook_18 : decode cX12_cook 18 = .ok (.istore 4, 2) := by decide +kernel
theorem dX12_cook_20 : decode cX12_cook 20 = .ok (.aload_n 0, 1) := by decide +kernel
theorem dX12_cook_21 : decode cX12_cook 21 = .ok (.aload_n 0, 1) := by decide +kernel
theorem dX12_cook_22 : decode cX12_cook 22 = .ok (.getfield 50, 3) := by decide +kernel
theorem dX12_cook_25 : decode cX12_cook 25 = .ok (.iload_n 1, 1) := by decide +kernel
theorem dX12_cook_26 : decode cX12_cook 26 = .ok (.iaload, 1) := by decide +kernel
theorem dX12_cook_27 : decode cX12_cook 27 = .ok (.invokevirtual 273, 3) := by decide +kernel
theorem dX12_cook_30 : decode cX12_cook 30 = .ok (.istore 5, 2) := by decide +kernel
theorem dX12_cook_32 : decode cX12_cook 32 = .ok (.iconst 0, 1) := by decide +kernel
theorem dX12_cook_33 : decode cX12_cook 33 = .ok (.istore 6, 2) := by decide +kernel
theorem dX12_cook_35 : decode cX12_cook 35 = .ok (.iload_n 3, 1) := by decide +kernel
theorem dX12_cook_36 : decode cX12_cook 36 = .ok (.istore 7, 2) := by decide +kernel
theorem dX12_cook_38 : decode cX12_cook 38 = .ok (.iload 4, 2) := by decide +kernel
theorem dX12_cook_40 : decode cX12_cook 40 = .ok (.iload_n 2, 1) := by decide +kernel
theorem dX12_cook_41 : decode cX12_cook 41 = .ok (.if_icmp .ge 125, 3) := by decide +kernel
theorem dX12_cook_44 : decode cX12_cook 44 = .ok (.iload 7, 2) := by decide +kernel
theorem dX12_cook_46 : decode cX12_cook 46 = .ok (.aload_n 0, 1) := by decide +kernel
theorem dX12_cook_47 : decode cX12_cook 47 = .ok (.getfield 33, 3) := by decide +kernel
theorem dX12_cook_50 : decode cX12_cook 50 = .ok (.iconst 0, 1) := by decide +kernel
theorem dX12_cook_51 : decode cX12_cook 51 = .ok (.iaload, 1) := by decide +kernel
theorem dX12_cook_52 : decode cX12_cook 52 = .ok (.if_icmp .ge 114, 3) := by decide +kernel
theorem dX12_cook_55 : decode cX12_cook 55 = .ok (.aload_n 0, 1) := by decide +kernel
theorem dX12_cook_56 : decode cX12_cook 56 = .ok (.iload 7, 2) := by decide +kernel
theorem dX12_cook_58 : decode cX12_cook 58 = .ok (.invokevirtual 351, 3) := by decide +kernel
theorem dX12_cook_61 : decode cX12_cook 61 = .ok (.aload_n 0, 1) := by decide +kernel
theorem dX12_cook_62 : decode cX12_cook 62 = .ok (.getfield 33, 3) := by decide +kernel
theorem dX12_cook_65 : decode cX12_cook 65 = .ok (.bipush 9, 2) := by decide +kernel
theorem dX12_cook_67 : decode cX12_cook 67 = .ok (.iaload, 1) := by decide +kernel
theorem dX12_cook_68 : decode cX12_cook 68 = .ok (.istore 8, 2) := by decide +kernel
theorem dX12_cook_70 : decode cX12_cook 70 = .ok (.iconst 1, 1) := by decide +kernel
theorem dX12_cook_71 : decode cX12_cook 71 = .ok (.istore 9, 2) := by decide +kernel
theorem dX12_cook_73 : decode cX12_cook 73 = .ok (.iload 9, 2) := by decide +kernel
theorem dX12_cook_75 : decode cX12_cook 75 = .ok (.ifCond .eq 82, 3) := by decide +kernel
theorem dX12_cook_78 : decode cX12_cook 78 = .ok (.iload 4, 2) := by decide +kernel
theorem dX12_cook_80 : decode cX12_cook 80 = .ok (.iload_n 2, 1) := by decide +kernel
theorem dX12_cook_81 : decode cX12_cook 81 = .ok (.if_icmp .ge 76, 3) := by decide +kernel
theorem dX12_cook_84 : decode cX12_cook 84 = .ok (.iload 5, 2) := by decide +kernel
theorem dX12_cook_86 : decode cX12_cook 86 = .ok (.iload 8, 2) := by decide +kernel
theorem dX12_cook_88 : decode cX12_cook 88 = .ok (.if_icmp .gt 7, 3) := by decide +kernel
theorem dX12_cook_91 : decode cX12_cook 91 = .ok (.iconst 1, 1) := by decide +kernel
theorem dX12_cook_92 : decode cX12_cook 92 = .ok (.goto 4, 3) := by decide +kernel
theorem dX12_cook_95 : decode cX12_cook 95 = .ok (.iconst 0, 1) := by decide +kernel
theorem dX12_cook_96 : decode cX12_cook 96 = .ok (.istore 9, 2) := by decide +kernel
theorem dX12_cook_98 : decode cX12_cook 98 = .ok (.iload 9, 2) := by decide +kernel
theorem dX12_cook_100 : decode cX12_cook 100 = .ok (.ifCond .ne 13, 3) := by decide +kernel
theorem dX12_cook_103 : decode cX12_cook 103 = .ok (.iload 5, 2) := by decide +kernel
theorem dX12_cook_105 : decode cX12_cook 105 = .ok (.iload 8, 2) := by decide +kernel
theorem dX12_cook_107 : decode cX12_cook 107 = .ok (.isub, 1) := by decide +kernel
theorem dX12_cook_108 : decode cX12_cook 108 = .ok (.istore 5, 2) := by decide +kernel
theorem dX12_cook_110 : decode cX12_cook 110 = .ok (.goto (-37), 3) := by decide +kernel
theorem dX12_cook_113 : decode cX12_cook 113 = .ok (.iload 8, 2) := by decide +kernel
theorem dX12_cook_115 : decode cX12_cook 115 = .ok (.iload 5, 2) := by decide +kernel
theorem dX12_cook_117 : decode cX12_cook 117 = .ok (.isub, 1) := by decide +kernel
theorem dX12_cook_118 : decode cX12_cook 118 = .ok (.istore 8, 2) := by decide +kernel
theorem dX12_cook_120 : decode cX12_cook 120 = .ok (.iconst 0, 1) := by decide +kernel
theorem dX12_cook_121 : decode cX12_cook 121 = .ok (.istore 5, 2) := by decide +kernel
theorem dX12_cook_123 : decode cX12_cook 123 = .ok (.aload_n 0, 1) := by decide +kernel
theorem dX12_cook_124 : decode cX12_cook 124 = .ok (.iload 4, 2) := by decide +kernel
theorem dX12_cook_126 : decode cX12_cook 126 = .ok (.iconst 1, 1) := by decide +kernel
theorem dX12_cook_127 : decode cX12_cook 127 = .ok (.iadd, 1) := by decide +kernel
theorem dX12_cook_128 : decode cX12_cook 128 = .ok (.invokevirtual 354, 3) := by decide +kernel
theorem dX12_cook_131 : decode cX12_cook 131 = .ok (.istore 9, 2) := by decide +kernel
theorem dX12_cook_133 : decode cX12_cook 133 = .ok (.iload 9, 2) := by decide +kernel
theorem dX12_cook_135 : decode cX12_cook 135 = .ok (.ifCond .eq (-62), 3) := by decide +kernel
theorem dX12_cook_138 : decode cX12_cook 138 = .ok (.iinc 4 1, 3) := by decide +kernel
theorem dX12_cook_141 : decode cX12_cook 141 = .ok (.aload_n 0, 1) := by decide +kernel
theorem dX12_cook_142 : decode cX12_cook 142 = .ok (.aload_n 0, 1) := by decide +kernel
theorem dX12_cook_143 : decode cX12_cook 143 = .ok (.getfield 50, 3) := by decide +kernel
theorem dX12_cook_146 : decode cX12_cook 146 = .ok (.iload 4, 2) := by decide +kernel
theorem dX12_cook_148 : decode cX12_cook 148 = .ok (.iaload, 1) := by decide +kernel
theorem dX12_cook_149 : decode cX12_cook 149 = .ok (.invokevirtual 273, 3) := by decide +kernel
theorem dX12_cook_152 : decode cX12_cook 152 = .ok (.istore 5, 2) := by decide +kernel
theorem dX12_cook_154 : decode cX12_cook 154 = .ok (.goto (-81), 3) := by decide +kernel
theorem dX12_cook_157 : decode cX12_cook 157 = .ok (.iinc 6 1, 3) := by decide +kernel
theorem dX12_cook_160 : decode cX12_cook 160 = .ok (.iinc 7 1, 3) := by decide +kernel
theorem dX12_cook_163 : decode cX12_cook 163 = .ok (.goto (-125), 3) := by decide +kernel
theorem dX12_cook_166 : decode cX12_cook 166 = .ok (.iload 4, 2) := by decide +kernel
theorem dX12_cook_168 : decode cX12_cook 168 = .ok (.iload_n 2, 1) := by decide +kernel
theorem dX12_cook_169 : decode cX12_cook 169 = .ok (.if_icmp .ne 8, 3) := by decide +kernel
theorem dX12_cook_172 : decode cX12_cook 172 = .ok (.iload 6, 2) := by decide +kernel
theorem dX12_cook_174 : decode cX12_cook 174 = .ok (.goto 4, 3) := by decide +kernel
theorem dX12_cook_177 : decode cX12_cook 177 = .ok (.iconst (-1), 1) := by decide +kernel
theorem dX12_cook_178 : decode cX12_cook 178 = .ok (.ireturn, 1) := by decide +kernel
theorem dX12_back_0 : decode cX12_back 0 = .ok (.aload_n 0, 1) := by decide +kernel
theorem dX12_back_1 : decode cX12_back 1 = .ok (.iconst 0, 1) := by decide +kernel
theorem dX12_back_2 : decode cX12_back 2 = .ok (.putfield 1, 3) := by decide +kernel
theorem dX12_back_5 : decode cX12_back 5 = .ok (.aload_n 0, 1) := by decide +kernel
theorem dX12_back_6 : decode cX12_back 6 = .ok (.iload_n 1, 1) := by decide +kernel
theorem dX12_back_7 : decode cX12_back 7 = .ok (.iload_n 2, 1) := by decide +kernel
theorem dX12_back_8 : decode cX12_back 8 = .ok (.iload_n 3, 1) := by decide +kernel
theorem dX12_back_9 : decode cX12_back 9 = .ok (.invokevirtual 348, 3) := by decide +kernel
theorem dX12_back_12 : decode cX12_back 12 = .ok (.ifCond .ne 5, 3) := by decide +kernel
theorem dX12_back_15 : decode cX12_back 15 = .ok (.iconst (-1), 1) := by decide +kernel
theorem dX12_back_16 : decode cX12_back 16 = .ok (.ireturn, 1) := by decide +kernel
theorem dX12_back_17 : decode cX12_back 17 = .ok (.iload_n 2, 1) := by decide +kernel
theorem dX12_back_18 : decode cX12_back 18 = .ok (.istore 4, 2) := by decide +kernel
theorem dX12_back_20 : decode cX12_back 20 = .ok (.iconst 0, 1) := by decide +kernel
theorem dX12_back_21 : decode cX12_back 21 = .ok (.istore 5, 2) := by decide +kernel
theorem dX12_back_23 : decode cX12_back 23 = .ok (.iconst 0, 1) := by decide +kernel
theorem dX12_back_24 : decode cX12_back 24 = .ok (.istore 6, 2) := by decide +kernel
theorem dX12_back_26 : decode cX12_back 26 = .ok (.iload_n 3, 1) := by decide +kernel
theorem dX12_back_27 : decode cX12_back 27 = .ok (.istore 7, 2) := by decide +kernel
theorem dX12_back_29 : decode cX12_back 29 = .ok (.iload 4, 2) := by decide +kernel
theorem dX12_back_31 : decode cX12_back 31 = .ok (.iload_n 1, 1) := by decide +kernel
theorem dX12_back_32 : decode cX12_back 32 = .ok (.if_icmp .gt 8, 3) := by decide +kernel
theorem dX12_back_35 : decode cX12_back 35 = .ok (.iload 5, 2) := by decide +kernel
theorem dX12_back_37 : decode cX12_back 37 = .ok (.ifCond .le 142, 3) := by decide +kernel
theorem dX12_back_40 : decode cX12_back 40 = .ok (.iload 7, 2) := by decide +kernel
theorem dX12_back_42 : decode cX12_back 42 = .ok (.aload_n 0, 1) := by decide +kernel
theorem dX12_back_43 : decode cX12_back 43 = .ok (.getfield 33, 3) := by decide +kernel
theorem dX12_back_46 : decode cX12_back 46 = .ok (.iconst 0, 1) := by decide +kernel
theorem dX12_back_47 : decode cX12_back 47 = .ok (.iaload, 1) := by decide +kernel
theorem dX12_back_48 : decode cX12_back 48 = .ok (.if_icmp .ge 131, 3) := by decide +kernel
theorem dX12_back_51 : decode cX12_back 51 = .ok (.aload_n 0, 1) := by decide +kernel
theorem dX12_back_52 : decode cX12_back 52 = .ok (.iload 7, 2) := by decide +kernel
theorem dX12_back_54 : decode cX12_back 54 = .ok (.invokevirtual 351, 3) := by decide +kernel
theorem dX12_back_57 : decode cX12_back 57 = .ok (.aload_n 0, 1) := by decide +kernel
theorem dX12_back_58 : decode cX12_back 58 = .ok (.getfield 33, 3) := by decide +kernel
theorem dX12_back_61 : decode cX12_back 61 = .ok (.bipush 9, 2) := by decide +kernel
theorem dX12_back_63 : decode cX12_back 63 = .ok (.iaload, 1) := by decide +kernel
theorem dX12_back_64 : decode cX12_back 64 = .ok (.istore 8, 2) := by decide +kernel
theorem dX12_back_66 : decode cX12_back 66 = .ok (.iconst 1, 1) := by decide +kernel
theorem dX12_back_67 : decode cX12_back 67 = .ok (.istore 9, 2) := by decide +kernel
theorem dX12_back_69 : decode cX12_back 69 = .ok (.iload 9, 2) := by decide +kernel
theorem dX12_back_71 : decode cX12_back 71 = .ok (.ifCond .eq 99, 3) := by decide +kernel
theorem dX12_back_74 : decode cX12_back 74 = .ok (.iload 4, 2) := by decide +kernel
theorem dX12_back_76 : decode cX12_back 76 = .ok (.iload_n 1, 1) := by decide +kernel
theorem dX12_back_77 : decode cX12_back 77 = .ok (.if_icmp .gt 8, 3) := by decide +kernel
theorem dX12_back_80 : decode cX12_back 80 = .ok (.iload 5, 2) := by decide +kernel
theorem dX12_back_82 : decode cX12_back 82 = .ok (.ifCond .le 88, 3) := by decide +kernel
theorem dX12_back_85 : decode cX12_back 85 = .ok (.iload 5, 2) := by decide +kernel
theorem dX12_back_87 : decode cX12_back 87 = .ok (.iload 8, 2) := by decide +kernel
theorem dX12_back_89 : decode cX12_back 89 = .ok (.if_icmp .gt 7, 3) := by decide +kernel
theorem dX12_back_92 : decode cX12_back 92 = .ok (.iconst 1, 1) := by decide +kernel
theorem dX12_back_93 : decode cX12_back 93 = .ok (.goto 4, 3) := by decide +kernel
theorem dX12_back_96 : decode cX12_back 96 = .ok (.iconst 0, 1) := by decide +kernel
theorem dX12_back_97 : decode cX12_back 97 = .ok (.istore 9, 2) := by decide +kernel
theorem dX12_back_99 : decode cX12_back 99 = .ok (.iload 9, 2) := by decide +kernel
theorem dX12_back_101 : decode cX12_back 101 = .ok (.ifCond .ne 13, 3) := by decide +kernel
theorem dX12_back_104 : decode cX12_back 104 = .ok (.iload 5, 2) := by decide +kernel
theorem dX12_back_106 : decode cX12_back 106 = .ok (.iload 8, 2) := by decide +kernel
theorem dX12_back_108 : decode cX12_back 108 = .ok (.isub, 1) := by decide +kernel
theorem dX12_back_109 : decode cX12_back 109 = .ok (.istore 5, 2) := by decide +kernel
theorem dX12_back_111 : decode cX12_back 111 = .ok (.goto (-42), 3) := by decide +kernel
theorem dX12_back_114 : decode cX12_back 114 = .ok (.iload 8, 2) := by decide +kernel
theorem dX12_back_116 : decode cX12_back 116 = .ok (.iload 5, 2) := by decide +kernel
theorem dX12_back_118 : decode cX12_back 118 = .ok (.isub, 1) := by decide +kernel
theorem dX12_back_119 : decode cX12_back 119 = .ok (.istore 8, 2) := by decide +kernel
theorem dX12_back_121 : decode cX12_back 121 = .ok (.iconst 0, 1) := by decide +kernel
theorem dX12_back_122 : decode cX12_back 122 = .ok (.istore 5, 2) := by decide +kernel
theorem dX12_back_124 : decode cX12_back 124 = .ok (.iload 4, 2) := by decide +kernel
theorem dX12_back_126 : decode cX12_back 126 = .ok (.iload_n 1, 1) := by decide +kernel
theorem dX12_back_127 : decode cX12_back 127 = .ok (.if_icmp .le 16, 3) := by decide +kernel
theorem dX12_back_130 : decode cX12_back 130 = .ok (.aload_n 0, 1) := by decide +kernel
theorem dX12_back_131 : decode cX12_back 131 = .ok (.iload 4, 2) := by decide +kernel
theorem dX12_back_133 : decode cX12_back 133 = .ok (.invokevirtual 354, 3) := by decide +kernel
theorem dX12_back_136 : decode cX12_back 136 = .ok (.ifCond .eq 7, 3) := by decide +kernel
theorem dX12_back_139 : decode cX12_back 139 = .ok (.iconst 1, 1) := by decide +kernel
theorem dX12_back_140 : decode cX12_back 140 = .ok (.goto 4, 3) := by decide +kernel
theorem dX12_back_143 : decode cX12_back 143 = .ok (.iconst 0, 1) := by decide +kernel
theorem dX12_back_144 : decode cX12_back 144 = .ok (.istore 9, 2) := by decide +kernel
theorem dX12_back_146 : decode cX12_back 146 = .ok (.iload 9, 2) := by decide +kernel
theorem dX12_back_148 : decode cX12_back 148 = .ok (.ifCond .eq (-79), 3) := by decide +kernel
theorem dX12_back_151 : decode cX12_back 151 = .ok (.iinc 4 (-1), 3) := by decide +kernel
theorem dX12_back_154 : decode cX12_back 154 = .ok (.aload_n 0, 1) := by decide +kernel
theorem dX12_back_155 : decode cX12_back 155 = .ok (.aload_n 0, 1) := by decide +kernel
theorem dX12_back_156 : decode cX12_back 156 = .ok (.getfield 50, 3) := by decide +kernel
theorem dX12_back_159 : decode cX12_back 159 = .ok (.iload 4, 2) := by decide +kernel
theorem dX12_back_161 : decode cX12_back 161 = .ok (.iaload, 1) := by decide +kernel
theorem dX12_back_162 : decode cX12_back 162 = .ok (.invokevirtual 273, 3) := by decide +kernel
theorem dX12_back_165 : decode cX12_back 165 = .ok (.istore 5, 2) := by decide +kernel
theorem dX12_back_167 : decode cX12_back 167 = .ok (.goto (-98), 3) := by decide +kernel
theorem dX12_back_170 : decode cX12_back 170 = .ok (.iinc 6 1, 3) := by decide +kernel
theorem dX12_back_173 : decode cX12_back 173 = .ok (.iinc 7 1, 3) := by decide +kernel
theorem dX12_back_176 : decode cX12_back 176 = .ok (.goto (-147), 3) := by decide +kernel
theorem dX12_back_179 : decode cX12_back 179 = .ok (.iload 4, 2) := by decide +kernel
theorem dX12_back_181 : decode cX12_back 181 = .ok (.iload_n 1, 1) := by decide +kernel
theorem dX12_back_182 : decode cX12_back 182 = .ok (.if_icmp .ne 13, 3) := by decide +kernel
theorem dX12_back_185 : decode cX12_back 185 = .ok (.iload 5, 2) := by decide +kernel
theorem dX12_back_187 : decode cX12_back 187 = .ok (.ifCond .ne 8, 3) := by decide +kernel
theorem dX12_back_190 : decode cX12_back 190 = .ok (.iload 6, 2) := by decide +kernel
theorem dX12_back_192 : decode cX12_back 192 = .ok (.goto 4, 3) := by decide +kernel
theorem dX12_back_195 : decode cX12_back 195 = .ok (.iconst (-1), 1) := by decide +kernel
theorem dX12_back_196 : decode cX12_back 196 = .ok (.ireturn, 1) := by decide +kernel
theorem dX12_loads_0 : decode cX12_loads 0 = .ok (.aload_n 0, 1) := by decide +kernel
theorem dX12_loads_1 : decode cX12_loads 1 = .ok (.iconst 0, 1) := by decide +kernel
theorem dX12_loads_2 : decode cX12_loads 2 = .ok (.putfield 1, 3) := by decide +kernel
theorem dX12_loads_5 : decode cX12_loads 5 = .ok (.aload_n 0, 1) := by decide +kernel
theorem dX12_loads_6 : decode cX12_loads 6 = .ok (.sipush 940, 3) := by decide +kernel
theorem dX12_loads_9 : decode cX12_loads 9 = .ok (.invokevirtual 238, 3) := by decide +kernel
theorem dX12_loads_12 : decode cX12_loads 12 = .ok (.aload_n 0, 1) := by decide +kernel
theorem dX12_loads_13 : decode cX12_loads 13 = .ok (.getfield 18, 3) := by decide +kernel
theorem dX12_loads_16 : decode cX12_loads 16 = .ok (.iconst 1, 1) := by decide +kernel
theorem dX12_loads_17 : decode cX12_loads 17 = .ok (.bipush 8, 2) := by decide +kernel
theorem dX12_loads_19 : decode cX12_loads 19 = .ok (.invokestatic 182, 3) := by decide +kernel
theorem dX12_loads_22 : decode cX12_loads 22 = .ok (.ifCond .ne 5, 3) := by decide +kernel
theorem dX12_loads_25 : decode cX12_loads 25 = .ok (.iconst (-1), 1) := by decide +kernel
theorem dX12_loads_26 : decode cX12_loads 26 = .ok (.ireturn, 1) := by decide +kernel
theorem dX12_loads_27 : decode cX12_loads 27 = .ok (.iconst 0, 1) := by decide +kernel
theorem dX12_loads_28 : decode cX12_loads 28 = .ok (.istore_n 1, 1) := by decide +kernel
theorem dX12_loads_29 : decode cX12_loads 29 = .ok (.iload_n 1, 1) := by decide +kernel
theorem dX12_loads_30 : decode cX12_loads 30 = .ok (.aload_n 0, 1) := by decide +kernel
theorem dX12_loads_31 : decode cX12_loads 31 = .ok (.getfield 18, 3) := by decide +kernel
theorem dX12_loads_34 : decode cX12_loads 34 = .ok (.if_icmp .ge 23, 3) := by decide +kernel
theorem dX12_loads_37 : decode cX12_loads 37 = .ok (.aload_n 0, 1) := by decide +kernel
theorem dX12_loads_38 : decode cX12_loads 38 = .ok (.aload_n 0, 1) := by decide +kernel
theorem dX12_loads_39 : decode cX12_loads 39 = .ok (.iload_n 1, 1) := by decide +kernel
theorem dX12_loads_40 : decode cX12_loads 40 = .ok (.invokevirtual 357, 3) := by decide +kernel
theorem dX12_loads_43 : decode cX12_loads 43 = .ok (.invokevirtual 258, 3) := by decide +kernel
theorem dX12_loads_46 : decode cX12_loads 46 = .ok (.ifCond .ne 5, 3) := by decide +kernel
theorem dX12_loads_49 : decode cX12_loads 49 = .ok (.iconst (-1), 1) := by decide +kernel
theorem dX12_loads_50 : decode cX12_loads 50 = .ok (.ireturn, 1) := by decide +kernel
theorem dX12_loads_51 : decode cX12_loads 51 = .ok (.iinc 1 1, 3) := by decide +kernel
theorem dX12_loads_54 : decode cX12_loads 54 = .ok (.goto (-25), 3) := by decide +kernel
theorem dX12_loads_57 : decode cX12_loads 57 = .ok (.iconst 0, 1) := by decide +kernel
theorem dX12_loads_58 : decode cX12_loads 58 = .ok (.istore_n 1, 1) := by decide +kernel
theorem dX12_loads_59 : decode cX12_loads 59 = .ok (.iload_n 1, 1) := by decide +kernel
theorem dX12_loads_60 : decode cX12_loads 60 = .ok (.aload_n 0, 1) := by decide +kernel
theorem dX12_loads_61 : decode cX12_loads 61 = .ok (.getfield 18, 3) := by decide +kernel
theorem dX12_loads_64 : decode cX12_loads 64 = .ok (.if_icmp .ge 36, 3) := by decide +kernel
theorem dX12_loads_67 : decode cX12_loads 67 = .ok (.aload_n 0, 1) := by decide +kernel
theorem dX12_loads_68 : decode cX12_loads 68 = .ok (.getfield 74, 3) := by decide +kernel
theorem dX12_loads_71 : decode cX12_loads 71 = .ok (.iload_n 1, 1) := by decide +kernel
theorem dX12_loads_72 : decode cX12_loads 72 = .ok (.aload_n 0, 1) := by decide +kernel
theorem dX12_loads_73 : decode cX12_loads 73 = .ok (.aload_n 0, 1) := by decide +kernel
theorem dX12_loads_74 : decode cX12_loads 74 = .ok (.iload_n 1, 1) := by decide +kernel
theorem dX12_loads_75 : decode cX12_loads 75 = .ok (.invokevirtual 357, 3) := by decide +kernel
theorem dX12_loads_78 : decode cX12_loads 78 = .ok (.invokevirtual 345, 3) := by decide +kernel
theorem dX12_loads_81 : decode cX12_loads 81 = .ok (.iconst 1, 1) := by decide +kernel
theorem dX12_loads_82 : decode cX12_loads 82 = .ok (.aload_n 0, 1) := by decide +kernel
theorem dX12_loads_83 : decode cX12_loads 83 = .ok (.getfield 33, 3) := by decide +kernel
theorem dX12_loads_86 : decode cX12_loads 86 = .ok (.bipush 10, 2) := by decide +kernel
theorem dX12_loads_88 : decode cX12_loads 88 = .ok (.iaload, 1) := by decide +kernel
theorem dX12_loads_89 : decode cX12_loads 89 = .ok (.ishl, 1) := by decide +kernel
theorem dX12_loads_90 : decode cX12_loads 90 = .ok (.iconst 1, 1) := by decide +kernel
theorem dX12_loads_91 : decode cX12_loads 91 = .ok (.isub, 1) := by decide +kernel
theorem dX12_loads_92 : decode cX12_loads 92 = .ok (.iand, 1) := by decide +kernel
theorem dX12_loads_93 : decode cX12_loads 93 = .ok (.iastore, 1) := by decide +kernel
theorem dX12_loads_94 : decode cX12_loads 94 = .ok (.iinc 1 1, 3) := by decide +kernel
theorem dX12_loads_97 : decode cX12_loads 97 = .ok (.goto (-38), 3) := by decide +kernel
theorem dX12_loads_100 : decode cX12_loads 100 = .ok (.iconst 0, 1) := by decide +kernel
theorem dX12_loads_101 : decode cX12_loads 101 = .ok (.istore_n 1, 1) := by decide +kernel
theorem dX12_loads_102 : decode cX12_loads 102 = .ok (.iload_n 1, 1) := by decide +kernel
theorem dX12_loads_103 : decode cX12_loads 103 = .ok (.sipush 256, 3) := by decide +kernel
theorem dX12_loads_106 : decode cX12_loads 106 = .ok (.if_icmp .ge 25, 3) := by decide +kernel
theorem dX12_loads_109 : decode cX12_loads 109 = .ok (.aload_n 0, 1) := by decide +kernel
theorem dX12_loads_110 : decode cX12_loads 110 = .ok (.getfield 83, 3) := by decide +kernel
theorem dX12_loads_113 : decode cX12_loads 113 = .ok (.sipush 256, 3) := by decide +kernel
theorem dX12_loads_116 : decode cX12_loads 116 = .ok (.aload_n 0, 1) := by decide +kernel
theorem dX12_loads_117 : decode cX12_loads 117 = .ok (.getfield 18, 3) := by decide +kernel
theorem dX12_loads_120 : decode cX12_loads 120 = .ok (.imul, 1) := by decide +kernel
theorem dX12_loads_121 : decode cX12_loads 121 = .ok (.iload_n 1, 1) := by decide +kernel
theorem dX12_loads_122 : decode cX12_loads 122 = .ok (.iadd, 1) := by decide +kernel
theorem dX12_loads_123 : decode cX12_loads 123 = .ok (.iconst 0, 1) := by decide +kernel
theorem dX12_loads_124 : decode cX12_loads 124 = .ok (.iastore, 1) := by decide +kernel
theorem dX12_loads_125 : decode cX12_loads 125 = .ok (.iinc 1 1, 3) := by decide +kernel
theorem dX12_loads_128 : decode cX12_loads 128 = .ok (.goto (-26), 3) := by decide +kernel
theorem dX12_loads_131 : decode cX12_loads 131 = .ok (.aload_n 0, 1) := by decide +kernel
theorem dX12_loads_132 : decode cX12_loads 132 = .ok (.getfield 18, 3) := by decide +kernel
theorem dX12_loads_135 : decode cX12_loads 135 = .ok (.iconst 1, 1) := by decide +kernel
theorem dX12_loads_136 : decode cX12_loads 136 = .ok (.isub, 1) := by decide +kernel
theorem dX12_loads_137 : decode cX12_loads 137 = .ok (.istore_n 1, 1) := by decide +kernel
theorem dX12_loads_138 : decode cX12_loads 138 = .ok (.iload_n 1, 1) := by decide +kernel
theorem dX12_loads_139 : decode cX12_loads 139 = .ok (.ifCond .lt 130, 3) := by decide +kernel
theorem dX12_loads_142 : decode cX12_loads 142 = .ok (.iconst 0, 1) := by decide +kernel
theorem dX12_loads_143 : decode cX12_loads 143 = .ok (.istore_n 2, 1) := by decide +kernel
theorem dX12_loads_144 : decode cX12_loads 144 = .ok (.iload_n 2, 1) := by decide +kernel
theorem dX12_loads_145 : decode cX12_loads 145 = .ok (.sipush 256, 3) := by decide +kernel
theorem dX12_loads_148 : decode cX12_loads 148 = .ok (.if_icmp .ge 115, 3) := by decide +kernel
theorem dX12_loads_151 : decode cX12_loads 151 = .ok (.aload_n 0, 1) := by decide +kernel
theorem dX12_loads_152 : decode cX12_loads 152 = .ok (.getfield 83, 3) := by decide +kernel
theorem dX12_loads_155 : decode cX12_loads 155 = .ok (.sipush 256, 3) := by decide +kernel
theorem dX12_loads_158 : decode cX12_loads 158 = .ok (.iload_n 1, 1) := by decide +kernel
theorem dX12_loads_159 : decode cX12_loads 159 = .ok (.iconst 1, 1) := by decide +kernel
theorem dX12_loads_160 : decode cX12_loads 160 = .ok (.iadd, 1) := by decide +kernel
theorem dX12_loads_161 : decode cX12_loads 161 = .ok (.imul, 1) := by decide +kernel
theorem dX12_loads_162 : decode cX12_loads 162 = .ok (.iload_n 2, 1) := by decide +kernel
theorem dX12_loads_163 : decode cX12_loads 163 = .ok (.iadd, 1) := by decide +kernel
theorem dX12_loads_164 : decode cX12_loads 164 = .ok (.iaload, 1) := by decide +kernel
theorem dX12_loads_165 : decode cX12_loads 165 = .ok (.istore_n 3, 1) := by decide +kernel
theorem dX12_loads_166 : decode cX12_loads 166 = .ok (.iconst 0, 1) := by decide +kernel
theorem dX12_loads_167 : decode cX12_loads 167 = .ok (.istore 4, 2) := by decide +kernel
theorem dX12_loads_169 : decode cX12_loads 169 = .ok (.iload 4, 2) := by decide +kernel
theorem dX12_loads_171 : decode cX12_loads 171 = .ok (.bipush 8, 2) := by decide +kernel
theorem dX12_loads_173 : decode cX12_loads 173 = .ok (.if_icmp .ge 71, 3) := by decide +kernel
theorem dX12_loads_176 : decode cX12_loads 176 = .ok (.aload_n 0, 1) := by decide +kernel
theorem dX12_loads_177 : decode cX12_loads 177 = .ok (.getfield 74, 3) := by decide +kernel
theorem dX12_loads_180 : decode cX12_loads 180 = .ok (.iload_n 1, 1) := by decide +kernel
theorem dX12_loads_181 : decode cX12_loads 181 = .ok (.iaload, 1) := by decide +kernel
theorem dX12_loads_182 : decode cX12_loads 182 = .ok (.iload 4, 2) := by decide +kernel
theorem dX12_loads_184 : decode cX12_loads 184 = .ok (.invokestatic 229, 3) := by decide +kernel
theorem dX12_loads_187 : decode cX12_loads 187 = .ok (.ifCond .eq 51, 3) := by decide +kernel
theorem dX12_loads_190 : decode cX12_loads 190 = .ok (.iload_n 2, 1) := by decide +kernel
theorem dX12_loads_191 : decode cX12_loads 191 = .ok (.iload 4, 2) := by decide +kernel
theorem dX12_loads_193 : decode cX12_loads 193 = .ok (.invokestatic 229, 3) := by decide +kernel
theorem dX12_loads_196 : decode cX12_loads 196 = .ok (.ifCond .eq 6, 3) := by decide +kernel
theorem dX12_loads_199 : decode cX12_loads 199 = .ok (.goto 39, 3) := by decide +kernel
theorem dX12_loads_202 : decode cX12_loads 202 = .ok (.iconst 1, 1) := by decide +kernel
theorem dX12_loads_203 : decode cX12_loads 203 = .ok (.aload_n 0, 1) := by decide +kernel
theorem dX12_loads_204 : decode cX12_loads 204 = .ok (.getfield 83, 3) := by decide +kernel
theorem dX12_loads_207 : decode cX12_loads 207 = .ok (.sipush 256, 3) := by decide +kernel
theorem dX12_loads_210 : decode cX12_loads 210 = .ok (.iload_n 1, 1) := by decide +kernel
theorem dX12_loads_211 : decode cX12_loads 211 = .ok (.iconst 1, 1) := by decide +kernel
theorem dX12_loads_212 : decode cX12_loads 212 = .ok (.iadd, 1) := by decide +kernel
theorem dX12_loads_213 : decode cX12_loads 213 = .ok (.imul, 1) := by decide +kernel
theorem dX12_loads_214 : decode cX12_loads 214 = .ok (.iload_n 2, 1) := by decide +kernel
theorem dX12_loads_215 : decode cX12_loads 215 = .ok (.iconst 1, 1) := by decide +kernel
theorem dX12_loads_216 : decode cX12_loads 216 = .ok (.iload 4, 2) := by decide +kernel
theorem dX12_loads_218 : decode cX12_loads 218 = .ok (.ishl, 1) := by decide +kernel
theorem dX12_loads_219 : decode cX12_loads 219 = .ok (.ior, 1) := by decide +kernel
theorem dX12_loads_220 : decode cX12_loads 220 = .ok (.iadd, 1) := by decide +kernel
theorem dX12_loads_221 : decode cX12_loads 221 = .ok (.iaload, 1) := by decide +kernel
theorem dX12_loads_222 : decode cX12_loads 222 = .ok (.iadd, 1) := by decide +kernel
theorem dX12_loads_223 : decode cX12_loads 223 = .ok (.istore 5, 2) := by decide +kernel
theorem dX12_loads_225 : decode cX12_loads 225 = .ok (.iload 5, 2) := by decide +kernel
theorem dX12_loads_227 : decode cX12_loads 227 = .ok (.iload_n 3, 1) := by decide +kernel
theorem dX12_loads_228 : decode cX12_loads 228 = .ok (.if_icmp .le 8, 3) := by decide +kernel
theorem dX12_loads_231 : decode cX12_loads 231 = .ok (.iload 5, 2) := by decide +kernel
theorem dX12_loads_233 : decode cX12_loads 233 = .ok (.goto 4, 3) := by decide +kernel
theorem dX12_loads_236 : decode cX12_loads 236 = .ok (.iload_n 3, 1) := by decide +kernel
theorem dX12_loads_237 : decode cX12_loads 237 = .ok (.istore_n 3, 1) := by decide +kernel
theorem dX12_loads_238 : decode cX12_loads 238 = .ok (.iinc 4 1, 3) := by decide +kernel
theorem dX12_loads_241 : decode cX12_loads 241 = .ok (.goto (-72), 3) := by decide +kernel
theorem dX12_loads_244 : decode cX12_loads 244 = .ok (.aload_n 0, 1) := by decide +kernel
theorem dX12_loads_245 : decode cX12_loads 245 = .ok (.getfield 83, 3) := by decide +kernel
theorem dX12_loads_248 : decode cX12_loads 248 = .ok (.sipush 256, 3) := by decide +kernel
theorem dX12_loads_251 : decode cX12_loads 251 = .ok (.iload_n 1, 1) := by decide +kernel
theorem dX12_loads_252 : decode cX12_loads 252 = .ok (.imul, 1) := by decide +kernel
theorem dX12_loads_253 : decode cX12_loads 253 = .ok (.iload_n 2, 1) := by decide +kernel
theorem dX12_loads_254 : decode cX12_loads 254 = .ok (.iadd, 1) := by decide +kernel
theorem dX12_loads_255 : decode cX12_loads 255 = .ok (.iload_n 3, 1) := by decide +kernel
theorem dX12_loads_256 : decode cX12_loads 256 = .ok (.iastore, 1) := by decide +kernel
theorem dX12_loads_257 : decode cX12_loads 257 = .ok (.iinc 2 1, 3) := by decide +kernel
theorem dX12_loads_260 : decode cX12_loads 260 = .ok (.goto (-116), 3) := by decide +kernel
theorem dX12_loads_263 : decode cX12_loads 263 = .ok (.iinc 1 (-1), 3) := by decide +kernel
theorem dX12_loads_266 : decode cX12_loads 266 = .ok (.goto (-128), 3) := by decide +kernel
theorem dX12_loads_269 : decode cX12_loads 269 = .ok (.iconst 0, 1) := by decide +kernel
theorem dX12_loads_270 : decode cX12_loads 270 = .ok (.istore_n 1, 1) := by decide +kernel
theorem dX12_loads_271 : decode cX12_loads 271 = .ok (.aload_n 0, 1) := by decide +kernel
theorem dX12_loads_272 : decode cX12_loads 272 = .ok (.aload_n 0, 1) := by decide +kernel
theorem dX12_loads_273 : decode cX12_loads 273 = .ok (.getfield 18, 3) := by decide +kernel
theorem dX12_loads_276 : decode cX12_loads 276 = .ok (.putfield 86, 3) := by decide +kernel
theorem dX12_loads_279 : decode cX12_loads 279 = .ok (.iconst 0, 1) := by decide +kernel
theorem dX12_loads_280 : decode cX12_loads 280 = .ok (.istore_n 2, 1) := by decide +kernel
theorem dX12_loads_281 : decode cX12_loads 281 = .ok (.iload_n 2, 1) := by decide +kernel
theorem dX12_loads_282 : decode cX12_loads 282 = .ok (.aload_n 0, 1) := by decide +kernel
theorem dX12_loads_283 : decode cX12_loads 283 = .ok (.getfield 18, 3) := by decide +kernel
theorem dX12_loads_286 : decode cX12_loads 286 = .ok (.if_icmp .ge 108, 3) := by decide +kernel
theorem dX12_loads_289 : decode cX12_loads 289 = .ok (.iconst 0, 1) := by decide +kernel
theorem dX12_loads_290 : decode cX12_loads 290 = .ok (.istore_n 3, 1) := by decide +kernel
theorem dX12_loads_291 : decode cX12_loads 291 = .ok (.iload_n 3, 1) := by decide +kernel
theorem dX12_loads_292 : decode cX12_loads 292 = .ok (.bipush 8, 2) := by decide +kernel
theorem dX12_loads_294 : decode cX12_loads 294 = .ok (.if_icmp .ge 65, 3) := by decide +kernel
theorem dX12_loads_297 : decode cX12_loads 297 = .ok (.aload_n 0, 1) := by decide +kernel
theorem dX12_loads_298 : decode cX12_loads 298 = .ok (.getfield 74, 3) := by decide +kernel
theorem dX12_loads_301 : decode cX12_loads 301 = .ok (.iload_n 2, 1) := by decide +kernel
theorem dX12_loads_302 : decode cX12_loads 302 = .ok (.iaload, 1) := by decide +kernel
theorem dX12_loads_303 : decode cX12_loads 303 = .ok (.iload_n 3, 1) := by decide +kernel
theorem dX12_loads_304 : decode cX12_loads 304 = .ok (.invokestatic 229, 3) := by decide +kernel
theorem dX12_loads_307 : decode cX12_loads 307 = .ok (.ifCond .eq 46, 3) := by decide +kernel
theorem dX12_loads_310 : decode cX12_loads 310 = .ok (.iload_n 1, 1) := by decide +kernel
theorem dX12_loads_311 : decode cX12_loads 311 = .ok (.iload_n 3, 1) := by decide +kernel
theorem dX12_loads_312 : decode cX12_loads 312 = .ok (.invokestatic 229, 3) := by decide +kernel
theorem dX12_loads_315 : decode cX12_loads 315 = .ok (.ifCond .ne 38, 3) := by decide +kernel
theorem dX12_loads_318 : decode cX12_loads 318 = .ok (.iconst 1, 1) := by decide +kernel
theorem dX12_loads_319 : decode cX12_loads 319 = .ok (.aload_n 0, 1) := by decide +kernel
theorem dX12_loads_320 : decode cX12_loads 320 = .ok (.getfield 83, 3) := by decide +kernel
theorem dX12_loads_323 : decode cX12_loads 323 = .ok (.sipush 256, 3) := by decide +kernel
theorem dX12_loads_326 : decode cX12_loads 326 = .ok (.iload_n 2, 1) := by decide +kernel
theorem dX12_loads_327 : decode cX12_loads 327 = .ok (.iconst 1, 1) := by decide +kernel
theorem dX12_loads_328 : decode cX12_loads 328 = .ok (.iadd, 1) := by decide +kernel
theorem dX12_loads_329 : decode cX12_loads 329 = .ok (.imul, 1) := by decide +kernel
theorem dX12_loads_330 : decode cX12_loads 330 = .ok (.iload_n 1, 1) := by decide +kernel
theorem dX12_loads_331 : decode cX12_loads 331 = .ok (.iconst 1, 1) := by decide +kernel
theorem dX12_loads_332 : decode cX12_loads 332 = .ok (.iload_n 3, 1) := by decide +kernel
theorem dX12_loads_333 : decode cX12_loads 333 = .ok (.ishl, 1) := by decide +kernel
theorem dX12_loads_334 : decode cX12_loads 334 = .ok (.ior, 1) := by decide +kernel
theorem dX12_loads_335 : decode cX12_loads 335 = .ok (.iadd, 1) := by decide +kernel
theorem dX12_loads_336 : decode cX12_loads 336 = .ok (.iaload, 1) := by decide +kernel
theorem dX12_loads_337 : decode cX12_loads 337 = .ok (.iadd, 1) := by decide +kernel
theorem dX12_loads_338 : decode cX12_loads 338 = .ok (.aload_n 0, 1) := by decide +kernel
theorem dX12_loads_339 : decode cX12_loads 339 = .ok (.getfield 83, 3) := by decide +kernel
theorem dX12_loads_342 : decode cX12_loads 342 = .ok (.sipush 256, 3) := by decide +kernel
theorem dX12_loads_345 : decode cX12_loads 345 = .ok (.iload_n 2, 1) := by decide +kernel
theorem dX12_loads_346 : decode cX12_loads 346 = .ok (.imul, 1) := by decide +kernel
theorem dX12_loads_347 : decode cX12_loads 347 = .ok (.iload_n 1, 1) := by decide +kernel
theorem dX12_loads_348 : decode cX12_loads 348 = .ok (.iadd, 1) := by decide +kernel
theorem dX12_loads_349 : decode cX12_loads 349 = .ok (.iaload, 1) := by decide +kernel
theorem dX12_loads_350 : decode cX12_loads 350 = .ok (.if_icmp .eq 9, 3) := by decide +kernel
theorem dX12_loads_353 : decode cX12_loads 353 = .ok (.iinc 3 1, 3) := by decide +kernel
theorem dX12_loads_356 : decode cX12_loads 356 = .ok (.goto (-65), 3) := by decide +kernel
theorem dX12_loads_359 : decode cX12_loads 359 = .ok (.aload_n 0, 1) := by decide +kernel
theorem dX12_loads_360 : decode cX12_loads 360 = .ok (.getfield 77, 3) := by decide +kernel
theorem dX12_loads_363 : decode cX12_loads 363 = .ok (.iload_n 2, 1) := by decide +kernel
theorem dX12_loads_364 : decode cX12_loads 364 = .ok (.iload_n 3, 1) := by decide +kernel
theorem dX12_loads_365 : decode cX12_loads 365 = .ok (.bipush 8, 2) := by decide +kernel
theorem dX12_loads_367 : decode cX12_loads 367 = .ok (.if_icmp .ge 7, 3) := by decide +kernel
theorem dX12_loads_370 : decode cX12_loads 370 = .ok (.iload_n 3, 1) := by decide +kernel
theorem dX12_loads_371 : decode cX12_loads 371 = .ok (.goto 4, 3) := by decide +kernel
theorem dX12_loads_374 : decode cX12_loads 374 = .ok (.iconst (-1), 1) := by decide +kernel
theorem dX12_loads_375 : decode cX12_loads 375 = .ok (.iastore, 1) := by decide +kernel
theorem dX12_loads_376 : decode cX12_loads 376 = .ok (.iload_n 3, 1) := by decide +kernel
theorem dX12_loads_377 : decode cX12_loads 377 = .ok (.bipush 8, 2) := by decide +kernel
theorem dX12_loads_379 : decode cX12_loads 379 = .ok (.if_icmp .ge 9, 3) := by decide +kernel
theorem dX12_loads_382 : decode cX12_loads 382 = .ok (.iload_n 1, 1) := by decide +kernel
theorem dX12_loads_383 : decode cX12_loads 383 = .ok (.iconst 1, 1) := by decide +kernel
theorem dX12_loads_384 : decode cX12_loads 384 = .ok (.iload_n 3, 1) := by decide +kernel
theorem dX12_loads_385 : decode cX12_loads 385 = .ok (.ishl, 1) := by decide +kernel
theorem dX12_loads_386 : decode cX12_loads 386 = .ok (.ior, 1) := by decide +kernel
theorem dX12_loads_387 : decode cX12_loads 387 = .ok (.istore_n 1, 1) := by decide +kernel
theorem dX12_loads_388 : decode cX12_loads 388 = .ok (.iinc 2 1, 3) := by decide +kernel
theorem dX12_loads_391 : decode cX12_loads 391 = .ok (.goto (-110), 3) := by decide +kernel
theorem dX12_loads_394 : decode cX12_loads 394 = .ok (.aload_n 0, 1) := by decide +kernel
theorem dX12_loads_395 : decode cX12_loads 395 = .ok (.getfield 83, 3) := by decide +kernel
theorem dX12_loads_398 : decode cX12_loads 398 = .ok (.iconst 0, 1) := by decide +kernel
theorem dX12_loads_399 : decode cX12_loads 399 = .ok (.iaload, 1) := by decide +kernel
theorem dX12_loads_400 : decode cX12_loads 400 = .ok (.ireturn, 1) := by decide +kernel
theorem dX12_load_0 : decode cX12_load 0 = .ok (.aload_n 0, 1) := by decide +kernel
theorem dX12_load_1 : decode cX12_load 1 = .ok (.iconst 0, 1) := by decide +kernel
theorem dX12_load_2 : decode cX12_load 2 = .ok (.putfield 1, 3) := by decide +kernel
theorem dX12_load_5 : decode cX12_load 5 = .ok (.iload_n 1, 1) := by decide +kernel
theorem dX12_load_6 : decode cX12_load 6 = .ok (.iconst 0, 1) := by decide +kernel
theorem dX12_load_7 : decode cX12_load 7 = .ok (.aload_n 0, 1) := by decide +kernel
theorem dX12_load_8 : decode cX12_load 8 = .ok (.getfield 86, 3) := by decide +kernel
theorem dX12_load_11 : decode cX12_load 11 = .ok (.iconst 1, 1) := by decide +kernel
theorem dX12_load_12 : decode cX12_load 12 = .ok (.isub, 1) := by decide +kernel
theorem dX12_load_13 : decode cX12_load 13 = .ok (.invokestatic 182, 3) := by decide +kernel
theorem dX12_load_16 : decode cX12_load 16 = .ok (.ifCond .eq 12, 3) := by decide +kernel
theorem dX12_load_19 : decode cX12_load 19 = .ok (.aload_n 0, 1) := by decide +kernel
theorem dX12_load_20 : decode cX12_load 20 = .ok (.getfield 77, 3) := by decide +kernel
theorem dX12_load_23 : decode cX12_load 23 = .ok (.iload_n 1, 1) := by decide +kernel
theorem dX12_load_24 : decode cX12_load 24 = .ok (.iaload, 1) := by decide +kernel
theorem dX12_load_25 : decode cX12_load 25 = .ok (.goto 4, 3) := by decide +kernel
theorem dX12_load_28 : decode cX12_load 28 = .ok (.iconst (-1), 1) := by decide +kernel
theorem dX12_load_29 : decode cX12_load 29 = .ok (.ireturn, 1) := by decide +kernel
theorem dX12_cross_0 : decode cX12_cross 0 = .ok (.aload_n 0, 1) := by decide +kernel
theorem dX12_cross_1 : decode cX12_cross 1 = .ok (.iconst 0, 1) := by decide +kernel
theorem dX12_cross_2 : decode cX12_cross 2 = .ok (.putfield 1, 3) := by decide +kernel
theorem dX12_cross_5 : decode cX12_cross 5 = .ok (.iload_n 1, 1) := by decide +kernel
theorem dX12_cross_6 : decode cX12_cross 6 = .ok (.iconst 1, 1) := by decide +kernel
theorem dX12_cross_7 : decode cX12_cross 7 = .ok (.sipush 400, 3) := by decide +kernel
theorem dX12_cross_10 : decode cX12_cross 10 = .ok (.invokestatic 182, 3) := by decide +kernel
theorem dX12_cross_13 : decode cX12_cross 13 = .ok (.ifCond .eq 47, 3) := by decide +kernel
theorem dX12_cross_16 : decode cX12_cross 16 = .ok (.iload_n 2, 1) := by decide +kernel
theorem dX12_cross_17 : decode cX12_cross 17 = .ok (.iconst 1, 1) := by decide +kernel
theorem dX12_cross_18 : decode cX12_cross 18 = .ok (.sipush 400, 3) := by decide +kernel
theorem dX12_cross_21 : decode cX12_cross 21 = .ok (.invokestatic 182, 3) := by decide +kernel
theorem dX12_cross_24 : decode cX12_cross 24 = .ok (.ifCond .eq 36, 3) := by decide +kernel
theorem dX12_cross_27 : decode cX12_cross 27 = .ok (.aload_n 0, 1) := by decide +kernel
theorem dX12_cross_28 : decode cX12_cross 28 = .ok (.iload_n 3, 1) := by decide +kernel
theorem dX12_cross_29 : decode cX12_cross 29 = .ok (.invokevirtual 291, 3) := by decide +kernel
theorem dX12_cross_32 : decode cX12_cross 32 = .ok (.ifCond .eq 28, 3) := by decide +kernel
theorem dX12_cross_35 : decode cX12_cross 35 = .ok (.aload_n 0, 1) := by decide +kernel
theorem dX12_cross_36 : decode cX12_cross 36 = .ok (.iload 4, 2) := by decide +kernel
theorem dX12_cross_38 : decode cX12_cross 38 = .ok (.invokevirtual 291, 3) := by decide +kernel
theorem dX12_cross_41 : decode cX12_cross 41 = .ok (.ifCond .eq 19, 3) := by decide +kernel
theorem dX12_cross_44 : decode cX12_cross 44 = .ok (.iload_n 3, 1) := by decide +kernel
theorem dX12_cross_45 : decode cX12_cross 45 = .ok (.iload 4, 2) := by decide +kernel
theorem dX12_cross_47 : decode cX12_cross 47 = .ok (.if_icmp .ge 13, 3) := by decide +kernel
theorem dX12_cross_50 : decode cX12_cross 50 = .ok (.iload 5, 2) := by decide +kernel
theorem dX12_cross_52 : decode cX12_cross 52 = .ok (.iconst 0, 1) := by decide +kernel
theorem dX12_cross_53 : decode cX12_cross 53 = .ok (.iconst 1, 1) := by decide +kernel
theorem dX12_cross_54 : decode cX12_cross 54 = .ok (.invokestatic 182, 3) := by decide +kernel
theorem dX12_cross_57 : decode cX12_cross 57 = .ok (.ifCond .ne 5, 3) := by decide +kernel
theorem dX12_cross_60 : decode cX12_cross 60 = .ok (.iconst (-1), 1) := by decide +kernel
theorem dX12_cross_61 : decode cX12_cross 61 = .ok (.ireturn, 1) := by decide +kernel
theorem dX12_cross_62 : decode cX12_cross 62 = .ok (.iconst (-1), 1) := by decide +kernel
theorem dX12_cross_63 : decode cX12_cross 63 = .ok (.istore 6, 2) := by decide +kernel
theorem dX12_cross_65 : decode cX12_cross 65 = .ok (.ldc_w 360, 3) := by decide +kernel
theorem dX12_cross_68 : decode cX12_cross 68 = .ok (.istore 7, 2) := by decide +kernel
theorem dX12_cross_70 : decode cX12_cross 70 = .ok (.iconst 0, 1) := by decide +kernel
theorem dX12_cross_71 : decode cX12_cross 71 = .ok (.istore 8, 2) := by decide +kernel
theorem dX12_cross_73 : decode cX12_cross 73 = .ok (.iload 8, 2) := by decide +kernel
theorem dX12_cross_75 : decode cX12_cross 75 = .ok (.aload_n 0, 1) := by decide +kernel
theorem dX12_cross_76 : decode cX12_cross 76 = .ok (.getfield 33, 3) := by decide +kernel
theorem dX12_cross_79 : decode cX12_cross 79 = .ok (.iconst 2, 1) := by decide +kernel
theorem dX12_cross_80 : decode cX12_cross 80 = .ok (.iaload, 1) := by decide +kernel
theorem dX12_cross_81 : decode cX12_cross 81 = .ok (.if_icmp .ge 135, 3) := by decide +kernel
theorem dX12_cross_84 : decode cX12_cross 84 = .ok (.aload_n 0, 1) := by decide +kernel
theorem dX12_cross_85 : decode cX12_cross 85 = .ok (.getfield 33, 3) := by decide +kernel
theorem dX12_cross_88 : decode cX12_cross 88 = .ok (.sipush 441, 3) := by decide +kernel
theorem dX12_cross_91 : decode cX12_cross 91 = .ok (.iconst 2, 1) := by decide +kernel
theorem dX12_cross_92 : decode cX12_cross 92 = .ok (.iload 8, 2) := by decide +kernel
theorem dX12_cross_94 : decode cX12_cross 94 = .ok (.imul, 1) := by decide +kernel
theorem dX12_cross_95 : decode cX12_cross 95 = .ok (.iadd, 1) := by decide +kernel
theorem dX12_cross_96 : decode cX12_cross 96 = .ok (.iaload, 1) := by decide +kernel
theorem dX12_cross_97 : decode cX12_cross 97 = .ok (.istore 9, 2) := by decide +kernel
theorem dX12_cross_99 : decode cX12_cross 99 = .ok (.iload 9, 2) := by decide +kernel
theorem dX12_cross_101 : decode cX12_cross 101 = .ok (.iload_n 3, 1) := by decide +kernel
theorem dX12_cross_102 : decode cX12_cross 102 = .ok (.iload 4, 2) := by decide +kernel
theorem dX12_cross_104 : decode cX12_cross 104 = .ok (.invokestatic 182, 3) := by decide +kernel
theorem dX12_cross_107 : decode cX12_cross 107 = .ok (.ifCond .eq 103, 3) := by decide +kernel
theorem dX12_cross_110 : decode cX12_cross 110 = .ok (.aload_n 0, 1) := by decide +kernel
theorem dX12_cross_111 : decode cX12_cross 111 = .ok (.getfield 33, 3) := by decide +kernel
theorem dX12_cross_114 : decode cX12_cross 114 = .ok (.sipush 441, 3) := by decide +kernel
theorem dX12_cross_117 : decode cX12_cross 117 = .ok (.iconst 2, 1) := by decide +kernel
theorem dX12_cross_118 : decode cX12_cross 118 = .ok (.iload 8, 2) := by decide +kernel
theorem dX12_cross_120 : decode cX12_cross 120 = .ok (.imul, 1) := by decide +kernel
theorem dX12_cross_121 : decode cX12_cross 121 = .ok (.iadd, 1) := by decide +kernel
theorem dX12_cross_122 : decode cX12_cross 122 = .ok (.iconst 1, 1) := by decide +kernel
theorem dX12_cross_123 : decode cX12_cross 123 = .ok (.iadd, 1) := by decide +kernel
theorem dX12_cross_124 : decode cX12_cross 124 = .ok (.iaload, 1) := by decide +kernel
theorem dX12_cross_125 : decode cX12_cross 125 = .ok (.iload_n 1, 1) := by decide +kernel
theorem dX12_cross_126 : decode cX12_cross 126 = .ok (.iload_n 2, 1) := by decide +kernel
theorem dX12_cross_127 : decode cX12_cross 127 = .ok (.if_icmp .ge 7, 3) := by decide +kernel
theorem dX12_cross_130 : decode cX12_cross 130 = .ok (.iload_n 1, 1) := by decide +kernel
theorem dX12_cross_131 : decode cX12_cross 131 = .ok (.goto 4, 3) := by decide +kernel
theorem dX12_cross_134 : decode cX12_cross 134 = .ok (.iload_n 2, 1) := by decide +kernel
theorem dX12_cross_135 : decode cX12_cross 135 = .ok (.if_icmp .ge 6, 3) := by decide +kernel
theorem dX12_cross_138 : decode cX12_cross 138 = .ok (.goto 72, 3) := by decide +kernel
theorem dX12_cross_141 : decode cX12_cross 141 = .ok (.iload 9, 2) := by decide +kernel
theorem dX12_cross_143 : decode cX12_cross 143 = .ok (.iload_n 3, 1) := by decide +kernel
theorem dX12_cross_144 : decode cX12_cross 144 = .ok (.isub, 1) := by decide +kernel
theorem dX12_cross_145 : decode cX12_cross 145 = .ok (.iload_n 1, 1) := by decide +kernel
theorem dX12_cross_146 : decode cX12_cross 146 = .ok (.iload_n 2, 1) := by decide +kernel
theorem dX12_cross_147 : decode cX12_cross 147 = .ok (.if_icmp .gt 7, 3) := by decide +kernel
theorem dX12_cross_150 : decode cX12_cross 150 = .ok (.iload_n 1, 1) := by decide +kernel
theorem dX12_cross_151 : decode cX12_cross 151 = .ok (.goto 4, 3) := by decide +kernel
theorem dX12_cross_154 : decode cX12_cross 154 = .ok (.iconst 0, 1) := by decide +kernel
theorem dX12_cross_155 : decode cX12_cross 155 = .ok (.iadd, 1) := by decide +kernel
theorem dX12_cross_156 : decode cX12_cross 156 = .ok (.istore 10, 2) := by decide +kernel
theorem dX12_cross_158 : decode cX12_cross 158 = .ok (.iload 4, 2) := by decide +kernel
theorem dX12_cross_160 : decode cX12_cross 160 = .ok (.iload 9, 2) := by decide +kernel
theorem dX12_cross_162 : decode cX12_cross 162 = .ok (.isub, 1) := by decide +kernel
theorem dX12_cross_163 : decode cX12_cross 163 = .ok (.iload_n 1, 1) := by decide +kernel
theorem dX12_cross_164 : decode cX12_cross 164 = .ok (.iload_n 2, 1) := by decide +kernel
theorem dX12_cross_165 : decode cX12_cross 165 = .ok (.if_icmp .gt 7, 3) := by decide +kernel
theorem dX12_cross_168 : decode cX12_cross 168 = .ok (.iconst 0, 1) := by decide +kernel
theorem dX12_cross_169 : decode cX12_cross 169 = .ok (.goto 4, 3) := by decide +kernel
theorem dX12_cross_172 : decode cX12_cross 172 = .ok (.iload_n 2, 1) := by decide +kernel
theorem dX12_cross_173 : decode cX12_cross 173 = .ok (.iadd, 1) := by decide +kernel
theorem dX12_cross_174 : decode cX12_cross 174 = .ok (.istore 11, 2) := by decide +kernel
theorem dX12_cross_176 : decode cX12_cross 176 = .ok (.iload 10, 2) := by decide +kernel
theorem dX12_cross_178 : decode cX12_cross 178 = .ok (.iload 11, 2) := by decide +kernel
theorem dX12_cross_180 : decode cX12_cross 180 = .ok (.if_icmp .le 8, 3) := by decide +kernel
theorem dX12_cross_183 : decode cX12_cross 183 = .ok (.iload 10, 2) := by decide +kernel
theorem dX12_cross_185 : decode cX12_cross 185 = .ok (.goto 5, 3) := by decide +kernel
theorem dX12_cross_188 : decode cX12_cross 188 = .ok (.iload 11, 2) := by decide +kernel
theorem dX12_cross_190 : decode cX12_cross 190 = .ok (.istore 12, 2) := by decide +kernel
theorem dX12_cross_192 : decode cX12_cross 192 = .ok (.iload 12, 2) := by decide +kernel
theorem dX12_cross_194 : decode cX12_cross 194 = .ok (.iload 7, 2) := by decide +kernel
theorem dX12_cross_196 : decode cX12_cross 196 = .ok (.if_icmp .lt 6, 3) := by decide +kernel
theorem dX12_cross_199 : decode cX12_cross 199 = .ok (.goto 11, 3) := by decide +kernel
theorem dX12_cross_202 : decode cX12_cross 202 = .ok (.iload 12, 2) := by decide +kernel
theorem dX12_cross_204 : decode cX12_cross 204 = .ok (.istore 7, 2) := by decide +kernel
theorem dX12_cross_206 : decode cX12_cross 206 = .ok (.iload 8, 2) := by decide +kernel
theorem dX12_cross_208 : decode cX12_cross 208 = .ok (.istore 6, 2) := by decide +kernel
theorem dX12_cross_210 : decode cX12_cross 210 = .ok (.iinc 8 1, 3) := by decide +kernel
theorem dX12_cross_213 : decode cX12_cross 213 = .ok (.goto (-140), 3) := by decide +kernel
theorem dX12_cross_216 : decode cX12_cross 216 = .ok (.iload 6, 2) := by decide +kernel
theorem dX12_cross_218 : decode cX12_cross 218 = .ok (.ifCond .lt 8, 3) := by decide +kernel
theorem dX12_cross_221 : decode cX12_cross 221 = .ok (.iload 5, 2) := by decide +kernel
theorem dX12_cross_223 : decode cX12_cross 223 = .ok (.ifCond .ne 8, 3) := by decide +kernel
theorem dX12_cross_226 : decode cX12_cross 226 = .ok (.iload 6, 2) := by decide +kernel
theorem dX12_cross_228 : decode cX12_cross 228 = .ok (.goto 5, 3) := by decide +kernel
theorem dX12_cross_231 : decode cX12_cross 231 = .ok (.iload 7, 2) := by decide +kernel
theorem dX12_cross_233 : decode cX12_cross 233 = .ok (.ireturn, 1) := by decide +kernel
theorem dX12_ring_0 : decode cX12_ring 0 = .ok (.aload_n 0, 1) := by decide +kernel
theorem dX12_ring_1 : decode cX12_ring 1 = .ok (.iconst 0, 1) := by decide +kernel
theorem dX12_ring_2 : decode cX12_ring 2 = .ok (.putfield 1, 3) := by decide +kernel
theorem dX12_ring_5 : decode cX12_ring 5 = .ok (.iload_n 1, 1) := by decide +kernel
theorem dX12_ring_6 : decode cX12_ring 6 = .ok (.iconst 1, 1) := by decide +kernel
theorem dX12_ring_7 : decode cX12_ring 7 = .ok (.sipush 9999, 3) := by decide +kernel
theorem dX12_ring_10 : decode cX12_ring 10 = .ok (.invokestatic 182, 3) := by decide +kernel
theorem dX12_ring_13 : decode cX12_ring 13 = .ok (.ifCond .eq 34, 3) := by decide +kernel
theorem dX12_ring_16 : decode cX12_ring 16 = .ok (.iload_n 2, 1) := by decide +kernel
theorem dX12_ring_17 : decode cX12_ring 17 = .ok (.iconst 1, 1) := by decide +kernel
theorem dX12_ring_18 : decode cX12_ring 18 = .ok (.sipush 999, 3) := by decide +kernel
theorem dX12_ring_21 : decode cX12_ring 21 = .ok (.invokestatic 182, 3) := by decide +kernel
theorem dX12_ring_24 : decode cX12_ring 24 = .ok (.ifCond .eq 23, 3) := by decide +kernel
theorem dX12_ring_27 : decode cX12_ring 27 = .ok (.iload_n 3, 1) := by decide +kernel
theorem dX12_ring_28 : decode cX12_ring 28 = .ok (.iconst 1, 1) := by decide +kernel
theorem dX12_ring_29 : decode cX12_ring 29 = .ok (.sipush 999, 3) := by decide +kernel
theorem dX12_ring_32 : decode cX12_ring 32 = .ok (.invokestatic 182, 3) := by decide +kernel
theorem dX12_ring_35 : decode cX12_ring 35 = .ok (.ifCond .eq 12, 3) := by decide +kernel
theorem dX12_ring_38 : decode cX12_ring 38 = .ok (.aload_n 0, 1) := by decide +kernel
theorem dX12_ring_39 : decode cX12_ring 39 = .ok (.iload 4, 2) := by decide +kernel
theorem dX12_ring_41 : decode cX12_ring 41 = .ok (.invokevirtual 267, 3) := by decide +kernel
theorem dX12_ring_44 : decode cX12_ring 44 = .ok (.ifCond .ne 5, 3) := by decide +kernel
theorem dX12_ring_47 : decode cX12_ring 47 = .ok (.iconst (-1), 1) := by decide +kernel
theorem dX12_ring_48 : decode cX12_ring 48 = .ok (.ireturn, 1) := by decide +kernel
theorem dX12_ring_49 : decode cX12_ring 49 = .ok (.iconst 0, 1) := by decide +kernel
theorem dX12_ring_50 : decode cX12_ring 50 = .ok (.istore 5, 2) := by decide +kernel
theorem dX12_ring_52 : decode cX12_ring 52 = .ok (.iload_n 2, 1) := by decide +kernel
theorem dX12_ring_53 : decode cX12_ring 53 = .ok (.iload_n 3, 1) := by decide +kernel
theorem dX12_ring_54 : decode cX12_ring 54 = .ok (.iadd, 1) := by decide +kernel
theorem dX12_ring_55 : decode cX12_ring 55 = .ok (.aload_n 0, 1) := by decide +kernel
theorem dX12_ring_56 : decode cX12_ring 56 = .ok (.iload 4, 2) := by decide +kernel
theorem dX12_ring_58 : decode cX12_ring 58 = .ok (.invokevirtual 273, 3) := by decide +kernel
theorem dX12_ring_61 : decode cX12_ring 61 = .ok (.iadd, 1) := by decide +kernel
theorem dX12_ring_62 : decode cX12_ring 62 = .ok (.istore 6, 2) := by decide +kernel
theorem dX12_ring_64 : decode cX12_ring 64 = .ok (.iload 6, 2) := by decide +kernel
theorem dX12_ring_66 : decode cX12_ring 66 = .ok (.iload_n 1, 1) := by decide +kernel
theorem dX12_ring_67 : decode cX12_ring 67 = .ok (.if_icmp .gt 20, 3) := by decide +kernel
theorem dX12_ring_70 : decode cX12_ring 70 = .ok (.iinc 5 1, 3) := by decide +kernel
theorem dX12_ring_73 : decode cX12_ring 73 = .ok (.iload 6, 2) := by decide +kernel
theorem dX12_ring_75 : decode cX12_ring 75 = .ok (.aload_n 0, 1) := by decide +kernel
theorem dX12_ring_76 : decode cX12_ring 76 = .ok (.iload 4, 2) := by decide +kernel
theorem dX12_ring_78 : decode cX12_ring 78 = .ok (.invokevirtual 273, 3) := by decide +kernel
theorem dX12_ring_81 : decode cX12_ring 81 = .ok (.iadd, 1) := by decide +kernel
theorem dX12_ring_82 : decode cX12_ring 82 = .ok (.istore 6, 2) := by decide +kernel
theorem dX12_ring_84 : decode cX12_ring 84 = .ok (.goto (-20), 3) := by decide +kernel
theorem dX12_ring_87 : decode cX12_ring 87 = .ok (.iload 5, 2) := by decide +kernel
theorem dX12_ring_89 : decode cX12_ring 89 = .ok (.ireturn, 1) := by decide +kernel
theorem dX12_nowStands_0 : decode cX12_nowStands 0 = .ok (.aload_n 0, 1) := by decide +kernel
theorem dX12_nowStands_1 : decode cX12_nowStands 1 = .ok (.aload_n 0, 1) := by decide +kernel
theorem dX12_nowStands_2 : decode cX12_nowStands 2 = .ok (.getfield 33, 3) := by decide +kernel
theorem dX12_nowStands_5 : decode cX12_nowStands 5 = .ok (.sipush 484, 3) := by decide +kernel
theorem dX12_nowStands_8 : decode cX12_nowStands 8 = .ok (.iaload, 1) := by decide +kernel
theorem dX12_nowStands_9 : decode cX12_nowStands 9 = .ok (.putfield 270, 3) := by decide +kernel
theorem dX12_nowStands_12 : decode cX12_nowStands 12 = .ok (.iconst 0, 1) := by decide +kernel
theorem dX12_nowStands_13 : decode cX12_nowStands 13 = .ok (.istore_n 2, 1) := by decide +kernel
theorem dX12_nowStands_14 : decode cX12_nowStands 14 = .ok (.iload_n 2, 1) := by decide +kernel
theorem dX12_nowStands_15 : decode cX12_nowStands 15 = .ok (.aload_n 0, 1) := by decide +kernel
theorem dX12_nowStands_16 : decode cX12_nowStands 16 = .ok (.getfield 270, 3) := by decide +kernel
theorem dX12_nowStands_19 : decode cX12_nowStands 19 = .ok (.if_icmp .ge 25, 3) := by decide +kernel
theorem dX12_nowStands_22 : decode cX12_nowStands 22 = .ok (.aload_n 0, 1) := by decide +kernel
theorem dX12_nowStands_23 : decode cX12_nowStands 23 = .ok (.getfield 50, 3) := by decide +kernel
theorem dX12_nowStands_26 : decode cX12_nowStands 26 = .ok (.iload_n 2, 1) := by decide +kernel
theorem dX12_nowStands_27 : decode cX12_nowStands 27 = .ok (.aload_n 0, 1) := by decide +kernel
theorem dX12_nowStands_28 : decode cX12_nowStands 28 = .ok (.getfield 33, 3) := by decide +kernel
theorem dX12_nowStands_31 : decode cX12_nowStands 31 = .ok (.sipush 495, 3) := by decide +kernel
theorem dX12_nowStands_34 : decode cX12_nowStands 34 = .ok (.iload_n 2, 1) := by decide +kernel
theorem dX12_nowStands_35 : decode cX12_nowStands 35 = .ok (.iadd, 1) := by decide +kernel
theorem dX12_nowStands_36 : decode cX12_nowStands 36 = .ok (.iaload, 1) := by decide +kernel
theorem dX12_nowStands_37 : decode cX12_nowStands 37 = .ok (.iastore, 1) := by decide +kernel
theorem dX12_nowStands_38 : decode cX12_nowStands 38 = .ok (.iinc 2 1, 3) := by decide +kernel
theorem dX12_nowStands_41 : decode cX12_nowStands 41 = .ok (.goto (-27), 3) := by decide +kernel
theorem dX12_nowStands_44 : decode cX12_nowStands 44 = .ok (.aload_n 0, 1) := by decide +kernel
theorem dX12_nowStands_45 : decode cX12_nowStands 45 = .ok (.iload_n 1, 1) := by decide +kernel
theorem dX12_nowStands_46 : decode cX12_nowStands 46 = .ok (.invokevirtual 285, 3) := by decide +kernel
theorem dX12_nowStands_49 : decode cX12_nowStands 49 = .ok (.iconst 0, 1) := by decide +kernel
theorem dX12_nowStands_50 : decode cX12_nowStands 50 = .ok (.istore_n 2, 1) := by decide +kernel
theorem dX12_nowStands_51 : decode cX12_nowStands 51 = .ok (.iload_n 2, 1) := by decide +kernel
theorem dX12_nowStands_52 : decode cX12_nowStands 52 = .ok (.aload_n 0, 1) := by decide +kernel
theorem dX12_nowStands_53 : decode cX12_nowStands 53 = .ok (.getfield 33, 3) := by decide +kernel
theorem dX12_nowStands_56 : decode cX12_nowStands 56 = .ok (.sipush 486, 3) := by decide +kernel
theorem dX12_nowStands_59 : decode cX12_nowStands 59 = .ok (.iaload, 1) := by decide +kernel
theorem dX12_nowStands_60 : decode cX12_nowStands 60 = .ok (.if_icmp .ge 33, 3) := by decide +kernel
theorem dX12_nowStands_63 : decode cX12_nowStands 63 = .ok (.aload_n 0, 1) := by decide +kernel
theorem dX12_nowStands_64 : decode cX12_nowStands 64 = .ok (.aload_n 0, 1) := by decide +kernel
theorem dX12_nowStands_65 : decode cX12_nowStands 65 = .ok (.getfield 33, 3) := by decide +kernel
theorem dX12_nowStands_68 : decode cX12_nowStands 68 = .ok (.sipush 487, 3) := by decide +kernel
theorem dX12_nowStands_71 : decode cX12_nowStands 71 = .ok (.iload_n 2, 1) := by decide +kernel
theorem dX12_nowStands_72 : decode cX12_nowStands 72 = .ok (.iadd, 1) := by decide +kernel
theorem dX12_nowStands_73 : decode cX12_nowStands 73 = .ok (.iaload, 1) := by decide +kernel
theorem dX12_nowStands_74 : decode cX12_nowStands 74 = .ok (.aload_n 0, 1) := by decide +kernel
theorem dX12_nowStands_75 : decode cX12_nowStands 75 = .ok (.getfield 33, 3) := by decide +kernel
theorem dX12_nowStands_78 : decode cX12_nowStands 78 = .ok (.sipush 491, 3) := by decide +kernel
theorem dX12_nowStands_81 : decode cX12_nowStands 81 = .ok (.iload_n 2, 1) := by decide +kernel
theorem dX12_nowStands_82 : decode cX12_nowStands 82 = .ok (.iadd, 1) := by decide +kernel
theorem dX12_nowStands_83 : decode cX12_nowStands 83 = .ok (.iaload, 1) := by decide +kernel
theorem dX12_nowStands_84 : decode cX12_nowStands 84 = .ok (.invokevirtual 308, 3) := by decide +kernel
theorem dX12_nowStands_87 : decode cX12_nowStands 87 = .ok (.iinc 2 1, 3) := by decide +kernel
theorem dX12_nowStands_90 : decode cX12_nowStands 90 = .ok (.goto (-39), 3) := by decide +kernel
theorem dX12_nowStands_93 : decode cX12_nowStands 93 = .ok (.return_, 1) := by decide +kernel
theorem dX12_unitsOf_0 : decode cX12_unitsOf 0 = .ok (.iconst 0, 1) := by decide +kernel
theorem dX12_unitsOf_1 : decode cX12_unitsOf 1 = .ok (.istore_n 3, 1) := by decide +kernel
theorem dX12_unitsOf_2 : decode cX12_unitsOf 2 = .ok (.iconst 0, 1) := by decide +kernel
theorem dX12_unitsOf_3 : decode cX12_unitsOf 3 = .ok (.istore 4, 2) := by decide +kernel
theorem dX12_unitsOf_5 : decode cX12_unitsOf 5 = .ok (.iload 4, 2) := by decide +kernel
theorem dX12_unitsOf_7 : decode cX12_unitsOf 7 = .ok (.iload_n 2, 1) := by decide +kernel
theorem dX12_unitsOf_8 : decode cX12_unitsOf 8 = .ok (.if_icmp .ge 25, 3) := by decide +kernel
theorem dX12_unitsOf_11 : decode cX12_unitsOf 11 = .ok (.iload_n 3, 1) := by decide +kernel
theorem dX12_unitsOf_12 : decode cX12_unitsOf 12 = .ok (.aload_n 0, 1) := by decide +kernel
theorem dX12_unitsOf_13 : decode cX12_unitsOf 13 = .ok (.aload_n 0, 1) := by decide +kernel
theorem dX12_unitsOf_14 : decode cX12_unitsOf 14 = .ok (.getfield 33, 3) := by decide +kernel
theorem dX12_unitsOf_17 : decode cX12_unitsOf 17 = .ok (.iload_n 1, 1) := by decide +kernel
theorem dX12_unitsOf_18 : decode cX12_unitsOf 18 = .ok (.iload 4, 2) := by decide +kernel
theorem dX12_unitsOf_20 : decode cX12_unitsOf 20 = .ok (.iadd, 1) := by decide +kernel
theorem dX12_unitsOf_21 : decode cX12_unitsOf 21 = .ok (.iaload, 1) := by decide +kernel
theorem dX12_unitsOf_22 : decode cX12_unitsOf 22 = .ok (.invokevirtual 273, 3) := by decide +kernel
theorem dX12_unitsOf_25 : decode cX12_unitsOf 25 = .ok (.iadd, 1) := by decide +kernel
theorem dX12_unitsOf_26 : decode cX12_unitsOf 26 = .ok (.istore_n 3, 1) := by decide +kernel
theorem dX12_unitsOf_27 : decode cX12_unitsOf 27 = .ok (.iinc 4 1, 3) := by decide +kernel
theorem dX12_unitsOf_30 : decode cX12_unitsOf 30 = .ok (.goto (-25), 3) := by decide +kernel
theorem dX12_unitsOf_33 : decode cX12_unitsOf 33 = .ok (.iload_n 3, 1) := by decide +kernel
theorem dX12_unitsOf_34 : decode cX12_unitsOf 34 = .ok (.ireturn, 1) := by decide +kernel
theorem dX12_train_0 : decode cX12_train 0 = .ok (.aload_n 0, 1) := by decide +kernel
theorem dX12_train_1 : decode cX12_train 1 = .ok (.iconst 0, 1) := by decide +kernel
theorem dX12_train_2 : decode cX12_train 2 = .ok (.putfield 1, 3) := by decide +kernel
theorem dX12_train_5 : decode cX12_train 5 = .ok (.aload_n 0, 1) := by decide +kernel
theorem dX12_train_6 : decode cX12_train 6 = .ok (.getfield 33, 3) := by decide +kernel
theorem dX12_train_9 : decode cX12_train 9 = .ok (.iconst 5, 1) := by decide +kernel
theorem dX12_train_10 : decode cX12_train 10 = .ok (.iaload, 1) := by decide +kernel
theorem dX12_train_11 : decode cX12_train 11 = .ok (.istore_n 2, 1) := by decide +kernel
theorem dX12_train_12 : decode cX12_train 12 = .ok (.iconst 0, 1) := by decide +kernel
theorem dX12_train_13 : decode cX12_train 13 = .ok (.istore_n 3, 1) := by decide +kernel
theorem dX12_train_14 : decode cX12_train 14 = .ok (.iload_n 3, 1) := by decide +kernel
theorem dX12_train_15 : decode cX12_train 15 = .ok (.aload_n 0, 1) := by decide +kernel
theorem dX12_train_16 : decode cX12_train 16 = .ok (.getfield 33, 3) := by decide +kernel
theorem dX12_train_19 : decode cX12_train 19 = .ok (.sipush 484, 3) := by decide +kernel
theorem dX12_train_22 : decode cX12_train 22 = .ok (.iaload, 1) := by decide +kernel
theorem dX12_train_23 : decode cX12_train 23 = .ok (.if_icmp .ge 26, 3) := by decide +kernel
theorem dX12_train_26 : decode cX12_train 26 = .ok (.iload_n 2, 1) := by decide +kernel
theorem dX12_train_27 : decode cX12_train 27 = .ok (.aload_n 0, 1) := by decide +kernel
theorem dX12_train_28 : decode cX12_train 28 = .ok (.aload_n 0, 1) := by decide +kernel
theorem dX12_train_29 : decode cX12_train 29 = .ok (.getfield 33, 3) := by decide +kernel
theorem dX12_train_32 : decode cX12_train 32 = .ok (.sipush 495, 3) := by decide +kernel
theorem dX12_train_35 : decode cX12_train 35 = .ok (.iload_n 3, 1) := by decide +kernel
theorem dX12_train_36 : decode cX12_train 36 = .ok (.iadd, 1) := by decide +kernel
theorem dX12_train_37 : decode cX12_train 37 = .ok (.iaload, 1) := by decide +kernel
theorem dX12_train_38 : decode cX12_train 38 = .ok (.invokevirtual 276, 3) := by decide +kernel
theorem dX12_train_41 : decode cX12_train 41 = .ok (.iadd, 1) := by decide +kernel
theorem dX12_train_42 : decode cX12_train 42 = .ok (.istore_n 2, 1) := by decide +kernel
theorem dX12_train_43 : decode cX12_train 43 = .ok (.iinc 3 1, 3) := by decide +kernel
theorem dX12_train_46 : decode cX12_train 46 = .ok (.goto (-32), 3) := by decide +kernel
theorem dX12_train_49 : decode cX12_train 49 = .ok (.aload_n 0, 1) := by decide +kernel
theorem dX12_train_50 : decode cX12_train 50 = .ok (.aload_n 0, 1) := by decide +kernel
theorem dX12_train_51 : decode cX12_train 51 = .ok (.getfield 33, 3) := by decide +kernel
theorem dX12_train_54 : decode cX12_train 54 = .ok (.sipush 483, 3) := by decide +kernel
theorem dX12_train_57 : decode cX12_train 57 = .ok (.iaload, 1) := by decide +kernel
theorem dX12_train_58 : decode cX12_train 58 = .ok (.invokevirtual 361, 3) := by decide +kernel
theorem dX12_train_61 : decode cX12_train 61 = .ok (.iload_n 1, 1) := by decide +kernel
theorem dX12_train_62 : decode cX12_train 62 = .ok (.tableswitch 116 0 7 #[46, 55, 64, 73, 91, 93, 98, 107], 46) := by decide +kernel
theorem dX12_train_108 : decode cX12_train 108 = .ok (.aload_n 0, 1) := by decide +kernel
theorem dX12_train_109 : decode cX12_train 109 = .ok (.getfield 33, 3) := by decide +kernel
theorem dX12_train_112 : decode cX12_train 112 = .ok (.sipush 483, 3) := by decide +kernel
theorem dX12_train_115 : decode cX12_train 115 = .ok (.iaload, 1) := by decide +kernel
theorem dX12_train_116 : decode cX12_train 116 = .ok (.ireturn, 1) := by decide +kernel
theorem dX12_train_117 : decode cX12_train 117 = .ok (.aload_n 0, 1) := by decide +kernel
theorem dX12_train_118 : decode cX12_train 118 = .ok (.getfield 33, 3) := by decide +kernel
theorem dX12_train_121 : decode cX12_train 121 = .ok (.sipush 484, 3) := by decide +kernel
theorem dX12_train_124 : decode cX12_train 124 = .ok (.iaload, 1) := by decide +kernel
theorem dX12_train_125 : decode cX12_train 125 = .ok (.ireturn, 1) := by decide +kernel
theorem dX12_train_126 : decode cX12_train 126 = .ok (.aload_n 0, 1) := by decide +kernel
theorem dX12_train_127 : decode cX12_train 127 = .ok (.getfield 33, 3) := by decide +kernel
theorem dX12_train_130 : decode cX12_train 130 = .ok (.sipush 485, 3) := by decide +kernel
theorem dX12_train_133 : decode cX12_train 133 = .ok (.iaload, 1) := by decide +kernel
theorem dX12_train_134 : decode cX12_train 134 = .ok (.ireturn, 1) := by decide +kernel
theorem dX12_train_135 : decode cX12_train 135 = .ok (.iconst 1, 1) := by decide +kernel
theorem dX12_train_136 : decode cX12_train 136 = .ok (.aload_n 0, 1) := by decide +kernel
theorem dX12_train_137 : decode cX12_train 137 = .ok (.sipush 495, 3) := by decide +kernel
theorem dX12_train_140 : decode cX12_train 140 = .ok (.aload_n 0, 1) := by decide +kernel
theorem dX12_train_141 : decode cX12_train 141 = .ok (.getfield 33, 3) := by decide +kernel
theorem dX12_train_144 : decode cX12_train 144 = .ok (.sipush 484, 3) := by decide +kernel
theorem dX12_train_147 : decode cX12_train 147 = .ok (.iaload, 1) := by decide +kernel
theorem dX12_train_148 : decode cX12_train 148 = .ok (.invokevirtual 364, 3) := by decide +kernel
theorem dX12_train_151 : decode cX12_train 151 = .ok (.iadd, 1) := by decide +kernel
theorem dX12_train_152 : decode cX12_train 152 = .ok (.ireturn, 1) := by decide +kernel
theorem dX12_train_153 : decode cX12_train 153 = .ok (.iload_n 2, 1) := by decide +kernel
theorem dX12_train_154 : decode cX12_train 154 = .ok (.ireturn, 1) := by decide +kernel
theorem dX12_train_155 : decode cX12_train 155 = .ok (.aload_n 0, 1) := by decide +kernel
theorem dX12_train_156 : decode cX12_train 156 = .ok (.getfield 279, 3) := by decide +kernel
theorem dX12_train_159 : decode cX12_train 159 = .ok (.ireturn, 1) := by decide +kernel
theorem dX12_train_160 : decode cX12_train 160 = .ok (.aload_n 0, 1) := by decide +kernel
theorem dX12_train_161 : decode cX12_train 161 = .ok (.getfield 33, 3) := by decide +kernel
theorem dX12_train_164 : decode cX12_train 164 = .ok (.sipush 486, 3) := by decide +kernel
theorem dX12_train_167 : decode cX12_train 167 = .ok (.iaload, 1) := by decide +kernel
theorem dX12_train_168 : decode cX12_train 168 = .ok (.ireturn, 1) := by decide +kernel
theorem dX12_train_169 : decode cX12_train 169 = .ok (.aload_n 0, 1) := by decide +kernel
theorem dX12_train_170 : decode cX12_train 170 = .ok (.getfield 33, 3) := by decide +kernel
theorem dX12_train_173 : decode cX12_train 173 = .ok (.sipush 536, 3) := by decide +kernel
theorem dX12_train_176 : decode cX12_train 176 = .ok (.iaload, 1) := by decide +kernel
theorem dX12_train_177 : decode cX12_train 177 = .ok (.ireturn, 1) := by decide +kernel
theorem dX12_train_178 : decode cX12_train 178 = .ok (.iconst (-1), 1) := by decide +kernel
theorem dX12_train_179 : decode cX12_train 179 = .ok (.ireturn, 1) := by decide +kernel
theorem dX12_dragOf_0 : decode cX12_dragOf 0 = .ok (.aload_n 0, 1) := by decide +kernel
theorem dX12_dragOf_1 : decode cX12_dragOf 1 = .ok (.iload_n 1, 1) := by decide +kernel
theorem dX12_dragOf_2 : decode cX12_dragOf 2 = .ok (.invokevirtual 276, 3) := by decide +kernel
theorem dX12_dragOf_5 : decode cX12_dragOf 5 = .ok (.aload_n 0, 1) := by decide +kernel
theorem dX12_dragOf_6 : decode cX12_dragOf 6 = .ok (.iload_n 2, 1) := by decide +kernel
theorem dX12_dragOf_7 : decode cX12_dragOf 7 = .ok (.invokevirtual 254, 3) := by decide +kernel
theorem dX12_dragOf_10 : decode cX12_dragOf 10 = .ok (.aload_n 0, 1) := by decide +kernel
theorem dX12_dragOf_11 : decode cX12_dragOf 11 = .ok (.getfield 33, 3) := by decide +kernel
theorem dX12_dragOf_14 : decode cX12_dragOf 14 = .ok (.bipush 6, 2) := by decide +kernel
theorem dX12_dragOf_16 : decode cX12_dragOf 16 = .ok (.iaload, 1) := by decide +kernel
theorem dX12_dragOf_17 : decode cX12_dragOf 17 = .ok (.iadd, 1) := by decide +kernel
theorem dX12_dragOf_18 : decode cX12_dragOf 18 = .ok (.imul, 1) := by decide +kernel
theorem dX12_dragOf_19 : decode cX12_dragOf 19 = .ok (.ireturn, 1) := by decide +kernel
theorem dX12_wagon_0 : decode cX12_wagon 0 = .ok (.aload_n 0, 1) := by decide +kernel
theorem dX12_wagon_1 : decode cX12_wagon 1 = .ok (.iload_n 1, 1) := by decide +kernel
theorem dX12_wagon_2 : decode cX12_wagon 2 = .ok (.iconst 0, 1) := by decide +kernel
theorem dX12_wagon_3 : decode cX12_wagon 3 = .ok (.aload_n 0, 1) := by decide +kernel
theorem dX12_wagon_4 : decode cX12_wagon 4 = .ok (.getfield 33, 3) := by decide +kernel
theorem dX12_wagon_7 : decode cX12_wagon 7 = .ok (.sipush 484, 3) := by decide +kernel
theorem dX12_wagon_10 : decode cX12_wagon 10 = .ok (.iaload, 1) := by decide +kernel
theorem dX12_wagon_11 : decode cX12_wagon 11 = .ok (.iconst 1, 1) := by decide +kernel
theorem dX12_wagon_12 : decode cX12_wagon 12 = .ok (.isub, 1) := by decide +kernel
theorem dX12_wagon_13 : decode cX12_wagon 13 = .ok (.invokestatic 182, 3) := by decide +kernel
theorem dX12_wagon_16 : decode cX12_wagon 16 = .ok (.ifCond .eq 12, 3) := by decide +kernel
theorem dX12_wagon_19 : decode cX12_wagon 19 = .ok (.iload_n 2, 1) := by decide +kernel
theorem dX12_wagon_20 : decode cX12_wagon 20 = .ok (.iconst 0, 1) := by decide +kernel
theorem dX12_wagon_21 : decode cX12_wagon 21 = .ok (.iconst 4, 1) := by decide +kernel
theorem dX12_wagon_22 : decode cX12_wagon 22 = .ok (.invokestatic 182, 3) := by decide +kernel
theorem dX12_wagon_25 : decode cX12_wagon 25 = .ok (.ifCond .ne 7, 3) := by decide +kernel
theorem dX12_wagon_28 : decode cX12_wagon 28 = .ok (.iconst 1, 1) := by decide +kernel
theorem dX12_wagon_29 : decode cX12_wagon 29 = .ok (.goto 4, 3) := by decide +kernel
theorem dX12_wagon_32 : decode cX12_wagon 32 = .ok (.iconst 0, 1) := by decide +kernel
theorem dX12_wagon_33 : decode cX12_wagon 33 = .ok (.invokevirtual 250, 3) := by decide +kernel
theorem dX12_wagon_36 : decode cX12_wagon 36 = .ok (.ifCond .eq 5, 3) := by decide +kernel
theorem dX12_wagon_39 : decode cX12_wagon 39 = .ok (.iconst 0, 1) := by decide +kernel
theorem dX12_wagon_40 : decode cX12_wagon 40 = .ok (.ireturn, 1) := by decide +kernel
theorem dX12_wagon_41 : decode cX12_wagon 41 = .ok (.aload_n 0, 1) := by decide +kernel
theorem dX12_wagon_42 : decode cX12_wagon 42 = .ok (.aload_n 0, 1) := by decide +kernel
theorem dX12_wagon_43 : decode cX12_wagon 43 = .ok (.getfield 33, 3) := by decide +kernel
theorem dX12_wagon_46 : decode cX12_wagon 46 = .ok (.sipush 483, 3) := by decide +kernel
theorem dX12_wagon_49 : decode cX12_wagon 49 = .ok (.iaload, 1) := by decide +kernel
theorem dX12_wagon_50 : decode cX12_wagon 50 = .ok (.invokevirtual 361, 3) := by decide +kernel
theorem dX12_wagon_53 : decode cX12_wagon 53 = .ok (.iload_n 2, 1) := by decide +kernel
theorem dX12_wagon_54 : decode cX12_wagon 54 = .ok (.ifCond .ne 16, 3) := by decide +kernel
theorem dX12_wagon_57 : decode cX12_wagon 57 = .ok (.aload_n 0, 1) := by decide +kernel
theorem dX12_wagon_58 : decode cX12_wagon 58 = .ok (.getfield 33, 3) := by decide +kernel
theorem dX12_wagon_61 : decode cX12_wagon 61 = .ok (.sipush 495, 3) := by decide +kernel
theorem dX12_wagon_64 : decode cX12_wagon 64 = .ok (.iload_n 1, 1) := by decide +kernel
theorem dX12_wagon_65 : decode cX12_wagon 65 = .ok (.iadd, 1) := by decide +kernel
theorem dX12_wagon_66 : decode cX12_wagon 66 = .ok (.iaload, 1) := by decide +kernel
theorem dX12_wagon_67 : decode cX12_wagon 67 = .ok (.goto 65, 3) := by decide +kernel
theorem dX12_wagon_70 : decode cX12_wagon 70 = .ok (.iload_n 2, 1) := by decide +kernel
theorem dX12_wagon_71 : decode cX12_wagon 71 = .ok (.iconst 1, 1) := by decide +kernel
theorem dX12_wagon_72 : decode cX12_wagon 72 = .ok (.if_icmp .ne 12, 3) := by decide +kernel
theorem dX12_wagon_75 : decode cX12_wagon 75 = .ok (.aload_n 0, 1) := by decide +kernel
theorem dX12_wagon_76 : decode cX12_wagon 76 = .ok (.getfield 53, 3) := by decide +kernel
theorem dX12_wagon_79 : decode cX12_wagon 79 = .ok (.iload_n 1, 1) := by decide +kernel
theorem dX12_wagon_80 : decode cX12_wagon 80 = .ok (.iaload, 1) := by decide +kernel
theorem dX12_wagon_81 : decode cX12_wagon 81 = .ok (.goto 51, 3) := by decide +kernel
theorem dX12_wagon_84 : decode cX12_wagon 84 = .ok (.iload_n 2, 1) := by decide +kernel
theorem dX12_wagon_85 : decode cX12_wagon 85 = .ok (.iconst 2, 1) := by decide +kernel
theorem dX12_wagon_86 : decode cX12_wagon 86 = .ok (.if_icmp .ne 12, 3) := by decide +kernel
theorem dX12_wagon_89 : decode cX12_wagon 89 = .ok (.aload_n 0, 1) := by decide +kernel
theorem dX12_wagon_90 : decode cX12_wagon 90 = .ok (.getfield 56, 3) := by decide +kernel
theorem dX12_wagon_93 : decode cX12_wagon 93 = .ok (.iload_n 1, 1) := by decide +kernel
theorem dX12_wagon_94 : decode cX12_wagon 94 = .ok (.iaload, 1) := by decide +kernel
theorem dX12_wagon_95 : decode cX12_wagon 95 = .ok (.goto 37, 3) := by decide +kernel
theorem dX12_wagon_98 : decode cX12_wagon 98 = .ok (.iload_n 2, 1) := by decide +kernel
theorem dX12_wagon_99 : decode cX12_wagon 99 = .ok (.iconst 3, 1) := by decide +kernel
theorem dX12_wagon_100 : decode cX12_wagon 100 = .ok (.if_icmp .ne 16, 3) := by decide +kernel
theorem dX12_wagon_103 : decode cX12_wagon 103 = .ok (.aload_n 0, 1) := by decide +kernel
theorem dX12_wagon_104 : decode cX12_wagon 104 = .ok (.getfield 33, 3) := by decide +kernel
theorem dX12_wagon_107 : decode cX12_wagon 107 = .ok (.sipush 515, 3) := by decide +kernel
theorem dX12_wagon_110 : decode cX12_wagon 110 = .ok (.iload_n 1, 1) := by decide +kernel
theorem dX12_wagon_111 : decode cX12_wagon 111 = .ok (.iadd, 1) := by decide +kernel
theorem dX12_wagon_112 : decode cX12_wagon 112 = .ok (.iaload, 1) := by decide +kernel
theorem dX12_wagon_113 : decode cX12_wagon 113 = .ok (.goto 19, 3) := by decide +kernel
theorem dX12_wagon_116 : decode cX12_wagon 116 = .ok (.aload_n 0, 1) := by decide +kernel
theorem dX12_wagon_117 : decode cX12_wagon 117 = .ok (.aload_n 0, 1) := by decide +kernel
theorem dX12_wagon_118 : decode cX12_wagon 118 = .ok (.getfield 50, 3) := by decide +kernel
theorem dX12_wagon_121 : decode cX12_wagon 121 = .ok (.iload_n 1, 1) := by decide +kernel
theorem dX12_wagon_122 : decode cX12_wagon 122 = .ok (.iaload, 1) := by decide +kernel
theorem dX12_wagon_123 : decode cX12_wagon 123 = .ok (.aload_n 0, 1) := by decide +kernel
theorem dX12_wagon_124 : decode cX12_wagon 124 = .ok (.getfield 53, 3) := by decide +kernel
theorem dX12_wagon_127 : decode cX12_wagon 127 = .ok (.iload_n 1, 1) := by decide +kernel
theorem dX12_wagon_128 : decode cX12_wagon 128 = .ok (.iaload, 1) := by decide +kernel
theorem dX12_wagon_129 : decode cX12_wagon 129 = .ok (.invokevirtual 367, 3) := by decide +kernel
theorem dX12_wagon_132 : decode cX12_wagon 132 = .ok (.ireturn, 1) := by decide +kernel
theorem dX12_half_0 : decode cX12_half 0 = .ok (.aload_n 0, 1) := by decide +kernel
theorem dX12_half_1 : decode cX12_half 1 = .ok (.iload_n 1, 1) := by decide +kernel
theorem dX12_half_2 : decode cX12_half 2 = .ok (.iconst 0, 1) := by decide +kernel
theorem dX12_half_3 : decode cX12_half 3 = .ok (.aload_n 0, 1) := by decide +kernel
theorem dX12_half_4 : decode cX12_half 4 = .ok (.getfield 33, 3) := by decide +kernel
theorem dX12_half_7 : decode cX12_half 7 = .ok (.sipush 536, 3) := by decide +kernel
theorem dX12_half_10 : decode cX12_half 10 = .ok (.iaload, 1) := by decide +kernel
theorem dX12_half_11 : decode cX12_half 11 = .ok (.iconst 1, 1) := by decide +kernel
theorem dX12_half_12 : decode cX12_half 12 = .ok (.isub, 1) := by decide +kernel
theorem dX12_half_13 : decode cX12_half 13 = .ok (.invokestatic 182, 3) := by decide +kernel
theorem dX12_half_16 : decode cX12_half 16 = .ok (.ifCond .eq 12, 3) := by decide +kernel
theorem dX12_half_19 : decode cX12_half 19 = .ok (.iload_n 2, 1) := by decide +kernel
theorem dX12_half_20 : decode cX12_half 20 = .ok (.iconst 0, 1) := by decide +kernel
theorem dX12_half_21 : decode cX12_half 21 = .ok (.iconst 4, 1) := by decide +kernel
theorem dX12_half_22 : decode cX12_half 22 = .ok (.invokestatic 182, 3) := by decide +kernel
theorem dX12_half_25 : decode cX12_half 25 = .ok (.ifCond .ne 7, 3) := by decide +kernel
theorem dX12_half_28 : decode cX12_half 28 = .ok (.iconst 1, 1) := by decide +kernel
theorem dX12_half_29 : decode cX12_half 29 = .ok (.goto 4, 3) := by decide +kernel
theorem dX12_half_32 : decode cX12_half 32 = .ok (.iconst 0, 1) := by decide +kernel
theorem dX12_half_33 : decode cX12_half 33 = .ok (.invokevirtual 250, 3) := by decide +kernel
theorem dX12_half_36 : decode cX12_half 36 = .ok (.ifCond .eq 5, 3) := by decide +kernel
theorem dX12_half_39 : decode cX12_half 39 = .ok (.iconst 0, 1) := by decide +kernel
theorem dX12_half_40 : decode cX12_half 40 = .ok (.ireturn, 1) := by decide +kernel
theorem dX12_half_41 : decode cX12_half 41 = .ok (.sipush 537, 3) := by decide +kernel
theorem dX12_half_44 : decode cX12_half 44 = .ok (.bipush 22, 2) := by decide +kernel
theorem dX12_half_46 : decode cX12_half 46 = .ok (.iload_n 1, 1) := by decide +kernel
theorem dX12_half_47 : decode cX12_half 47 = .ok (.imul, 1) := by decide +kernel
theorem dX12_half_48 : decode cX12_half 48 = .ok (.iadd, 1) := by decide +kernel
theorem dX12_half_49 : decode cX12_half 49 = .ok (.istore_n 3, 1) := by decide +kernel
theorem dX12_half_50 : decode cX12_half 50 = .ok (.iload_n 2, 1) := by decide +kernel
theorem dX12_half_51 : decode cX12_half 51 = .ok (.iconst 2, 1) := by decide +kernel
theorem dX12_half_52 : decode cX12_half 52 = .ok (.if_icmp .ge 12, 3) := by decide +kernel
theorem dX12_half_55 : decode cX12_half 55 = .ok (.aload_n 0, 1) := by decide +kernel
theorem dX12_half_56 : decode cX12_half 56 = .ok (.getfield 33, 3) := by decide +kernel
theorem dX12_half_59 : decode cX12_half 59 = .ok (.iload_n 3, 1) := by decide +kernel
theorem dX12_half_60 : decode cX12_half 60 = .ok (.iload_n 2, 1) := by decide +kernel
theorem dX12_half_61 : decode cX12_half 61 = .ok (.iadd, 1) := by decide +kernel
theorem dX12_half_62 : decode cX12_half 62 = .ok (.iaload, 1) := by decide +kernel
theorem dX12_half_63 : decode cX12_half 63 = .ok (.ireturn, 1) := by decide +kernel
theorem dX12_half_64 : decode cX12_half 64 = .ok (.iload_n 2, 1) := by decide +kernel
theorem dX12_half_65 : decode cX12_half 65 = .ok (.iconst 2, 1) := by decide +kernel
theorem dX12_half_66 : decode cX12_half 66 = .ok (.if_icmp .ne 17, 3) := by decide +kernel
theorem dX12_half_69 : decode cX12_half 69 = .ok (.aload_n 0, 1) := by decide +kernel
theorem dX12_half_70 : decode cX12_half 70 = .ok (.iload_n 3, 1) := by decide +kernel
theorem dX12_half_71 : decode cX12_half 71 = .ok (.iconst 2, 1) := by decide +kernel
theorem dX12_half_72 : decode cX12_half 72 = .ok (.iadd, 1) := by decide +kernel
theorem dX12_half_73 : decode cX12_half 73 = .ok (.aload_n 0, 1) := by decide +kernel
theorem dX12_half_74 : decode cX12_half 74 = .ok (.getfield 33, 3) := by decide +kernel
theorem dX12_half_77 : decode cX12_half 77 = .ok (.iload_n 3, 1) := by decide +kernel
theorem dX12_half_78 : decode cX12_half 78 = .ok (.iaload, 1) := by decide +kernel
theorem dX12_half_79 : decode cX12_half 79 = .ok (.invokevirtual 364, 3) := by decide +kernel
theorem dX12_half_82 : decode cX12_half 82 = .ok (.ireturn, 1) := by decide +kernel
theorem dX12_half_83 : decode cX12_half 83 = .ok (.iload_n 2, 1) := by decide +kernel
theorem dX12_half_84 : decode cX12_half 84 = .ok (.iconst 3, 1) := by decide +kernel
theorem dX12_half_85 : decode cX12_half 85 = .ok (.if_icmp .ne 45, 3) := by decide +kernel
theorem dX12_half_88 : decode cX12_half 88 = .ok (.iconst 0, 1) := by decide +kernel
theorem dX12_half_89 : decode cX12_half 89 = .ok (.istore 4, 2) := by decide +kernel
theorem dX12_half_91 : decode cX12_half 91 = .ok (.iload 4, 2) := by decide +kernel
theorem dX12_half_93 : decode cX12_half 93 = .ok (.aload_n 0, 1) := by decide +kernel
theorem dX12_half_94 : decode cX12_half 94 = .ok (.getfield 33, 3) := by decide +kernel
theorem dX12_half_97 : decode cX12_half 97 = .ok (.iconst 1, 1) := by decide +kernel
theorem dX12_half_98 : decode cX12_half 98 = .ok (.iaload, 1) := by decide +kernel
theorem dX12_half_99 : decode cX12_half 99 = .ok (.if_icmp .ge 29, 3) := by decide +kernel
theorem dX12_half_102 : decode cX12_half 102 = .ok (.aload_n 0, 1) := by decide +kernel
theorem dX12_half_103 : decode cX12_half 103 = .ok (.iload 4, 2) := by decide +kernel
theorem dX12_half_105 : decode cX12_half 105 = .ok (.invokevirtual 261, 3) := by decide +kernel
theorem dX12_half_108 : decode cX12_half 108 = .ok (.aload_n 0, 1) := by decide +kernel
theorem dX12_half_109 : decode cX12_half 109 = .ok (.getfield 33, 3) := by decide +kernel
theorem dX12_half_112 : decode cX12_half 112 = .ok (.iload_n 3, 1) := by decide +kernel
theorem dX12_half_113 : decode cX12_half 113 = .ok (.iconst 1, 1) := by decide +kernel
theorem dX12_half_114 : decode cX12_half 114 = .ok (.iadd, 1) := by decide +kernel
theorem dX12_half_115 : decode cX12_half 115 = .ok (.iaload, 1) := by decide +kernel
theorem dX12_half_116 : decode cX12_half 116 = .ok (.if_icmp .le 6, 3) := by decide +kernel
theorem dX12_half_119 : decode cX12_half 119 = .ok (.iload 4, 2) := by decide +kernel
theorem dX12_half_121 : decode cX12_half 121 = .ok (.ireturn, 1) := by decide +kernel
theorem dX12_half_122 : decode cX12_half 122 = .ok (.iinc 4 1, 3) := by decide +kernel
theorem dX12_half_125 : decode cX12_half 125 = .ok (.goto (-34), 3) := by decide +kernel
theorem dX12_half_128 : decode cX12_half 128 = .ok (.iconst (-1), 1) := by decide +kernel
theorem dX12_half_129 : decode cX12_half 129 = .ok (.ireturn, 1) := by decide +kernel
theorem dX12_half_130 : decode cX12_half 130 = .ok (.iconst 0, 1) := by decide +kernel
theorem dX12_half_131 : decode cX12_half 131 = .ok (.istore 4, 2) := by decide +kernel
theorem dX12_half_133 : decode cX12_half 133 = .ok (.aload_n 0, 1) := by decide +kernel
theorem dX12_half_134 : decode cX12_half 134 = .ok (.getfield 33, 3) := by decide +kernel
theorem dX12_half_137 : decode cX12_half 137 = .ok (.iload_n 3, 1) := by decide +kernel
theorem dX12_half_138 : decode cX12_half 138 = .ok (.iconst 1, 1) := by decide +kernel
theorem dX12_half_139 : decode cX12_half 139 = .ok (.iadd, 1) := by decide +kernel
theorem dX12_half_140 : decode cX12_half 140 = .ok (.iaload, 1) := by decide +kernel
theorem dX12_half_141 : decode cX12_half 141 = .ok (.istore 5, 2) := by decide +kernel
theorem dX12_half_143 : decode cX12_half 143 = .ok (.iconst 0, 1) := by decide +kernel
theorem dX12_half_144 : decode cX12_half 144 = .ok (.istore 6, 2) := by decide +kernel
theorem dX12_half_146 : decode cX12_half 146 = .ok (.iload 6, 2) := by decide +kernel
theorem dX12_half_148 : decode cX12_half 148 = .ok (.aload_n 0, 1) := by decide +kernel
theorem dX12_half_149 : decode cX12_half 149 = .ok (.getfield 33, 3) := by decide +kernel
theorem dX12_half_152 : decode cX12_half 152 = .ok (.iload_n 3, 1) := by decide +kernel
theorem dX12_half_153 : decode cX12_half 153 = .ok (.iaload, 1) := by decide +kernel
theorem dX12_half_154 : decode cX12_half 154 = .ok (.if_icmp .ge 51, 3) := by decide +kernel
theorem dX12_half_157 : decode cX12_half 157 = .ok (.iload 4, 2) := by decide +kernel
theorem dX12_half_159 : decode cX12_half 159 = .ok (.aload_n 0, 1) := by decide +kernel
theorem dX12_half_160 : decode cX12_half 160 = .ok (.aload_n 0, 1) := by decide +kernel
theorem dX12_half_161 : decode cX12_half 161 = .ok (.getfield 33, 3) := by decide +kernel
theorem dX12_half_164 : decode cX12_half 164 = .ok (.iload_n 3, 1) := by decide +kernel
theorem dX12_half_165 : decode cX12_half 165 = .ok (.iconst 2, 1) := by decide +kernel
theorem dX12_half_166 : decode cX12_half 166 = .ok (.iadd, 1) := by decide +kernel
theorem dX12_half_167 : decode cX12_half 167 = .ok (.iload 6, 2) := by decide +kernel
theorem dX12_half_169 : decode cX12_half 169 = .ok (.iadd, 1) := by decide +kernel
theorem dX12_half_170 : decode cX12_half 170 = .ok (.iaload, 1) := by decide +kernel
theorem dX12_half_171 : decode cX12_half 171 = .ok (.iload 5, 2) := by decide +kernel
theorem dX12_half_173 : decode cX12_half 173 = .ok (.invokevirtual 367, 3) := by decide +kernel
theorem dX12_half_176 : decode cX12_half 176 = .ok (.iadd, 1) := by decide +kernel
theorem dX12_half_177 : decode cX12_half 177 = .ok (.istore 4, 2) := by decide +kernel
theorem dX12_half_179 : decode cX12_half 179 = .ok (.iload 5, 2) := by decide +kernel
theorem dX12_half_181 : decode cX12_half 181 = .ok (.aload_n 0, 1) := by decide +kernel
theorem dX12_half_182 : decode cX12_half 182 = .ok (.aload_n 0, 1) := by decide +kernel
theorem dX12_half_183 : decode cX12_half 183 = .ok (.getfield 33, 3) := by decide +kernel
theorem dX12_half_186 : decode cX12_half 186 = .ok (.iload_n 3, 1) := by decide +kernel
theorem dX12_half_187 : decode cX12_half 187 = .ok (.iconst 2, 1) := by decide +kernel
theorem dX12_half_188 : decode cX12_half 188 = .ok (.iadd, 1) := by decide +kernel
theorem dX12_half_189 : decode cX12_half 189 = .ok (.iload 6, 2) := by decide +kernel
theorem dX12_half_191 : decode cX12_half 191 = .ok (.iadd, 1) := by decide +kernel
theorem dX12_half_192 : decode cX12_half 192 = .ok (.iaload, 1) := by decide +kernel
theorem dX12_half_193 : decode cX12_half 193 = .ok (.invokevirtual 273, 3) := by decide +kernel
theorem dX12_half_196 : decode cX12_half 196 = .ok (.isub, 1) := by decide +kernel
theorem dX12_half_197 : decode cX12_half 197 = .ok (.istore 5, 2) := by decide +kernel
theorem dX12_half_199 : decode cX12_half 199 = .ok (.iinc 6 1, 3) := by decide +kernel
theorem dX12_half_202 : decode cX12_half 202 = .ok (.goto (-56), 3) := by decide +kernel
theorem dX12_half_205 : decode cX12_half 205 = .ok (.iload 4, 2) := by decide +kernel
theorem dX12_half_207 : decode cX12_half 207 = .ok (.ireturn, 1) := by decide +kernel
theorem dX12_partsAt_0 : decode cX12_partsAt 0 = .ok (.sipush 537, 3) := by decide +kernel
theorem dX12_partsAt_3 : decode cX12_partsAt 3 = .ok (.bipush 22, 2) := by decide +kernel
theorem dX12_partsAt_5 : decode cX12_partsAt 5 = .ok (.aload_n 0, 1) := by decide +kernel
theorem dX12_partsAt_6 : decode cX12_partsAt 6 = .ok (.getfield 33, 3) := by decide +kernel
theorem dX12_partsAt_9 : decode cX12_partsAt 9 = .ok (.sipush 536, 3) := by decide +kernel
theorem dX12_partsAt_12 : decode cX12_partsAt 12 = .ok (.iaload, 1) := by decide +kernel
theorem dX12_partsAt_13 : decode cX12_partsAt 13 = .ok (.imul, 1) := by decide +kernel
theorem dX12_partsAt_14 : decode cX12_partsAt 14 = .ok (.iadd, 1) := by decide +kernel
theorem dX12_partsAt_15 : decode cX12_partsAt 15 = .ok (.istore_n 2, 1) := by decide +kernel
theorem dX12_partsAt_16 : decode cX12_partsAt 16 = .ok (.aload_n 0, 1) := by decide +kernel
theorem dX12_partsAt_17 : decode cX12_partsAt 17 = .ok (.getfield 33, 3) := by decide +kernel
theorem dX12_partsAt_20 : decode cX12_partsAt 20 = .ok (.iload_n 2, 1) := by decide +kernel
theorem dX12_partsAt_21 : decode cX12_partsAt 21 = .ok (.aload_n 0, 1) := by decide +kernel
theorem dX12_partsAt_22 : decode cX12_partsAt 22 = .ok (.getfield 33, 3) := by decide +kernel
theorem dX12_partsAt_25 : decode cX12_partsAt 25 = .ok (.sipush 484, 3) := by decide +kernel
theorem dX12_partsAt_28 : decode cX12_partsAt 28 = .ok (.iaload, 1) := by decide +kernel
theorem dX12_partsAt_29 : decode cX12_partsAt 29 = .ok (.iload_n 1, 1) := by decide +kernel
theorem dX12_partsAt_30 : decode cX12_partsAt 30 = .ok (.isub, 1) := by decide +kernel
theorem dX12_partsAt_31 : decode cX12_partsAt 31 = .ok (.iastore, 1) := by decide +kernel
theorem dX12_partsAt_32 : decode cX12_partsAt 32 = .ok (.aload_n 0, 1) := by decide +kernel
theorem dX12_partsAt_33 : decode cX12_partsAt 33 = .ok (.getfield 33, 3) := by decide +kernel
theorem dX12_partsAt_36 : decode cX12_partsAt 36 = .ok (.iload_n 2, 1) := by decide +kernel
theorem dX12_partsAt_37 : decode cX12_partsAt 37 = .ok (.iconst 1, 1) := by decide +kernel
theorem dX12_partsAt_38 : decode cX12_partsAt 38 = .ok (.iadd, 1) := by decide +kernel
theorem dX12_partsAt_39 : decode cX12_partsAt 39 = .ok (.aload_n 0, 1) := by decide +kernel
theorem dX12_partsAt_40 : decode cX12_partsAt 40 = .ok (.getfield 53, 3) := by decide +kernel
theorem dX12_partsAt_43 : decode cX12_partsAt 43 = .ok (.iload_n 1, 1) := by decide +kernel
theorem dX12_partsAt_44 : decode cX12_partsAt 44 = .ok (.iaload, 1) := by decide +kernel
theorem dX12_partsAt_45 : decode cX12_partsAt 45 = .ok (.iastore, 1) := by decide +kernel
theorem dX12_partsAt_46 : decode cX12_partsAt 46 = .ok (.iload_n 1, 1) := by decide +kernel
theorem dX12_partsAt_47 : decode cX12_partsAt 47 = .ok (.istore_n 3, 1) := by decide +kernel
theorem dX12_partsAt_48 : decode cX12_partsAt 48 = .ok (.iload_n 3, 1) := by decide +kernel
theorem dX12_partsAt_49 : decode cX12_partsAt 49 = .ok (.aload_n 0, 1) := by decide +kernel
theorem dX12_partsAt_50 : decode cX12_partsAt 50 = .ok (.getfield 33, 3) := by decide +kernel
theorem dX12_partsAt_53 : decode cX12_partsAt 53 = .ok (.sipush 484, 3) := by decide +kernel
theorem dX12_partsAt_56 : decode cX12_partsAt 56 = .ok (.iaload, 1) := by decide +kernel
theorem dX12_partsAt_57 : decode cX12_partsAt 57 = .ok (.if_icmp .ge 31, 3) := by decide +kernel
theorem dX12_partsAt_60 : decode cX12_partsAt 60 = .ok (.aload_n 0, 1) := by decide +kernel
theorem dX12_partsAt_61 : decode cX12_partsAt 61 = .ok (.getfield 33, 3) := by decide +kernel
theorem dX12_partsAt_64 : decode cX12_partsAt 64 = .ok (.iload_n 2, 1) := by decide +kernel
theorem dX12_partsAt_65 : decode cX12_partsAt 65 = .ok (.iconst 2, 1) := by decide +kernel
theorem dX12_partsAt_66 : decode cX12_partsAt 66 = .ok (.iadd, 1) := by decide +kernel
theorem dX12_partsAt_67 : decode cX12_partsAt 67 = .ok (.iload_n 3, 1) := by decide +kernel
theorem dX12_partsAt_68 : decode cX12_partsAt 68 = .ok (.iadd, 1) := by decide +kernel
theorem dX12_partsAt_69 : decode cX12_partsAt 69 = .ok (.iload_n 1, 1) := by decide +kernel
theorem dX12_partsAt_70 : decode cX12_partsAt 70 = .ok (.isub, 1) := by decide +kernel
theorem dX12_partsAt_71 : decode cX12_partsAt 71 = .ok (.aload_n 0, 1) := by decide +kernel
theorem dX12_partsAt_72 : decode cX12_partsAt 72 = .ok (.getfield 33, 3) := by decide +kernel
theorem dX12_partsAt_75 : decode cX12_partsAt 75 = .ok (.sipush 495, 3) := by decide +kernel
theorem dX12_partsAt_78 : decode cX12_partsAt 78 = .ok (.iload_n 3, 1) := by decide +kernel
theorem dX12_partsAt_79 : decode cX12_partsAt 79 = .ok (.iadd, 1) := by decide +kernel
theorem dX12_partsAt_80 : decode cX12_partsAt 80 = .ok (.iaload, 1) := by decide +kernel
theorem dX12_partsAt_81 : decode cX12_partsAt 81 = .ok (.iastore, 1) := by decide +kernel
theorem dX12_partsAt_82 : decode cX12_partsAt 82 = .ok (.iinc 3 1, 3) := by decide +kernel
theorem dX12_partsAt_85 : decode cX12_partsAt 85 = .ok (.goto (-37), 3) := by decide +kernel
theorem dX12_partsAt_88 : decode cX12_partsAt 88 = .ok (.aload_n 0, 1) := by decide +kernel
theorem dX12_partsAt_89 : decode cX12_partsAt 89 = .ok (.getfield 33, 3) := by decide +kernel
theorem dX12_partsAt_92 : decode cX12_partsAt 92 = .ok (.sipush 536, 3) := by decide +kernel
theorem dX12_partsAt_95 : decode cX12_partsAt 95 = .ok (.dup2, 1) := by decide +kernel
theorem dX12_partsAt_96 : decode cX12_partsAt 96 = .ok (.iaload, 1) := by decide +kernel
theorem dX12_partsAt_97 : decode cX12_partsAt 97 = .ok (.iconst 1, 1) := by decide +kernel
theorem dX12_partsAt_98 : decode cX12_partsAt 98 = .ok (.iadd, 1) := by decide +kernel
theorem dX12_partsAt_99 : decode cX12_partsAt 99 = .ok (.iastore, 1) := by decide +kernel
theorem dX12_partsAt_100 : decode cX12_partsAt 100 = .ok (.aload_n 0, 1) := by decide +kernel
theorem dX12_partsAt_101 : decode cX12_partsAt 101 = .ok (.getfield 33, 3) := by decide +kernel
theorem dX12_partsAt_104 : decode cX12_partsAt 104 = .ok (.sipush 484, 3) := by decide +kernel
theorem dX12_partsAt_107 : decode cX12_partsAt 107 = .ok (.iload_n 1, 1) := by decide +kernel
theorem dX12_partsAt_108 : decode cX12_partsAt 108 = .ok (.iastore, 1) := by decide +kernel
theorem dX12_partsAt_109 : decode cX12_partsAt 109 = .ok (.iconst 0, 1) := by decide +kernel
theorem dX12_partsAt_110 : decode cX12_partsAt 110 = .ok (.istore_n 3, 1) := by decide +kernel
theorem dX12_partsAt_111 : decode cX12_partsAt 111 = .ok (.iconst 0, 1) := by decide +kernel
theorem dX12_partsAt_112 : decode cX12_partsAt 112 = .ok (.istore 4, 2) := by decide +kernel
theorem dX12_partsAt_114 : decode cX12_partsAt 114 = .ok (.iload 4, 2) := by decide +kernel
theorem dX12_partsAt_116 : decode cX12_partsAt 116 = .ok (.aload_n 0, 1) := by decide +kernel
theorem dX12_partsAt_117 : decode cX12_partsAt 117 = .ok (.getfield 33, 3) := by decide +kernel
theorem dX12_partsAt_120 : decode cX12_partsAt 120 = .ok (.sipush 486, 3) := by decide +kernel
theorem dX12_partsAt_123 : decode cX12_partsAt 123 = .ok (.iaload, 1) := by decide +kernel
theorem dX12_partsAt_124 : decode cX12_partsAt 124 = .ok (.if_icmp .ge 72, 3) := by decide +kernel
theorem dX12_partsAt_127 : decode cX12_partsAt 127 = .ok (.aload_n 0, 1) := by decide +kernel
theorem dX12_partsAt_128 : decode cX12_partsAt 128 = .ok (.getfield 33, 3) := by decide +kernel
theorem dX12_partsAt_131 : decode cX12_partsAt 131 = .ok (.sipush 487, 3) := by decide +kernel
theorem dX12_partsAt_134 : decode cX12_partsAt 134 = .ok (.iload 4, 2) := by decide +kernel
theorem dX12_partsAt_136 : decode cX12_partsAt 136 = .ok (.iadd, 1) := by decide +kernel
theorem dX12_partsAt_137 : decode cX12_partsAt 137 = .ok (.iaload, 1) := by decide +kernel
theorem dX12_partsAt_138 : decode cX12_partsAt 138 = .ok (.iload_n 1, 1) := by decide +kernel
theorem dX12_partsAt_139 : decode cX12_partsAt 139 = .ok (.if_icmp .lt 6, 3) := by decide +kernel
theorem dX12_partsAt_142 : decode cX12_partsAt 142 = .ok (.goto 48, 3) := by decide +kernel
theorem dX12_partsAt_145 : decode cX12_partsAt 145 = .ok (.aload_n 0, 1) := by decide +kernel
theorem dX12_partsAt_146 : decode cX12_partsAt 146 = .ok (.getfield 33, 3) := by decide +kernel
theorem dX12_partsAt_149 : decode cX12_partsAt 149 = .ok (.sipush 487, 3) := by decide +kernel
theorem dX12_partsAt_152 : decode cX12_partsAt 152 = .ok (.iload_n 3, 1) := by decide +kernel
theorem dX12_partsAt_153 : decode cX12_partsAt 153 = .ok (.iadd, 1) := by decide +kernel
theorem dX12_partsAt_154 : decode cX12_partsAt 154 = .ok (.aload_n 0, 1) := by decide +kernel
theorem dX12_partsAt_155 : decode cX12_partsAt 155 = .ok (.getfield 33, 3) := by decide +kernel
theorem dX12_partsAt_158 : decode cX12_partsAt 158 = .ok (.sipush 487, 3) := by decide +kernel
theorem dX12_partsAt_161 : decode cX12_partsAt 161 = .ok (.iload 4, 2) := by decide +kernel
theorem dX12_partsAt_163 : decode cX12_partsAt 163 = .ok (.iadd, 1) := by decide +kernel
theorem dX12_partsAt_164 : decode cX12_partsAt 164 = .ok (.iaload, 1) := by decide +kernel
theorem dX12_partsAt_165 : decode cX12_partsAt 165 = .ok (.iastore, 1) := by decide +kernel
theorem dX12_partsAt_166 : decode cX12_partsAt 166 = .ok (.aload_n 0, 1) := by decide +kernel
theorem dX12_partsAt_167 : decode cX12_partsAt 167 = .ok (.getfield 33, 3) := by decide +kernel
theorem dX12_partsAt_170 : decode cX12_partsAt 170 = .ok (.sipush 491, 3) := by decide +kernel
theorem dX12_partsAt_173 : decode cX12_partsAt 173 = .ok (.iload_n 3, 1) := by decide +kernel
theorem dX12_partsAt_174 : decode cX12_partsAt 174 = .ok (.iadd, 1) := by decide +kernel
theorem dX12_partsAt_175 : decode cX12_partsAt 175 = .ok (.aload_n 0, 1) := by decide +kernel
theorem dX12_partsAt_176 : decode cX12_partsAt 176 = .ok (.getfield 33, 3) := by decide +kernel
theorem dX12_partsAt_179 : decode cX12_partsAt 179 = .ok (.sipush 491, 3) := by decide +kernel
theorem dX12_partsAt_182 : decode cX12_partsAt 182 = .ok (.iload 4, 2) := by decide +kernel
theorem dX12_partsAt_184 : decode cX12_partsAt 184 = .ok (.iadd, 1) := by decide +kernel
theorem dX12_partsAt_185 : decode cX12_partsAt 185 = .ok (.iaload, 1) := by decide +kernel
theorem dX12_partsAt_186 : decode cX12_partsAt 186 = .ok (.iastore, 1) := by decide +kernel
theorem dX12_partsAt_187 : decode cX12_partsAt 187 = .ok (.iinc 3 1, 3) := by decide +kernel
theorem dX12_partsAt_190 : decode cX12_partsAt 190 = .ok (.iinc 4 1, 3) := by decide +kernel
theorem dX12_partsAt_193 : decode cX12_partsAt 193 = .ok (.goto (-79), 3) := by decide +kernel
theorem dX12_partsAt_196 : decode cX12_partsAt 196 = .ok (.aload_n 0, 1) := by decide +kernel
theorem dX12_partsAt_197 : decode cX12_partsAt 197 = .ok (.getfield 33, 3) := by decide +kernel
theorem dX12_partsAt_200 : decode cX12_partsAt 200 = .ok (.sipush 486, 3) := by decide +kernel
theorem dX12_partsAt_203 : decode cX12_partsAt 203 = .ok (.iload_n 3, 1) := by decide +kernel
theorem dX12_partsAt_204 : decode cX12_partsAt 204 = .ok (.iastore, 1) := by decide +kernel
theorem dX12_partsAt_205 : decode cX12_partsAt 205 = .ok (.return_, 1) := by decide +kernel
theorem dX12_move_0 : decode cX12_move 0 = .ok (.aload_n 0, 1) := by decide +kernel
theorem dX12_move_1 : decode cX12_move 1 = .ok (.getfield 33, 3) := by decide +kernel
theorem dX12_move_4 : decode cX12_move 4 = .ok (.sipush 483, 3) := by decide +kernel
theorem dX12_move_7 : decode cX12_move 7 = .ok (.iaload, 1) := by decide +kernel
theorem dX12_move_8 : decode cX12_move 8 = .ok (.iconst 1, 1) := by decide +kernel
theorem dX12_move_9 : decode cX12_move 9 = .ok (.iadd, 1) := by decide +kernel
theorem dX12_move_10 : decode cX12_move 10 = .ok (.istore_n 2, 1) := by decide +kernel
theorem dX12_move_11 : decode cX12_move 11 = .ok (.iload_n 2, 1) := by decide +kernel
theorem dX12_move_12 : decode cX12_move 12 = .ok (.aload_n 0, 1) := by decide +kernel
theorem dX12_move_13 : decode cX12_move 13 = .ok (.getfield 33, 3) := by decide +kernel
theorem dX12_move_16 : decode cX12_move 16 = .ok (.iconst 0, 1) := by decide +kernel
theorem dX12_move_17 : decode cX12_move 17 = .ok (.iaload, 1) := by decide +kernel
theorem dX12_move_18 : decode cX12_move 18 = .ok (.if_icmp .lt 5, 3) := by decide +kernel
theorem dX12_move_21 : decode cX12_move 21 = .ok (.iconst 2, 1) := by decide +kernel
theorem dX12_move_22 : decode cX12_move 22 = .ok (.ireturn, 1) := by decide +kernel
theorem dX12_move_23 : decode cX12_move 23 = .ok (.aload_n 0, 1) := by decide +kernel
theorem dX12_move_24 : decode cX12_move 24 = .ok (.iload_n 2, 1) := by decide +kernel
theorem dX12_move_25 : decode cX12_move 25 = .ok (.invokevirtual 361, 3) := by decide +kernel
theorem dX12_move_28 : decode cX12_move 28 = .ok (.aload_n 0, 1) := by decide +kernel
theorem dX12_move_29 : decode cX12_move 29 = .ok (.getfield 33, 3) := by decide +kernel
theorem dX12_move_32 : decode cX12_move 32 = .ok (.sipush 485, 3) := by decide +kernel
theorem dX12_move_35 : decode cX12_move 35 = .ok (.iaload, 1) := by decide +kernel
theorem dX12_move_36 : decode cX12_move 36 = .ok (.aload_n 0, 1) := by decide +kernel
theorem dX12_move_37 : decode cX12_move 37 = .ok (.getfield 33, 3) := by decide +kernel
theorem dX12_move_40 : decode cX12_move 40 = .ok (.iconst 4, 1) := by decide +kernel
theorem dX12_move_41 : decode cX12_move 41 = .ok (.iaload, 1) := by decide +kernel
theorem dX12_move_42 : decode cX12_move 42 = .ok (.iadd, 1) := by decide +kernel
theorem dX12_move_43 : decode cX12_move 43 = .ok (.aload_n 0, 1) := by decide +kernel
theorem dX12_move_44 : decode cX12_move 44 = .ok (.getfield 279, 3) := by decide +kernel
theorem dX12_move_47 : decode cX12_move 47 = .ok (.isub, 1) := by decide +kernel
theorem dX12_move_48 : decode cX12_move 48 = .ok (.iload_n 1, 1) := by decide +kernel
theorem dX12_move_49 : decode cX12_move 49 = .ok (.iconst 1, 1) := by decide +kernel
theorem dX12_move_50 : decode cX12_move 50 = .ok (.if_icmp .ne 13, 3) := by decide +kernel
theorem dX12_move_53 : decode cX12_move 53 = .ok (.aload_n 0, 1) := by decide +kernel
theorem dX12_move_54 : decode cX12_move 54 = .ok (.getfield 33, 3) := by decide +kernel
theorem dX12_move_57 : decode cX12_move 57 = .ok (.bipush 7, 2) := by decide +kernel
theorem dX12_move_59 : decode cX12_move 59 = .ok (.iaload, 1) := by decide +kernel
theorem dX12_move_60 : decode cX12_move 60 = .ok (.goto 4, 3) := by decide +kernel
theorem dX12_move_63 : decode cX12_move 63 = .ok (.iconst 0, 1) := by decide +kernel
theorem dX12_move_64 : decode cX12_move 64 = .ok (.iadd, 1) := by decide +kernel
theorem dX12_move_65 : decode cX12_move 65 = .ok (.istore_n 3, 1) := by decide +kernel
theorem dX12_move_66 : decode cX12_move 66 = .ok (.iload_n 3, 1) := by decide +kernel
theorem dX12_move_67 : decode cX12_move 67 = .ok (.ifCond .ge 5, 3) := by decide +kernel
theorem dX12_move_70 : decode cX12_move 70 = .ok (.iconst 1, 1) := by decide +kernel
theorem dX12_move_71 : decode cX12_move 71 = .ok (.ireturn, 1) := by decide +kernel
theorem dX12_move_72 : decode cX12_move 72 = .ok (.aload_n 0, 1) := by decide +kernel
theorem dX12_move_73 : decode cX12_move 73 = .ok (.getfield 33, 3) := by decide +kernel
theorem dX12_move_76 : decode cX12_move 76 = .ok (.sipush 483, 3) := by decide +kernel
theorem dX12_move_79 : decode cX12_move 79 = .ok (.iload_n 2, 1) := by decide +kernel
theorem dX12_move_80 : decode cX12_move 80 = .ok (.iastore, 1) := by decide +kernel
theorem dX12_move_81 : decode cX12_move 81 = .ok (.aload_n 0, 1) := by decide +kernel
theorem dX12_move_82 : decode cX12_move 82 = .ok (.getfield 33, 3) := by decide +kernel
theorem dX12_move_85 : decode cX12_move 85 = .ok (.sipush 485, 3) := by decide +kernel
theorem dX12_move_88 : decode cX12_move 88 = .ok (.iload_n 3, 1) := by decide +kernel
theorem dX12_move_89 : decode cX12_move 89 = .ok (.iastore, 1) := by decide +kernel
theorem dX12_move_90 : decode cX12_move 90 = .ok (.iconst 0, 1) := by decide +kernel
theorem dX12_move_91 : decode cX12_move 91 = .ok (.istore 4, 2) := by decide +kernel
theorem dX12_move_93 : decode cX12_move 93 = .ok (.iload 4, 2) := by decide +kernel
theorem dX12_move_95 : decode cX12_move 95 = .ok (.aload_n 0, 1) := by decide +kernel
theorem dX12_move_96 : decode cX12_move 96 = .ok (.getfield 33, 3) := by decide +kernel
theorem dX12_move_99 : decode cX12_move 99 = .ok (.sipush 484, 3) := by decide +kernel
theorem dX12_move_102 : decode cX12_move 102 = .ok (.iaload, 1) := by decide +kernel
theorem dX12_move_103 : decode cX12_move 103 = .ok (.if_icmp .ge 63, 3) := by decide +kernel
theorem dX12_move_106 : decode cX12_move 106 = .ok (.aload_n 0, 1) := by decide +kernel
theorem dX12_move_107 : decode cX12_move 107 = .ok (.getfield 56, 3) := by decide +kernel
theorem dX12_move_110 : decode cX12_move 110 = .ok (.iload 4, 2) := by decide +kernel
theorem dX12_move_112 : decode cX12_move 112 = .ok (.iaload, 1) := by decide +kernel
theorem dX12_move_113 : decode cX12_move 113 = .ok (.aload_n 0, 1) := by decide +kernel
theorem dX12_move_114 : decode cX12_move 114 = .ok (.aload_n 0, 1) := by decide +kernel
theorem dX12_move_115 : decode cX12_move 115 = .ok (.getfield 50, 3) := by decide +kernel
theorem dX12_move_118 : decode cX12_move 118 = .ok (.iload 4, 2) := by decide +kernel
theorem dX12_move_120 : decode cX12_move 120 = .ok (.iaload, 1) := by decide +kernel
theorem dX12_move_121 : decode cX12_move 121 = .ok (.invokevirtual 312, 3) := by decide +kernel
theorem dX12_move_124 : decode cX12_move 124 = .ok (.if_icmp .gt 42, 3) := by decide +kernel
theorem dX12_move_127 : decode cX12_move 127 = .ok (.aload_n 0, 1) := by decide +kernel
theorem dX12_move_128 : decode cX12_move 128 = .ok (.getfield 33, 3) := by decide +kernel
theorem dX12_move_131 : decode cX12_move 131 = .ok (.sipush 515, 3) := by decide +kernel
theorem dX12_move_134 : decode cX12_move 134 = .ok (.iload 4, 2) := by decide +kernel
theorem dX12_move_136 : decode cX12_move 136 = .ok (.iadd, 1) := by decide +kernel
theorem dX12_move_137 : decode cX12_move 137 = .ok (.iaload, 1) := by decide +kernel
theorem dX12_move_138 : decode cX12_move 138 = .ok (.aload_n 0, 1) := by decide +kernel
theorem dX12_move_139 : decode cX12_move 139 = .ok (.getfield 33, 3) := by decide +kernel
theorem dX12_move_142 : decode cX12_move 142 = .ok (.bipush 8, 2) := by decide +kernel
theorem dX12_move_144 : decode cX12_move 144 = .ok (.iaload, 1) := by decide +kernel
theorem dX12_move_145 : decode cX12_move 145 = .ok (.aload_n 0, 1) := by decide +kernel
theorem dX12_move_146 : decode cX12_move 146 = .ok (.aload_n 0, 1) := by decide +kernel
theorem dX12_move_147 : decode cX12_move 147 = .ok (.getfield 50, 3) := by decide +kernel
theorem dX12_move_150 : decode cX12_move 150 = .ok (.iload 4, 2) := by decide +kernel
theorem dX12_move_152 : decode cX12_move 152 = .ok (.iaload, 1) := by decide +kernel
theorem dX12_move_153 : decode cX12_move 153 = .ok (.invokevirtual 312, 3) := by decide +kernel
theorem dX12_move_156 : decode cX12_move 156 = .ok (.imul, 1) := by decide +kernel
theorem dX12_move_157 : decode cX12_move 157 = .ok (.if_icmp .gt 9, 3) := by decide +kernel
theorem dX12_move_160 : decode cX12_move 160 = .ok (.iinc 4 1, 3) := by decide +kernel
theorem dX12_move_163 : decode cX12_move 163 = .ok (.goto (-70), 3) := by decide +kernel
theorem dX12_move_166 : decode cX12_move 166 = .ok (.iconst 0, 1) := by decide +kernel
theorem dX12_move_167 : decode cX12_move 167 = .ok (.istore 5, 2) := by decide +kernel
theorem dX12_move_169 : decode cX12_move 169 = .ok (.iload 5, 2) := by decide +kernel
theorem dX12_move_171 : decode cX12_move 171 = .ok (.iload 4, 2) := by decide +kernel
theorem dX12_move_173 : decode cX12_move 173 = .ok (.if_icmp .ge 44, 3) := by decide +kernel
theorem dX12_move_176 : decode cX12_move 176 = .ok (.aload_n 0, 1) := by decide +kernel
theorem dX12_move_177 : decode cX12_move 177 = .ok (.getfield 33, 3) := by decide +kernel
theorem dX12_move_180 : decode cX12_move 180 = .ok (.sipush 515, 3) := by decide +kernel
theorem dX12_move_183 : decode cX12_move 183 = .ok (.iload 5, 2) := by decide +kernel
theorem dX12_move_185 : decode cX12_move 185 = .ok (.iadd, 1) := by decide +kernel
theorem dX12_move_186 : decode cX12_move 186 = .ok (.dup2, 1) := by decide +kernel
theorem dX12_move_187 : decode cX12_move 187 = .ok (.iaload, 1) := by decide +kernel
theorem dX12_move_188 : decode cX12_move 188 = .ok (.aload_n 0, 1) := by decide +kernel
theorem dX12_move_189 : decode cX12_move 189 = .ok (.getfield 56, 3) := by decide +kernel
theorem dX12_move_192 : decode cX12_move 192 = .ok (.iload 5, 2) := by decide +kernel
theorem dX12_move_194 : decode cX12_move 194 = .ok (.iaload, 1) := by decide +kernel
theorem dX12_move_195 : decode cX12_move 195 = .ok (.ifCond .le 13, 3) := by decide +kernel
theorem dX12_move_198 : decode cX12_move 198 = .ok (.aload_n 0, 1) := by decide +kernel
theorem dX12_move_199 : decode cX12_move 199 = .ok (.getfield 56, 3) := by decide +kernel
theorem dX12_move_202 : decode cX12_move 202 = .ok (.iload 5, 2) := by decide +kernel
theorem dX12_move_204 : decode cX12_move 204 = .ok (.iaload, 1) := by decide +kernel
theorem dX12_move_205 : decode cX12_move 205 = .ok (.goto 4, 3) := by decide +kernel
theorem dX12_move_208 : decode cX12_move 208 = .ok (.iconst 0, 1) := by decide +kernel
theorem dX12_move_209 : decode cX12_move 209 = .ok (.iadd, 1) := by decide +kernel
theorem dX12_move_210 : decode cX12_move 210 = .ok (.iastore, 1) := by decide +kernel
theorem dX12_move_211 : decode cX12_move 211 = .ok (.iinc 5 1, 3) := by decide +kernel
theorem dX12_move_214 : decode cX12_move 214 = .ok (.goto (-45), 3) := by decide +kernel
theorem dX12_move_217 : decode cX12_move 217 = .ok (.iload 4, 2) := by decide +kernel
theorem dX12_move_219 : decode cX12_move 219 = .ok (.aload_n 0, 1) := by decide +kernel
theorem dX12_move_220 : decode cX12_move 220 = .ok (.getfield 33, 3) := by decide +kernel
theorem dX12_move_223 : decode cX12_move 223 = .ok (.sipush 484, 3) := by decide +kernel
theorem dX12_move_226 : decode cX12_move 226 = .ok (.iaload, 1) := by decide +kernel
theorem dX12_move_227 : decode cX12_move 227 = .ok (.if_icmp .ge 9, 3) := by decide +kernel
theorem dX12_move_230 : decode cX12_move 230 = .ok (.aload_n 0, 1) := by decide +kernel
theorem dX12_move_231 : decode cX12_move 231 = .ok (.iload 4, 2) := by decide +kernel
theorem dX12_move_233 : decode cX12_move 233 = .ok (.invokevirtual 370, 3) := by decide +kernel
theorem dX12_move_236 : decode cX12_move 236 = .ok (.aload_n 0, 1) := by decide +kernel
theorem dX12_move_237 : decode cX12_move 237 = .ok (.iload_n 2, 1) := by decide +kernel
theorem dX12_move_238 : decode cX12_move 238 = .ok (.invokevirtual 332, 3) := by decide +kernel
theorem dX12_move_241 : decode cX12_move 241 = .ok (.istore 5, 2) := by decide +kernel
theorem dX12_move_243 : decode cX12_move 243 = .ok (.iload 5, 2) := by decide +kernel
theorem dX12_move_245 : decode cX12_move 245 = .ok (.ifCond .lt 32, 3) := by decide +kernel
theorem dX12_move_248 : decode cX12_move 248 = .ok (.aload_n 0, 1) := by decide +kernel
theorem dX12_move_249 : decode cX12_move 249 = .ok (.getfield 33, 3) := by decide +kernel
theorem dX12_move_252 : decode cX12_move 252 = .ok (.sipush 484, 3) := by decide +kernel
theorem dX12_move_255 : decode cX12_move 255 = .ok (.iaload, 1) := by decide +kernel
theorem dX12_move_256 : decode cX12_move 256 = .ok (.bipush 20, 2) := by decide +kernel
theorem dX12_move_258 : decode cX12_move 258 = .ok (.if_icmp .eq 19, 3) := by decide +kernel
theorem dX12_move_261 : decode cX12_move 261 = .ok (.aload_n 0, 1) := by decide +kernel
theorem dX12_move_262 : decode cX12_move 262 = .ok (.getfield 33, 3) := by decide +kernel
theorem dX12_move_265 : decode cX12_move 265 = .ok (.sipush 535, 3) := by decide +kernel
theorem dX12_move_268 : decode cX12_move 268 = .ok (.iaload, 1) := by decide +kernel
theorem dX12_move_269 : decode cX12_move 269 = .ok (.iload 5, 2) := by decide +kernel
theorem dX12_move_271 : decode cX12_move 271 = .ok (.invokestatic 229, 3) := by decide +kernel
theorem dX12_move_274 : decode cX12_move 274 = .ok (.ifCond .eq 5, 3) := by decide +kernel
theorem dX12_move_277 : decode cX12_move 277 = .ok (.iconst 0, 1) := by decide +kernel
theorem dX12_move_278 : decode cX12_move 278 = .ok (.ireturn, 1) := by decide +kernel
theorem dX12_move_279 : decode cX12_move 279 = .ok (.aload_n 0, 1) := by decide +kernel
theorem dX12_move_280 : decode cX12_move 280 = .ok (.getfield 33, 3) := by decide +kernel
theorem dX12_move_283 : decode cX12_move 283 = .ok (.sipush 535, 3) := by decide +kernel
theorem dX12_move_286 : decode cX12_move 286 = .ok (.dup2, 1) := by decide +kernel
theorem dX12_move_287 : decode cX12_move 287 = .ok (.iaload, 1) := by decide +kernel
theorem dX12_move_288 : decode cX12_move 288 = .ok (.iconst 1, 1) := by decide +kernel
theorem dX12_move_289 : decode cX12_move 289 = .ok (.iload 5, 2) := by decide +kernel
theorem dX12_move_291 : decode cX12_move 291 = .ok (.ishl, 1) := by decide +kernel
theorem dX12_move_292 : decode cX12_move 292 = .ok (.ior, 1) := by decide +kernel
theorem dX12_move_293 : decode cX12_move 293 = .ok (.iastore, 1) := by decide +kernel
theorem dX12_move_294 : decode cX12_move 294 = .ok (.aload_n 0, 1) := by decide +kernel
theorem dX12_move_295 : decode cX12_move 295 = .ok (.getfield 33, 3) := by decide +kernel
theorem dX12_move_298 : decode cX12_move 298 = .ok (.sipush 495, 3) := by decide +kernel
theorem dX12_move_301 : decode cX12_move 301 = .ok (.aload_n 0, 1) := by decide +kernel
theorem dX12_move_302 : decode cX12_move 302 = .ok (.getfield 33, 3) := by decide +kernel
theorem dX12_move_305 : decode cX12_move 305 = .ok (.sipush 484, 3) := by decide +kernel
theorem dX12_move_308 : decode cX12_move 308 = .ok (.iaload, 1) := by decide +kernel
theorem dX12_move_309 : decode cX12_move 309 = .ok (.iadd, 1) := by decide +kernel
theorem dX12_move_310 : decode cX12_move 310 = .ok (.aload_n 0, 1) := by decide +kernel
theorem dX12_move_311 : decode cX12_move 311 = .ok (.iload 5, 2) := by decide +kernel
theorem dX12_move_313 : decode cX12_move 313 = .ok (.invokevirtual 264, 3) := by decide +kernel
theorem dX12_move_316 : decode cX12_move 316 = .ok (.iastore, 1) := by decide +kernel
theorem dX12_move_317 : decode cX12_move 317 = .ok (.aload_n 0, 1) := by decide +kernel
theorem dX12_move_318 : decode cX12_move 318 = .ok (.getfield 33, 3) := by decide +kernel
theorem dX12_move_321 : decode cX12_move 321 = .ok (.sipush 515, 3) := by decide +kernel
theorem dX12_move_324 : decode cX12_move 324 = .ok (.aload_n 0, 1) := by decide +kernel
theorem dX12_move_325 : decode cX12_move 325 = .ok (.getfield 33, 3) := by decide +kernel
theorem dX12_move_328 : decode cX12_move 328 = .ok (.sipush 484, 3) := by decide +kernel
theorem dX12_move_331 : decode cX12_move 331 = .ok (.iaload, 1) := by decide +kernel
theorem dX12_move_332 : decode cX12_move 332 = .ok (.iadd, 1) := by decide +kernel
theorem dX12_move_333 : decode cX12_move 333 = .ok (.iconst 0, 1) := by decide +kernel
theorem dX12_move_334 : decode cX12_move 334 = .ok (.iastore, 1) := by decide +kernel
theorem dX12_move_335 : decode cX12_move 335 = .ok (.aload_n 0, 1) := by decide +kernel
theorem dX12_move_336 : decode cX12_move 336 = .ok (.getfield 33, 3) := by decide +kernel
theorem dX12_move_339 : decode cX12_move 339 = .ok (.sipush 484, 3) := by decide +kernel
theorem dX12_move_342 : decode cX12_move 342 = .ok (.dup2, 1) := by decide +kernel
theorem dX12_move_343 : decode cX12_move 343 = .ok (.iaload, 1) := by decide +kernel
theorem dX12_move_344 : decode cX12_move 344 = .ok (.iconst 1, 1) := by decide +kernel
theorem dX12_move_345 : decode cX12_move 345 = .ok (.iadd, 1) := by decide +kernel
theorem dX12_move_346 : decode cX12_move 346 = .ok (.iastore, 1) := by decide +kernel
theorem dX12_move_347 : decode cX12_move 347 = .ok (.iconst 0, 1) := by decide +kernel
theorem dX12_move_348 : decode cX12_move 348 = .ok (.ireturn, 1) := by decide +kernel
theorem dX12_moves_0 : decode cX12_moves 0 = .ok (.aload_n 0, 1) := by decide +kernel
theorem dX12_moves_1 : decode cX12_moves 1 = .ok (.iconst 0, 1) := by decide +kernel
theorem dX12_moves_2 : decode cX12_moves 2 = .ok (.putfield 373, 3) := by decide +kernel
theorem dX12_moves_5 : decode cX12_moves 5 = .ok (.aload_n 0, 1) := by decide +kernel
theorem dX12_moves_6 : decode cX12_moves 6 = .ok (.iconst 0, 1) := by decide +kernel
theorem dX12_moves_7 : decode cX12_moves 7 = .ok (.putfield 376, 3) := by decide +kernel
theorem dX12_moves_10 : decode cX12_moves 10 = .ok (.aload_n 0, 1) := by decide +kernel
theorem dX12_moves_11 : decode cX12_moves 11 = .ok (.getfield 373, 3) := by decide +kernel
theorem dX12_moves_14 : decode cX12_moves 14 = .ok (.iload_n 1, 1) := by decide +kernel
theorem dX12_moves_15 : decode cX12_moves 15 = .ok (.if_icmp .ge 43, 3) := by decide +kernel
theorem dX12_moves_18 : decode cX12_moves 18 = .ok (.aload_n 0, 1) := by decide +kernel
theorem dX12_moves_19 : decode cX12_moves 19 = .ok (.getfield 376, 3) := by decide +kernel
theorem dX12_moves_22 : decode cX12_moves 22 = .ok (.ifCond .ne 36, 3) := by decide +kernel
theorem dX12_moves_25 : decode cX12_moves 25 = .ok (.aload_n 0, 1) := by decide +kernel
theorem dX12_moves_26 : decode cX12_moves 26 = .ok (.aload_n 0, 1) := by decide +kernel
theorem dX12_moves_27 : decode cX12_moves 27 = .ok (.iload_n 2, 1) := by decide +kernel
theorem dX12_moves_28 : decode cX12_moves 28 = .ok (.invokevirtual 379, 3) := by decide +kernel
theorem dX12_moves_31 : decode cX12_moves 31 = .ok (.putfield 376, 3) := by decide +kernel
theorem dX12_moves_34 : decode cX12_moves 34 = .ok (.aload_n 0, 1) := by decide +kernel
theorem dX12_moves_35 : decode cX12_moves 35 = .ok (.dup, 1) := by decide +kernel
theorem dX12_moves_36 : decode cX12_moves 36 = .ok (.getfield 373, 3) := by decide +kernel
theorem dX12_moves_39 : decode cX12_moves 39 = .ok (.aload_n 0, 1) := by decide +kernel
theorem dX12_moves_40 : decode cX12_moves 40 = .ok (.getfield 376, 3) := by decide +kernel
theorem dX12_moves_43 : decode cX12_moves 43 = .ok (.ifCond .ne 7, 3) := by decide +kernel
theorem dX12_moves_46 : decode cX12_moves 46 = .ok (.iconst 1, 1) := by decide +kernel
theorem dX12_moves_47 : decode cX12_moves 47 = .ok (.goto 4, 3) := by decide +kernel
theorem dX12_moves_50 : decode cX12_moves 50 = .ok (.iconst 0, 1) := by decide +kernel
theorem dX12_moves_51 : decode cX12_moves 51 = .ok (.iadd, 1) := by decide +kernel
theorem dX12_moves_52 : decode cX12_moves 52 = .ok (.putfield 373, 3) := by decide +kernel
theorem dX12_moves_55 : decode cX12_moves 55 = .ok (.goto (-45), 3) := by decide +kernel
theorem dX12_moves_58 : decode cX12_moves 58 = .ok (.return_, 1) := by decide +kernel
theorem dX12_go_0 : decode cX12_go 0 = .ok (.aload_n 0, 1) := by decide +kernel
theorem dX12_go_1 : decode cX12_go 1 = .ok (.iconst 0, 1) := by decide +kernel
theorem dX12_go_2 : decode cX12_go 2 = .ok (.putfield 1, 3) := by decide +kernel
theorem dX12_go_5 : decode cX12_go 5 = .ok (.iload_n 1, 1) := by decide +kernel
theorem dX12_go_6 : decode cX12_go 6 = .ok (.iconst 0, 1) := by decide +kernel
theorem dX12_go_7 : decode cX12_go 7 = .ok (.sipush 400, 3) := by decide +kernel
theorem dX12_go_10 : decode cX12_go 10 = .ok (.invokestatic 182, 3) := by decide +kernel
theorem dX12_go_13 : decode cX12_go 13 = .ok (.ifCond .eq 12, 3) := by decide +kernel
theorem dX12_go_16 : decode cX12_go 16 = .ok (.iload_n 2, 1) := by decide +kernel
theorem dX12_go_17 : decode cX12_go 17 = .ok (.iconst 0, 1) := by decide +kernel
theorem dX12_go_18 : decode cX12_go 18 = .ok (.iconst 1, 1) := by decide +kernel
theorem dX12_go_19 : decode cX12_go 19 = .ok (.invokestatic 182, 3) := by decide +kernel
theorem dX12_go_22 : decode cX12_go 22 = .ok (.ifCond .ne 5, 3) := by decide +kernel
theorem dX12_go_25 : decode cX12_go 25 = .ok (.iconst (-1), 1) := by decide +kernel
theorem dX12_go_26 : decode cX12_go 26 = .ok (.ireturn, 1) := by decide +kernel
theorem dX12_go_27 : decode cX12_go 27 = .ok (.aload_n 0, 1) := by decide +kernel
theorem dX12_go_28 : decode cX12_go 28 = .ok (.iload_n 1, 1) := by decide +kernel
theorem dX12_go_29 : decode cX12_go 29 = .ok (.iload_n 2, 1) := by decide +kernel
theorem dX12_go_30 : decode cX12_go 30 = .ok (.invokevirtual 382, 3) := by decide +kernel
theorem dX12_go_33 : decode cX12_go 33 = .ok (.aload_n 0, 1) := by decide +kernel
theorem dX12_go_34 : decode cX12_go 34 = .ok (.getfield 373, 3) := by decide +kernel
theorem dX12_go_37 : decode cX12_go 37 = .ok (.ireturn, 1) := by decide +kernel
theorem dX12_planRow_0 : decode cX12_planRow 0 = .ok (.aload_n 0, 1) := by decide +kernel
theorem dX12_planRow_1 : decode cX12_planRow 1 = .ok (.ldc2_w 127, 3) := by decide +kernel
theorem dX12_planRow_4 : decode cX12_planRow 4 = .ok (.invokevirtual 197, 3) := by decide +kernel
theorem dX12_planRow_7 : decode cX12_planRow 7 = .ok (.ifCond .eq 7, 3) := by decide +kernel
theorem dX12_planRow_10 : decode cX12_planRow 10 = .ok (.iconst 0, 1) := by decide +kernel
theorem dX12_planRow_11 : decode cX12_planRow 11 = .ok (.goto 74, 3) := by decide +kernel
theorem dX12_planRow_14 : decode cX12_planRow 14 = .ok (.aload_n 0, 1) := by decide +kernel
theorem dX12_planRow_15 : decode cX12_planRow 15 = .ok (.ldc2_w 119, 3) := by decide +kernel
theorem dX12_planRow_18 : decode cX12_planRow 18 = .ok (.invokevirtual 197, 3) := by decide +kernel
theorem dX12_planRow_21 : decode cX12_planRow 21 = .ok (.ifCond .eq 7, 3) := by decide +kernel
theorem dX12_planRow_24 : decode cX12_planRow 24 = .ok (.iconst 1, 1) := by decide +kernel
theorem dX12_planRow_25 : decode cX12_planRow 25 = .ok (.goto 60, 3) := by decide +kernel
theorem dX12_planRow_28 : decode cX12_planRow 28 = .ok (.aload_n 0, 1) := by decide +kernel
theorem dX12_planRow_29 : decode cX12_planRow 29 = .ok (.ldc2_w 129, 3) := by decide +kernel
theorem dX12_planRow_32 : decode cX12_planRow 32 = .ok (.invokevirtual 197, 3) := by decide +kernel
theorem dX12_planRow_35 : decode cX12_planRow 35 = .ok (.ifCond .eq 7, 3) := by decide +kernel
theorem dX12_planRow_38 : decode cX12_planRow 38 = .ok (.iconst 2, 1) := by decide +kernel
theorem dX12_planRow_39 : decode cX12_planRow 39 = .ok (.goto 46, 3) := by decide +kernel
theorem dX12_planRow_42 : decode cX12_planRow 42 = .ok (.aload_n 0, 1) := by decide +kernel
theorem dX12_planRow_43 : decode cX12_planRow 43 = .ok (.ldc2_w 131, 3) := by decide +kernel
theorem dX12_planRow_46 : decode cX12_planRow 46 = .ok (.invokevirtual 197, 3) := by decide +kernel
theorem dX12_planRow_49 : decode cX12_planRow 49 = .ok (.ifCond .eq 7, 3) := by decide +kernel
theorem dX12_planRow_52 : decode cX12_planRow 52 = .ok (.iconst 3, 1) := by decide +kernel
theorem dX12_planRow_53 : decode cX12_planRow 53 = .ok (.goto 32, 3) := by decide +kernel
theorem dX12_planRow_56 : decode cX12_planRow 56 = .ok (.aload_n 0, 1) := by decide +kernel
theorem dX12_planRow_57 : decode cX12_planRow 57 = .ok (.ldc2_w 133, 3) := by decide +kernel
theorem dX12_planRow_60 : decode cX12_planRow 60 = .ok (.invokevirtual 197, 3) := by decide +kernel
theorem dX12_planRow_63 : decode cX12_planRow 63 = .ok (.ifCond .eq 7, 3) := by decide +kernel
theorem dX12_planRow_66 : decode cX12_planRow 66 = .ok (.iconst 4, 1) := by decide +kernel
theorem dX12_planRow_67 : decode cX12_planRow 67 = .ok (.goto 18, 3) := by decide +kernel
theorem dX12_planRow_70 : decode cX12_planRow 70 = .ok (.aload_n 0, 1) := by decide +kernel
theorem dX12_planRow_71 : decode cX12_planRow 71 = .ok (.ldc2_w 135, 3) := by decide +kernel
theorem dX12_planRow_74 : decode cX12_planRow 74 = .ok (.invokevirtual 197, 3) := by decide +kernel
theorem dX12_planRow_77 : decode cX12_planRow 77 = .ok (.ifCond .eq 7, 3) := by decide +kernel
theorem dX12_planRow_80 : decode cX12_planRow 80 = .ok (.iconst 5, 1) := by decide +kernel
theorem dX12_planRow_81 : decode cX12_planRow 81 = .ok (.goto 4, 3) := by decide +kernel
theorem dX12_planRow_84 : decode cX12_planRow 84 = .ok (.iconst (-1), 1) := by decide +kernel
theorem dX12_planRow_85 : decode cX12_planRow 85 = .ok (.istore_n 1, 1) := by decide +kernel
theorem dX12_planRow_86 : decode cX12_planRow 86 = .ok (.iload_n 1, 1) := by decide +kernel
theorem dX12_planRow_87 : decode cX12_planRow 87 = .ok (.ifCond .ge 9, 3) := by decide +kernel
theorem dX12_planRow_90 : decode cX12_planRow 90 = .ok (.aload_n 0, 1) := by decide +kernel
theorem dX12_planRow_91 : decode cX12_planRow 91 = .ok (.iconst 1, 1) := by decide +kernel
theorem dX12_planRow_92 : decode cX12_planRow 92 = .ok (.invokevirtual 176, 3) := by decide +kernel
theorem dX12_planRow_95 : decode cX12_planRow 95 = .ok (.ireturn, 1) := by decide +kernel
theorem dX12_planRow_96 : decode cX12_planRow 96 = .ok (.aload_n 0, 1) := by decide +kernel
theorem dX12_planRow_97 : decode cX12_planRow 97 = .ok (.getfield 385, 3) := by decide +kernel
theorem dX12_planRow_100 : decode cX12_planRow 100 = .ok (.bipush 30, 2) := by decide +kernel
theorem dX12_planRow_102 : decode cX12_planRow 102 = .ok (.if_icmp .ne 9, 3) := by decide +kernel
theorem dX12_planRow_105 : decode cX12_planRow 105 = .ok (.aload_n 0, 1) := by decide +kernel
theorem dX12_planRow_106 : decode cX12_planRow 106 = .ok (.iconst 4, 1) := by decide +kernel
theorem dX12_planRow_107 : decode cX12_planRow 107 = .ok (.invokevirtual 176, 3) := by decide +kernel
theorem dX12_planRow_110 : decode cX12_planRow 110 = .ok (.ireturn, 1) := by decide +kernel
theorem dX12_planRow_111 : decode cX12_planRow 111 = .ok (.iconst 1, 1) := by decide +kernel
theorem dX12_planRow_112 : decode cX12_planRow 112 = .ok (.iconst 3, 1) := by decide +kernel
theorem dX12_planRow_113 : decode cX12_planRow 113 = .ok (.aload_n 0, 1) := by decide +kernel
theorem dX12_planRow_114 : decode cX12_planRow 114 = .ok (.getfield 385, 3) := by decide +kernel
theorem dX12_planRow_117 : decode cX12_planRow 117 = .ok (.imul, 1) := by decide +kernel
theorem dX12_planRow_118 : decode cX12_planRow 118 = .ok (.iadd, 1) := by decide +kernel
theorem dX12_planRow_119 : decode cX12_planRow 119 = .ok (.istore_n 2, 1) := by decide +kernel
theorem dX12_planRow_120 : decode cX12_planRow 120 = .ok (.aload_n 0, 1) := by decide +kernel
theorem dX12_planRow_121 : decode cX12_planRow 121 = .ok (.invokevirtual 179, 3) := by decide +kernel
theorem dX12_planRow_124 : decode cX12_planRow 124 = .ok (.aload_n 0, 1) := by decide +kernel
theorem dX12_planRow_125 : decode cX12_planRow 125 = .ok (.getfield 40, 3) := by decide +kernel
theorem dX12_planRow_128 : decode cX12_planRow 128 = .ok (.iload_n 2, 1) := by decide +kernel
theorem dX12_planRow_129 : decode cX12_planRow 129 = .ok (.iload_n 1, 1) := by decide +kernel
theorem dX12_planRow_130 : decode cX12_planRow 130 = .ok (.iastore, 1) := by decide +kernel
theorem dX12_planRow_131 : decode cX12_planRow 131 = .ok (.aload_n 0, 1) := by decide +kernel
theorem dX12_planRow_132 : decode cX12_planRow 132 = .ok (.getfield 40, 3) := by decide +kernel
theorem dX12_planRow_135 : decode cX12_planRow 135 = .ok (.iload_n 2, 1) := by decide +kernel
theorem dX12_planRow_136 : decode cX12_planRow 136 = .ok (.iconst 1, 1) := by decide +kernel
theorem dX12_planRow_137 : decode cX12_planRow 137 = .ok (.iadd, 1) := by decide +kernel
theorem dX12_planRow_138 : decode cX12_planRow 138 = .ok (.iconst 0, 1) := by decide +kernel
theorem dX12_planRow_139 : decode cX12_planRow 139 = .ok (.iastore, 1) := by decide +kernel
theorem dX12_planRow_140 : decode cX12_planRow 140 = .ok (.aload_n 0, 1) := by decide +kernel
theorem dX12_planRow_141 : decode cX12_planRow 141 = .ok (.getfield 40, 3) := by decide +kernel
theorem dX12_planRow_144 : decode cX12_planRow 144 = .ok (.iload_n 2, 1) := by decide +kernel
theorem dX12_planRow_145 : decode cX12_planRow 145 = .ok (.iconst 2, 1) := by decide +kernel
theorem dX12_planRow_146 : decode cX12_planRow 146 = .ok (.iadd, 1) := by decide +kernel
theorem dX12_planRow_147 : decode cX12_planRow 147 = .ok (.iconst 0, 1) := by decide +kernel
theorem dX12_planRow_148 : decode cX12_planRow 148 = .ok (.iastore, 1) := by decide +kernel
theorem dX12_planRow_149 : decode cX12_planRow 149 = .ok (.iload_n 1, 1) := by decide +kernel
theorem dX12_planRow_150 : decode cX12_planRow 150 = .ok (.iconst 3, 1) := by decide +kernel
theorem dX12_planRow_151 : decode cX12_planRow 151 = .ok (.if_icmp .eq 8, 3) := by decide +kernel
theorem dX12_planRow_154 : decode cX12_planRow 154 = .ok (.iload_n 1, 1) := by decide +kernel
theorem dX12_planRow_155 : decode cX12_planRow 155 = .ok (.iconst 5, 1) := by decide +kernel
theorem dX12_planRow_156 : decode cX12_planRow 156 = .ok (.if_icmp .ne 5, 3) := by decide +kernel
theorem dX12_planRow_159 : decode cX12_planRow 159 = .ok (.iconst 1, 1) := by decide +kernel
theorem dX12_planRow_160 : decode cX12_planRow 160 = .ok (.ireturn, 1) := by decide +kernel
theorem dX12_planRow_161 : decode cX12_planRow 161 = .ok (.iload_n 1, 1) := by decide +kernel
theorem dX12_planRow_162 : decode cX12_planRow 162 = .ok (.iconst 2, 1) := by decide +kernel
theorem dX12_planRow_163 : decode cX12_planRow 163 = .ok (.if_icmp .ge 17, 3) := by decide +kernel
theorem dX12_planRow_166 : decode cX12_planRow 166 = .ok (.aload_n 0, 1) := by decide +kernel
theorem dX12_planRow_167 : decode cX12_planRow 167 = .ok (.iconst 1, 1) := by decide +kernel
theorem dX12_planRow_168 : decode cX12_planRow 168 = .ok (.sipush 400, 3) := by decide +kernel
theorem dX12_planRow_171 : decode cX12_planRow 171 = .ok (.invokevirtual 216, 3) := by decide +kernel
theorem dX12_planRow_174 : decode cX12_planRow 174 = .ok (.ifCond .ne 18, 3) := by decide +kernel
theorem dX12_planRow_177 : decode cX12_planRow 177 = .ok (.goto 13, 3) := by decide +kernel
theorem dX12_planRow_180 : decode cX12_planRow 180 = .ok (.aload_n 0, 1) := by decide +kernel
theorem dX12_planRow_181 : decode cX12_planRow 181 = .ok (.iconst 0, 1) := by decide +kernel
theorem dX12_planRow_182 : decode cX12_planRow 182 = .ok (.bipush 19, 2) := by decide +kernel
theorem dX12_planRow_184 : decode cX12_planRow 184 = .ok (.invokevirtual 216, 3) := by decide +kernel
theorem dX12_planRow_187 : decode cX12_planRow 187 = .ok (.ifCond .ne 5, 3) := by decide +kernel
theorem dX12_planRow_190 : decode cX12_planRow 190 = .ok (.iconst 0, 1) := by decide +kernel
theorem dX12_planRow_191 : decode cX12_planRow 191 = .ok (.ireturn, 1) := by decide +kernel
theorem dX12_planRow_192 : decode cX12_planRow 192 = .ok (.aload_n 0, 1) := by decide +kernel
theorem dX12_planRow_193 : decode cX12_planRow 193 = .ok (.getfield 40, 3) := by decide +kernel
theorem dX12_planRow_196 : decode cX12_planRow 196 = .ok (.iload_n 2, 1) := by decide +kernel
theorem dX12_planRow_197 : decode cX12_planRow 197 = .ok (.iconst 1, 1) := by decide +kernel
theorem dX12_planRow_198 : decode cX12_planRow 198 = .ok (.iadd, 1) := by decide +kernel
theorem dX12_planRow_199 : decode cX12_planRow 199 = .ok (.aload_n 0, 1) := by decide +kernel
theorem dX12_planRow_200 : decode cX12_planRow 200 = .ok (.getfield 186, 3) := by decide +kernel
theorem dX12_planRow_203 : decode cX12_planRow 203 = .ok (.iastore, 1) := by decide +kernel
theorem dX12_planRow_204 : decode cX12_planRow 204 = .ok (.iload_n 1, 1) := by decide +kernel
theorem dX12_planRow_205 : decode cX12_planRow 205 = .ok (.iconst 2, 1) := by decide +kernel
theorem dX12_planRow_206 : decode cX12_planRow 206 = .ok (.if_icmp .eq 5, 3) := by decide +kernel
theorem dX12_planRow_209 : decode cX12_planRow 209 = .ok (.iconst 1, 1) := by decide +kernel
theorem dX12_planRow_210 : decode cX12_planRow 210 = .ok (.ireturn, 1) := by decide +kernel
theorem dX12_planRow_211 : decode cX12_planRow 211 = .ok (.aload_n 0, 1) := by decide +kernel
theorem dX12_planRow_212 : decode cX12_planRow 212 = .ok (.iconst 1, 1) := by decide +kernel
theorem dX12_planRow_213 : decode cX12_planRow 213 = .ok (.sipush 999, 3) := by decide +kernel
theorem dX12_planRow_216 : decode cX12_planRow 216 = .ok (.invokevirtual 216, 3) := by decide +kernel
theorem dX12_planRow_219 : decode cX12_planRow 219 = .ok (.ifCond .ne 5, 3) := by decide +kernel
theorem dX12_planRow_222 : decode cX12_planRow 222 = .ok (.iconst 0, 1) := by decide +kernel
theorem dX12_planRow_223 : decode cX12_planRow 223 = .ok (.ireturn, 1) := by decide +kernel
theorem dX12_planRow_224 : decode cX12_planRow 224 = .ok (.aload_n 0, 1) := by decide +kernel
theorem dX12_planRow_225 : decode cX12_planRow 225 = .ok (.getfield 40, 3) := by decide +kernel
theorem dX12_planRow_228 : decode cX12_planRow 228 = .ok (.iload_n 2, 1) := by decide +kernel
theorem dX12_planRow_229 : decode cX12_planRow 229 = .ok (.iconst 2, 1) := by decide +kernel
theorem dX12_planRow_230 : decode cX12_planRow 230 = .ok (.iadd, 1) := by decide +kernel
theorem dX12_planRow_231 : decode cX12_planRow 231 = .ok (.aload_n 0, 1) := by decide +kernel
theorem dX12_planRow_232 : decode cX12_planRow 232 = .ok (.getfield 186, 3) := by decide +kernel
theorem dX12_planRow_235 : decode cX12_planRow 235 = .ok (.iastore, 1) := by decide +kernel
theorem dX12_planRow_236 : decode cX12_planRow 236 = .ok (.iconst 1, 1) := by decide +kernel
theorem dX12_planRow_237 : decode cX12_planRow 237 = .ok (.ireturn, 1) := by decide +kernel
theorem dX12_plan_0 : decode cX12_plan 0 = .ok (.aload_n 0, 1) := by decide +kernel
theorem dX12_plan_1 : decode cX12_plan 1 = .ok (.iconst 0, 1) := by decide +kernel
theorem dX12_plan_2 : decode cX12_plan 2 = .ok (.putfield 1, 3) := by decide +kernel
theorem dX12_plan_5 : decode cX12_plan 5 = .ok (.aload_n 0, 1) := by decide +kernel
theorem dX12_plan_6 : decode cX12_plan 6 = .ok (.sipush 400, 3) := by decide +kernel
theorem dX12_plan_9 : decode cX12_plan 9 = .ok (.invokevirtual 238, 3) := by decide +kernel
theorem dX12_plan_12 : decode cX12_plan 12 = .ok (.aload_n 0, 1) := by decide +kernel
theorem dX12_plan_13 : decode cX12_plan 13 = .ok (.iconst 0, 1) := by decide +kernel
theorem dX12_plan_14 : decode cX12_plan 14 = .ok (.putfield 167, 3) := by decide +kernel
theorem dX12_plan_17 : decode cX12_plan 17 = .ok (.aload_n 0, 1) := by decide +kernel
theorem dX12_plan_18 : decode cX12_plan 18 = .ok (.iconst 0, 1) := by decide +kernel
theorem dX12_plan_19 : decode cX12_plan 19 = .ok (.putfield 385, 3) := by decide +kernel
theorem dX12_plan_22 : decode cX12_plan 22 = .ok (.aload_n 0, 1) := by decide +kernel
theorem dX12_plan_23 : decode cX12_plan 23 = .ok (.invokevirtual 179, 3) := by decide +kernel
theorem dX12_plan_26 : decode cX12_plan 26 = .ok (.aload_n 0, 1) := by decide +kernel
theorem dX12_plan_27 : decode cX12_plan 27 = .ok (.getfield 150, 3) := by decide +kernel
theorem dX12_plan_30 : decode cX12_plan 30 = .ok (.ifCond .eq 39, 3) := by decide +kernel
theorem dX12_plan_33 : decode cX12_plan 33 = .ok (.aload_n 0, 1) := by decide +kernel
theorem dX12_plan_34 : decode cX12_plan 34 = .ok (.invokevirtual 388, 3) := by decide +kernel
theorem dX12_plan_37 : decode cX12_plan 37 = .ok (.ifCond .eq 12, 3) := by decide +kernel
theorem dX12_plan_40 : decode cX12_plan 40 = .ok (.aload_n 0, 1) := by decide +kernel
theorem dX12_plan_41 : decode cX12_plan 41 = .ok (.bipush 59, 2) := by decide +kernel
theorem dX12_plan_43 : decode cX12_plan 43 = .ok (.invokevirtual 247, 3) := by decide +kernel
theorem dX12_plan_46 : decode cX12_plan 46 = .ok (.ifCond .ne 10, 3) := by decide +kernel
theorem dX12_plan_49 : decode cX12_plan 49 = .ok (.iconst (-1), 1) := by decide +kernel
theorem dX12_plan_50 : decode cX12_plan 50 = .ok (.aload_n 0, 1) := by decide +kernel
theorem dX12_plan_51 : decode cX12_plan 51 = .ok (.getfield 170, 3) := by decide +kernel
theorem dX12_plan_54 : decode cX12_plan 54 = .ok (.isub, 1) := by decide +kernel
theorem dX12_plan_55 : decode cX12_plan 55 = .ok (.ireturn, 1) := by decide +kernel
theorem dX12_plan_56 : decode cX12_plan 56 = .ok (.aload_n 0, 1) := by decide +kernel
theorem dX12_plan_57 : decode cX12_plan 57 = .ok (.dup, 1) := by decide +kernel
theorem dX12_plan_58 : decode cX12_plan 58 = .ok (.getfield 385, 3) := by decide +kernel
theorem dX12_plan_61 : decode cX12_plan 61 = .ok (.iconst 1, 1) := by decide +kernel
theorem dX12_plan_62 : decode cX12_plan 62 = .ok (.iadd, 1) := by decide +kernel
theorem dX12_plan_63 : decode cX12_plan 63 = .ok (.putfield 385, 3) := by decide +kernel
theorem dX12_plan_66 : decode cX12_plan 66 = .ok (.goto (-40), 3) := by decide +kernel
theorem dX12_plan_69 : decode cX12_plan 69 = .ok (.aload_n 0, 1) := by decide +kernel
theorem dX12_plan_70 : decode cX12_plan 70 = .ok (.getfield 40, 3) := by decide +kernel
theorem dX12_plan_73 : decode cX12_plan 73 = .ok (.iconst 0, 1) := by decide +kernel
theorem dX12_plan_74 : decode cX12_plan 74 = .ok (.aload_n 0, 1) := by decide +kernel
theorem dX12_plan_75 : decode cX12_plan 75 = .ok (.getfield 385, 3) := by decide +kernel
theorem dX12_plan_78 : decode cX12_plan 78 = .ok (.iastore, 1) := by decide +kernel
theorem dX12_plan_79 : decode cX12_plan 79 = .ok (.iconst 0, 1) := by decide +kernel
theorem dX12_plan_80 : decode cX12_plan 80 = .ok (.istore_n 1, 1) := by decide +kernel
theorem dX12_plan_81 : decode cX12_plan 81 = .ok (.iload_n 1, 1) := by decide +kernel
theorem dX12_plan_82 : decode cX12_plan 82 = .ok (.iconst 3, 1) := by decide +kernel
theorem dX12_plan_83 : decode cX12_plan 83 = .ok (.aload_n 0, 1) := by decide +kernel
theorem dX12_plan_84 : decode cX12_plan 84 = .ok (.getfield 385, 3) := by decide +kernel
theorem dX12_plan_87 : decode cX12_plan 87 = .ok (.imul, 1) := by decide +kernel
theorem dX12_plan_88 : decode cX12_plan 88 = .ok (.if_icmp .gt 25, 3) := by decide +kernel
theorem dX12_plan_91 : decode cX12_plan 91 = .ok (.aload_n 0, 1) := by decide +kernel
theorem dX12_plan_92 : decode cX12_plan 92 = .ok (.getfield 33, 3) := by decide +kernel
theorem dX12_plan_95 : decode cX12_plan 95 = .ok (.sipush 977, 3) := by decide +kernel
theorem dX12_plan_98 : decode cX12_plan 98 = .ok (.iload_n 1, 1) := by decide +kernel
theorem dX12_plan_99 : decode cX12_plan 99 = .ok (.iadd, 1) := by decide +kernel
theorem dX12_plan_100 : decode cX12_plan 100 = .ok (.aload_n 0, 1) := by decide +kernel
theorem dX12_plan_101 : decode cX12_plan 101 = .ok (.getfield 40, 3) := by decide +kernel
theorem dX12_plan_104 : decode cX12_plan 104 = .ok (.iload_n 1, 1) := by decide +kernel
theorem dX12_plan_105 : decode cX12_plan 105 = .ok (.iaload, 1) := by decide +kernel
theorem dX12_plan_106 : decode cX12_plan 106 = .ok (.iastore, 1) := by decide +kernel
theorem dX12_plan_107 : decode cX12_plan 107 = .ok (.iinc 1 1, 3) := by decide +kernel
theorem dX12_plan_110 : decode cX12_plan 110 = .ok (.goto (-29), 3) := by decide +kernel
theorem dX12_plan_113 : decode cX12_plan 113 = .ok (.aload_n 0, 1) := by decide +kernel
theorem dX12_plan_114 : decode cX12_plan 114 = .ok (.getfield 385, 3) := by decide +kernel
theorem dX12_plan_117 : decode cX12_plan 117 = .ok (.ireturn, 1) := by decide +kernel
theorem dX12_does_0 : decode cX12_does 0 = .ok (.iload_n 1, 1) := by decide +kernel
theorem dX12_does_1 : decode cX12_does 1 = .ok (.tableswitch 216 0 4 #[35, 35, 81, 159, 183], 35) := by decide +kernel
theorem dX12_does_36 : decode cX12_does 36 = .ok (.aload_n 0, 1) := by decide +kernel
theorem dX12_does_37 : decode cX12_does 37 = .ok (.iload_n 2, 1) := by decide +kernel
theorem dX12_does_38 : decode cX12_does 38 = .ok (.iload_n 1, 1) := by decide +kernel
theorem dX12_does_39 : decode cX12_does 39 = .ok (.invokevirtual 382, 3) := by decide +kernel
theorem dX12_does_42 : decode cX12_does 42 = .ok (.aload_n 0, 1) := by decide +kernel
theorem dX12_does_43 : decode cX12_does 43 = .ok (.getfield 89, 3) := by decide +kernel
theorem dX12_does_46 : decode cX12_does 46 = .ok (.iconst 1, 1) := by decide +kernel
theorem dX12_does_47 : decode cX12_does 47 = .ok (.dup2, 1) := by decide +kernel
theorem dX12_does_48 : decode cX12_does 48 = .ok (.iaload, 1) := by decide +kernel
theorem dX12_does_49 : decode cX12_does 49 = .ok (.aload_n 0, 1) := by decide +kernel
theorem dX12_does_50 : decode cX12_does 50 = .ok (.getfield 373, 3) := by decide +kernel
theorem dX12_does_53 : decode cX12_does 53 = .ok (.iadd, 1) := by decide +kernel
theorem dX12_does_54 : decode cX12_does 54 = .ok (.iastore, 1) := by decide +kernel
theorem dX12_does_55 : decode cX12_does 55 = .ok (.aload_n 0, 1) := by decide +kernel
theorem dX12_does_56 : decode cX12_does 56 = .ok (.getfield 89, 3) := by decide +kernel
theorem dX12_does_59 : decode cX12_does 59 = .ok (.iconst 2, 1) := by decide +kernel
theorem dX12_does_60 : decode cX12_does 60 = .ok (.dup2, 1) := by decide +kernel
theorem dX12_does_61 : decode cX12_does 61 = .ok (.iaload, 1) := by decide +kernel
theorem dX12_does_62 : decode cX12_does 62 = .ok (.iload_n 1, 1) := by decide +kernel
theorem dX12_does_63 : decode cX12_does 63 = .ok (.iconst 1, 1) := by decide +kernel
theorem dX12_does_64 : decode cX12_does 64 = .ok (.if_icmp .ne 10, 3) := by decide +kernel
theorem dX12_does_67 : decode cX12_does 67 = .ok (.aload_n 0, 1) := by decide +kernel
theorem dX12_does_68 : decode cX12_does 68 = .ok (.getfield 373, 3) := by decide +kernel
theorem dX12_does_71 : decode cX12_does 71 = .ok (.goto 4, 3) := by decide +kernel
theorem dX12_does_74 : decode cX12_does 74 = .ok (.iconst 0, 1) := by decide +kernel
theorem dX12_does_75 : decode cX12_does 75 = .ok (.iadd, 1) := by decide +kernel
theorem dX12_does_76 : decode cX12_does 76 = .ok (.iastore, 1) := by decide +kernel
theorem dX12_does_77 : decode cX12_does 77 = .ok (.aload_n 0, 1) := by decide +kernel
theorem dX12_does_78 : decode cX12_does 78 = .ok (.getfield 376, 3) := by decide +kernel
theorem dX12_does_81 : decode cX12_does 81 = .ok (.ireturn, 1) := by decide +kernel
theorem dX12_does_82 : decode cX12_does 82 = .ok (.iload_n 2, 1) := by decide +kernel
theorem dX12_does_83 : decode cX12_does 83 = .ok (.aload_n 0, 1) := by decide +kernel
theorem dX12_does_84 : decode cX12_does 84 = .ok (.getfield 33, 3) := by decide +kernel
theorem dX12_does_87 : decode cX12_does 87 = .ok (.sipush 484, 3) := by decide +kernel
theorem dX12_does_90 : decode cX12_does 90 = .ok (.iaload, 1) := by decide +kernel
theorem dX12_does_91 : decode cX12_does 91 = .ok (.if_icmp .lt 5, 3) := by decide +kernel
theorem dX12_does_94 : decode cX12_does 94 = .ok (.iconst 3, 1) := by decide +kernel
theorem dX12_does_95 : decode cX12_does 95 = .ok (.ireturn, 1) := by decide +kernel
theorem dX12_does_96 : decode cX12_does 96 = .ok (.aload_n 0, 1) := by decide +kernel
theorem dX12_does_97 : decode cX12_does 97 = .ok (.getfield 33, 3) := by decide +kernel
theorem dX12_does_100 : decode cX12_does 100 = .ok (.sipush 486, 3) := by decide +kernel
theorem dX12_does_103 : decode cX12_does 103 = .ok (.iaload, 1) := by decide +kernel
theorem dX12_does_104 : decode cX12_does 104 = .ok (.iconst 4, 1) := by decide +kernel
theorem dX12_does_105 : decode cX12_does 105 = .ok (.if_icmp .ne 5, 3) := by decide +kernel
theorem dX12_does_108 : decode cX12_does 108 = .ok (.iconst 5, 1) := by decide +kernel
theorem dX12_does_109 : decode cX12_does 109 = .ok (.ireturn, 1) := by decide +kernel
theorem dX12_does_110 : decode cX12_does 110 = .ok (.aload_n 0, 1) := by decide +kernel
theorem dX12_does_111 : decode cX12_does 111 = .ok (.getfield 33, 3) := by decide +kernel
theorem dX12_does_114 : decode cX12_does 114 = .ok (.sipush 487, 3) := by decide +kernel
theorem dX12_does_117 : decode cX12_does 117 = .ok (.aload_n 0, 1) := by decide +kernel
theorem dX12_does_118 : decode cX12_does 118 = .ok (.getfield 33, 3) := by decide +kernel
theorem dX12_does_121 : decode cX12_does 121 = .ok (.sipush 486, 3) := by decide +kernel
theorem dX12_does_124 : decode cX12_does 124 = .ok (.iaload, 1) := by decide +kernel
theorem dX12_does_125 : decode cX12_does 125 = .ok (.iadd, 1) := by decide +kernel
theorem dX12_does_126 : decode cX12_does 126 = .ok (.iload_n 2, 1) := by decide +kernel
theorem dX12_does_127 : decode cX12_does 127 = .ok (.iastore, 1) := by decide +kernel
theorem dX12_does_128 : decode cX12_does 128 = .ok (.aload_n 0, 1) := by decide +kernel
theorem dX12_does_129 : decode cX12_does 129 = .ok (.getfield 33, 3) := by decide +kernel
theorem dX12_does_132 : decode cX12_does 132 = .ok (.sipush 491, 3) := by decide +kernel
theorem dX12_does_135 : decode cX12_does 135 = .ok (.aload_n 0, 1) := by decide +kernel
theorem dX12_does_136 : decode cX12_does 136 = .ok (.getfield 33, 3) := by decide +kernel
theorem dX12_does_139 : decode cX12_does 139 = .ok (.sipush 486, 3) := by decide +kernel
theorem dX12_does_142 : decode cX12_does 142 = .ok (.iaload, 1) := by decide +kernel
theorem dX12_does_143 : decode cX12_does 143 = .ok (.iadd, 1) := by decide +kernel
theorem dX12_does_144 : decode cX12_does 144 = .ok (.iload_n 3, 1) := by decide +kernel
theorem dX12_does_145 : decode cX12_does 145 = .ok (.iastore, 1) := by decide +kernel
theorem dX12_does_146 : decode cX12_does 146 = .ok (.aload_n 0, 1) := by decide +kernel
theorem dX12_does_147 : decode cX12_does 147 = .ok (.getfield 33, 3) := by decide +kernel
theorem dX12_does_150 : decode cX12_does 150 = .ok (.sipush 486, 3) := by decide +kernel
theorem dX12_does_153 : decode cX12_does 153 = .ok (.dup2, 1) := by decide +kernel
theorem dX12_does_154 : decode cX12_does 154 = .ok (.iaload, 1) := by decide +kernel
theorem dX12_does_155 : decode cX12_does 155 = .ok (.iconst 1, 1) := by decide +kernel
theorem dX12_does_156 : decode cX12_does 156 = .ok (.iadd, 1) := by decide +kernel
theorem dX12_does_157 : decode cX12_does 157 = .ok (.iastore, 1) := by decide +kernel
theorem dX12_does_158 : decode cX12_does 158 = .ok (.iconst 0, 1) := by decide +kernel
theorem dX12_does_159 : decode cX12_does 159 = .ok (.ireturn, 1) := by decide +kernel
theorem dX12_does_160 : decode cX12_does 160 = .ok (.aload_n 0, 1) := by decide +kernel
theorem dX12_does_161 : decode cX12_does 161 = .ok (.getfield 33, 3) := by decide +kernel
theorem dX12_does_164 : decode cX12_does 164 = .ok (.sipush 486, 3) := by decide +kernel
theorem dX12_does_167 : decode cX12_does 167 = .ok (.iaload, 1) := by decide +kernel
theorem dX12_does_168 : decode cX12_does 168 = .ok (.ifCond .ne 5, 3) := by decide +kernel
theorem dX12_does_171 : decode cX12_does 171 = .ok (.iconst 4, 1) := by decide +kernel
theorem dX12_does_172 : decode cX12_does 172 = .ok (.ireturn, 1) := by decide +kernel
theorem dX12_does_173 : decode cX12_does 173 = .ok (.aload_n 0, 1) := by decide +kernel
theorem dX12_does_174 : decode cX12_does 174 = .ok (.getfield 33, 3) := by decide +kernel
theorem dX12_does_177 : decode cX12_does 177 = .ok (.sipush 486, 3) := by decide +kernel
theorem dX12_does_180 : decode cX12_does 180 = .ok (.iconst 0, 1) := by decide +kernel
theorem dX12_does_181 : decode cX12_does 181 = .ok (.iastore, 1) := by decide +kernel
theorem dX12_does_182 : decode cX12_does 182 = .ok (.iconst 0, 1) := by decide +kernel
theorem dX12_does_183 : decode cX12_does 183 = .ok (.ireturn, 1) := by decide +kernel
theorem dX12_does_184 : decode cX12_does 184 = .ok (.iload_n 2, 1) := by decide +kernel
theorem dX12_does_185 : decode cX12_does 185 = .ok (.aload_n 0, 1) := by decide +kernel
theorem dX12_does_186 : decode cX12_does 186 = .ok (.getfield 33, 3) := by decide +kernel
theorem dX12_does_189 : decode cX12_does 189 = .ok (.sipush 484, 3) := by decide +kernel
theorem dX12_does_192 : decode cX12_does 192 = .ok (.iaload, 1) := by decide +kernel
theorem dX12_does_193 : decode cX12_does 193 = .ok (.if_icmp .lt 5, 3) := by decide +kernel
theorem dX12_does_196 : decode cX12_does 196 = .ok (.iconst 3, 1) := by decide +kernel
theorem dX12_does_197 : decode cX12_does 197 = .ok (.ireturn, 1) := by decide +kernel
theorem dX12_does_198 : decode cX12_does 198 = .ok (.aload_n 0, 1) := by decide +kernel
theorem dX12_does_199 : decode cX12_does 199 = .ok (.aload_n 0, 1) := by decide +kernel
theorem dX12_does_200 : decode cX12_does 200 = .ok (.getfield 33, 3) := by decide +kernel
theorem dX12_does_203 : decode cX12_does 203 = .ok (.sipush 483, 3) := by decide +kernel
theorem dX12_does_206 : decode cX12_does 206 = .ok (.iaload, 1) := by decide +kernel
theorem dX12_does_207 : decode cX12_does 207 = .ok (.invokevirtual 361, 3) := by decide +kernel
theorem dX12_does_210 : decode cX12_does 210 = .ok (.aload_n 0, 1) := by decide +kernel
theorem dX12_does_211 : decode cX12_does 211 = .ok (.iload_n 2, 1) := by decide +kernel
theorem dX12_does_212 : decode cX12_does 212 = .ok (.invokevirtual 370, 3) := by decide +kernel
theorem dX12_does_215 : decode cX12_does 215 = .ok (.iconst 0, 1) := by decide +kernel
theorem dX12_does_216 : decode cX12_does 216 = .ok (.ireturn, 1) := by decide +kernel
theorem dX12_does_217 : decode cX12_does 217 = .ok (.aload_n 0, 1) := by decide +kernel
theorem dX12_does_218 : decode cX12_does 218 = .ok (.getfield 33, 3) := by decide +kernel
theorem dX12_does_221 : decode cX12_does 221 = .ok (.sipush 485, 3) := by decide +kernel
theorem dX12_does_224 : decode cX12_does 224 = .ok (.iaload, 1) := by decide +kernel
theorem dX12_does_225 : decode cX12_does 225 = .ok (.ifCond .ne 6, 3) := by decide +kernel
theorem dX12_does_228 : decode cX12_does 228 = .ok (.bipush 6, 2) := by decide +kernel
theorem dX12_does_230 : decode cX12_does 230 = .ok (.ireturn, 1) := by decide +kernel
theorem dX12_does_231 : decode cX12_does 231 = .ok (.aload_n 0, 1) := by decide +kernel
theorem dX12_does_232 : decode cX12_does 232 = .ok (.getfield 33, 3) := by decide +kernel
theorem dX12_does_235 : decode cX12_does 235 = .ok (.sipush 485, 3) := by decide +kernel
theorem dX12_does_238 : decode cX12_does 238 = .ok (.iconst 0, 1) := by decide +kernel
theorem dX12_does_239 : decode cX12_does 239 = .ok (.iastore, 1) := by decide +kernel
theorem dX12_does_240 : decode cX12_does 240 = .ok (.iconst 0, 1) := by decide +kernel
theorem dX12_does_241 : decode cX12_does 241 = .ok (.ireturn, 1) := by decide +kernel
theorem dX12_judge_0 : decode cX12_judge 0 = .ok (.aload_n 0, 1) := by decide +kernel
theorem dX12_judge_1 : decode cX12_judge 1 = .ok (.iconst 0, 1) := by decide +kernel
theorem dX12_judge_2 : decode cX12_judge 2 = .ok (.putfield 1, 3) := by decide +kernel
theorem dX12_judge_5 : decode cX12_judge 5 = .ok (.iload_n 1, 1) := by decide +kernel
theorem dX12_judge_6 : decode cX12_judge 6 = .ok (.iconst 0, 1) := by decide +kernel
theorem dX12_judge_7 : decode cX12_judge 7 = .ok (.iconst 1, 1) := by decide +kernel
theorem dX12_judge_8 : decode cX12_judge 8 = .ok (.invokestatic 182, 3) := by decide +kernel
theorem dX12_judge_11 : decode cX12_judge 11 = .ok (.ifCond .ne 6, 3) := by decide +kernel
theorem dX12_judge_14 : decode cX12_judge 14 = .ok (.bipush (-2), 2) := by decide +kernel
theorem dX12_judge_16 : decode cX12_judge 16 = .ok (.ireturn, 1) := by decide +kernel
theorem dX12_judge_17 : decode cX12_judge 17 = .ok (.iconst 0, 1) := by decide +kernel
theorem dX12_judge_18 : decode cX12_judge 18 = .ok (.istore_n 2, 1) := by decide +kernel
theorem dX12_judge_19 : decode cX12_judge 19 = .ok (.iload_n 2, 1) := by decide +kernel
theorem dX12_judge_20 : decode cX12_judge 20 = .ok (.sipush 1068, 3) := by decide +kernel
theorem dX12_judge_23 : decode cX12_judge 23 = .ok (.if_icmp .ge 21, 3) := by decide +kernel
theorem dX12_judge_26 : decode cX12_judge 26 = .ok (.aload_n 0, 1) := by decide +kernel
theorem dX12_judge_27 : decode cX12_judge 27 = .ok (.getfield 92, 3) := by decide +kernel
theorem dX12_judge_30 : decode cX12_judge 30 = .ok (.iload_n 2, 1) := by decide +kernel
theorem dX12_judge_31 : decode cX12_judge 31 = .ok (.aload_n 0, 1) := by decide +kernel
theorem dX12_judge_32 : decode cX12_judge 32 = .ok (.getfield 33, 3) := by decide +kernel
theorem dX12_judge_35 : decode cX12_judge 35 = .ok (.iload_n 2, 1) := by decide +kernel
theorem dX12_judge_36 : decode cX12_judge 36 = .ok (.iaload, 1) := by decide +kernel
theorem dX12_judge_37 : decode cX12_judge 37 = .ok (.iastore, 1) := by decide +kernel
theorem dX12_judge_38 : decode cX12_judge 38 = .ok (.iinc 2 1, 3) := by decide +kernel
theorem dX12_judge_41 : decode cX12_judge 41 = .ok (.goto (-22), 3) := by decide +kernel
theorem dX12_judge_44 : decode cX12_judge 44 = .ok (.iconst 0, 1) := by decide +kernel
theorem dX12_judge_45 : decode cX12_judge 45 = .ok (.istore_n 2, 1) := by decide +kernel
theorem dX12_judge_46 : decode cX12_judge 46 = .ok (.iload_n 2, 1) := by decide +kernel
theorem dX12_judge_47 : decode cX12_judge 47 = .ok (.bipush 6, 2) := by decide +kernel
theorem dX12_judge_49 : decode cX12_judge 49 = .ok (.if_icmp .ge 16, 3) := by decide +kernel
theorem dX12_judge_52 : decode cX12_judge 52 = .ok (.aload_n 0, 1) := by decide +kernel
theorem dX12_judge_53 : decode cX12_judge 53 = .ok (.getfield 89, 3) := by decide +kernel
theorem dX12_judge_56 : decode cX12_judge 56 = .ok (.iload_n 2, 1) := by decide +kernel
theorem dX12_judge_57 : decode cX12_judge 57 = .ok (.iconst 0, 1) := by decide +kernel
theorem dX12_judge_58 : decode cX12_judge 58 = .ok (.iastore, 1) := by decide +kernel
theorem dX12_judge_59 : decode cX12_judge 59 = .ok (.iinc 2 1, 3) := by decide +kernel
theorem dX12_judge_62 : decode cX12_judge 62 = .ok (.goto (-16), 3) := by decide +kernel
theorem dX12_judge_65 : decode cX12_judge 65 = .ok (.iconst (-1), 1) := by decide +kernel
theorem dX12_judge_66 : decode cX12_judge 66 = .ok (.istore_n 2, 1) := by decide +kernel
theorem dX12_judge_67 : decode cX12_judge 67 = .ok (.iconst 0, 1) := by decide +kernel
theorem dX12_judge_68 : decode cX12_judge 68 = .ok (.istore_n 3, 1) := by decide +kernel
theorem dX12_judge_69 : decode cX12_judge 69 = .ok (.iload_n 3, 1) := by decide +kernel
theorem dX12_judge_70 : decode cX12_judge 70 = .ok (.aload_n 0, 1) := by decide +kernel
theorem dX12_judge_71 : decode cX12_judge 71 = .ok (.getfield 92, 3) := by decide +kernel
theorem dX12_judge_74 : decode cX12_judge 74 = .ok (.sipush 977, 3) := by decide +kernel
theorem dX12_judge_77 : decode cX12_judge 77 = .ok (.iaload, 1) := by decide +kernel
theorem dX12_judge_78 : decode cX12_judge 78 = .ok (.if_icmp .ge 68, 3) := by decide +kernel
theorem dX12_judge_81 : decode cX12_judge 81 = .ok (.iload_n 2, 1) := by decide +kernel
theorem dX12_judge_82 : decode cX12_judge 82 = .ok (.ifCond .ge 64, 3) := by decide +kernel
theorem dX12_judge_85 : decode cX12_judge 85 = .ok (.sipush 978, 3) := by decide +kernel
theorem dX12_judge_88 : decode cX12_judge 88 = .ok (.iconst 3, 1) := by decide +kernel
theorem dX12_judge_89 : decode cX12_judge 89 = .ok (.iload_n 3, 1) := by decide +kernel
theorem dX12_judge_90 : decode cX12_judge 90 = .ok (.imul, 1) := by decide +kernel
theorem dX12_judge_91 : decode cX12_judge 91 = .ok (.iadd, 1) := by decide +kernel
theorem dX12_judge_92 : decode cX12_judge 92 = .ok (.istore 4, 2) := by decide +kernel
theorem dX12_judge_94 : decode cX12_judge 94 = .ok (.aload_n 0, 1) := by decide +kernel
theorem dX12_judge_95 : decode cX12_judge 95 = .ok (.getfield 89, 3) := by decide +kernel
theorem dX12_judge_98 : decode cX12_judge 98 = .ok (.iconst 0, 1) := by decide +kernel
theorem dX12_judge_99 : decode cX12_judge 99 = .ok (.aload_n 0, 1) := by decide +kernel
theorem dX12_judge_100 : decode cX12_judge 100 = .ok (.aload_n 0, 1) := by decide +kernel
theorem dX12_judge_101 : decode cX12_judge 101 = .ok (.getfield 92, 3) := by decide +kernel
theorem dX12_judge_104 : decode cX12_judge 104 = .ok (.iload 4, 2) := by decide +kernel
theorem dX12_judge_106 : decode cX12_judge 106 = .ok (.iaload, 1) := by decide +kernel
theorem dX12_judge_107 : decode cX12_judge 107 = .ok (.aload_n 0, 1) := by decide +kernel
theorem dX12_judge_108 : decode cX12_judge 108 = .ok (.getfield 92, 3) := by decide +kernel
theorem dX12_judge_111 : decode cX12_judge 111 = .ok (.iload 4, 2) := by decide +kernel
theorem dX12_judge_113 : decode cX12_judge 113 = .ok (.iconst 1, 1) := by decide +kernel
theorem dX12_judge_114 : decode cX12_judge 114 = .ok (.iadd, 1) := by decide +kernel
theorem dX12_judge_115 : decode cX12_judge 115 = .ok (.iaload, 1) := by decide +kernel
theorem dX12_judge_116 : decode cX12_judge 116 = .ok (.aload_n 0, 1) := by decide +kernel
theorem dX12_judge_117 : decode cX12_judge 117 = .ok (.getfield 92, 3) := by decide +kernel
theorem dX12_judge_120 : decode cX12_judge 120 = .ok (.iload 4, 2) := by decide +kernel
theorem dX12_judge_122 : decode cX12_judge 122 = .ok (.iconst 2, 1) := by decide +kernel
theorem dX12_judge_123 : decode cX12_judge 123 = .ok (.iadd, 1) := by decide +kernel
theorem dX12_judge_124 : decode cX12_judge 124 = .ok (.iaload, 1) := by decide +kernel
theorem dX12_judge_125 : decode cX12_judge 125 = .ok (.invokevirtual 391, 3) := by decide +kernel
theorem dX12_judge_128 : decode cX12_judge 128 = .ok (.iastore, 1) := by decide +kernel
theorem dX12_judge_129 : decode cX12_judge 129 = .ok (.aload_n 0, 1) := by decide +kernel
theorem dX12_judge_130 : decode cX12_judge 130 = .ok (.getfield 89, 3) := by decide +kernel
theorem dX12_judge_133 : decode cX12_judge 133 = .ok (.iconst 0, 1) := by decide +kernel
theorem dX12_judge_134 : decode cX12_judge 134 = .ok (.iaload, 1) := by decide +kernel
theorem dX12_judge_135 : decode cX12_judge 135 = .ok (.ifCond .le 5, 3) := by decide +kernel
theorem dX12_judge_138 : decode cX12_judge 138 = .ok (.iload_n 3, 1) := by decide +kernel
theorem dX12_judge_139 : decode cX12_judge 139 = .ok (.istore_n 2, 1) := by decide +kernel
theorem dX12_judge_140 : decode cX12_judge 140 = .ok (.iinc 3 1, 3) := by decide +kernel
theorem dX12_judge_143 : decode cX12_judge 143 = .ok (.goto (-74), 3) := by decide +kernel
theorem dX12_judge_146 : decode cX12_judge 146 = .ok (.aload_n 0, 1) := by decide +kernel
theorem dX12_judge_147 : decode cX12_judge 147 = .ok (.getfield 89, 3) := by decide +kernel
theorem dX12_judge_150 : decode cX12_judge 150 = .ok (.iconst 3, 1) := by decide +kernel
theorem dX12_judge_151 : decode cX12_judge 151 = .ok (.aload_n 0, 1) := by decide +kernel
theorem dX12_judge_152 : decode cX12_judge 152 = .ok (.getfield 33, 3) := by decide +kernel
theorem dX12_judge_155 : decode cX12_judge 155 = .ok (.sipush 483, 3) := by decide +kernel
theorem dX12_judge_158 : decode cX12_judge 158 = .ok (.iaload, 1) := by decide +kernel
theorem dX12_judge_159 : decode cX12_judge 159 = .ok (.iastore, 1) := by decide +kernel
theorem dX12_judge_160 : decode cX12_judge 160 = .ok (.aload_n 0, 1) := by decide +kernel
theorem dX12_judge_161 : decode cX12_judge 161 = .ok (.getfield 89, 3) := by decide +kernel
theorem dX12_judge_164 : decode cX12_judge 164 = .ok (.iconst 4, 1) := by decide +kernel
theorem dX12_judge_165 : decode cX12_judge 165 = .ok (.aload_n 0, 1) := by decide +kernel
theorem dX12_judge_166 : decode cX12_judge 166 = .ok (.getfield 33, 3) := by decide +kernel
theorem dX12_judge_169 : decode cX12_judge 169 = .ok (.sipush 484, 3) := by decide +kernel
theorem dX12_judge_172 : decode cX12_judge 172 = .ok (.iaload, 1) := by decide +kernel
theorem dX12_judge_173 : decode cX12_judge 173 = .ok (.iastore, 1) := by decide +kernel
theorem dX12_judge_174 : decode cX12_judge 174 = .ok (.aload_n 0, 1) := by decide +kernel
theorem dX12_judge_175 : decode cX12_judge 175 = .ok (.getfield 89, 3) := by decide +kernel
theorem dX12_judge_178 : decode cX12_judge 178 = .ok (.iconst 5, 1) := by decide +kernel
theorem dX12_judge_179 : decode cX12_judge 179 = .ok (.aload_n 0, 1) := by decide +kernel
theorem dX12_judge_180 : decode cX12_judge 180 = .ok (.getfield 33, 3) := by decide +kernel
theorem dX12_judge_183 : decode cX12_judge 183 = .ok (.sipush 536, 3) := by decide +kernel
theorem dX12_judge_186 : decode cX12_judge 186 = .ok (.iaload, 1) := by decide +kernel
theorem dX12_judge_187 : decode cX12_judge 187 = .ok (.iastore, 1) := by decide +kernel
theorem dX12_judge_188 : decode cX12_judge 188 = .ok (.aload_n 0, 1) := by decide +kernel
theorem dX12_judge_189 : decode cX12_judge 189 = .ok (.iconst 1, 1) := by decide +kernel
theorem dX12_judge_190 : decode cX12_judge 190 = .ok (.putfield 394, 3) := by decide +kernel
theorem dX12_judge_193 : decode cX12_judge 193 = .ok (.iconst 0, 1) := by decide +kernel
theorem dX12_judge_194 : decode cX12_judge 194 = .ok (.istore_n 3, 1) := by decide +kernel
theorem dX12_judge_195 : decode cX12_judge 195 = .ok (.iload_n 3, 1) := by decide +kernel
theorem dX12_judge_196 : decode cX12_judge 196 = .ok (.sipush 1068, 3) := by decide +kernel
theorem dX12_judge_199 : decode cX12_judge 199 = .ok (.if_icmp .ge 25, 3) := by decide +kernel
theorem dX12_judge_202 : decode cX12_judge 202 = .ok (.iload_n 1, 1) := by decide +kernel
theorem dX12_judge_203 : decode cX12_judge 203 = .ok (.ifCond .ne 21, 3) := by decide +kernel
theorem dX12_judge_206 : decode cX12_judge 206 = .ok (.aload_n 0, 1) := by decide +kernel
theorem dX12_judge_207 : decode cX12_judge 207 = .ok (.getfield 33, 3) := by decide +kernel
theorem dX12_judge_210 : decode cX12_judge 210 = .ok (.iload_n 3, 1) := by decide +kernel
theorem dX12_judge_211 : decode cX12_judge 211 = .ok (.aload_n 0, 1) := by decide +kernel
theorem dX12_judge_212 : decode cX12_judge 212 = .ok (.getfield 92, 3) := by decide +kernel
theorem dX12_judge_215 : decode cX12_judge 215 = .ok (.iload_n 3, 1) := by decide +kernel
theorem dX12_judge_216 : decode cX12_judge 216 = .ok (.iaload, 1) := by decide +kernel
theorem dX12_judge_217 : decode cX12_judge 217 = .ok (.iastore, 1) := by decide +kernel
theorem dX12_judge_218 : decode cX12_judge 218 = .ok (.iinc 3 1, 3) := by decide +kernel
theorem dX12_judge_221 : decode cX12_judge 221 = .ok (.goto (-26), 3) := by decide +kernel
theorem dX12_judge_224 : decode cX12_judge 224 = .ok (.iload_n 2, 1) := by decide +kernel
theorem dX12_judge_225 : decode cX12_judge 225 = .ok (.ireturn, 1) := by decide +kernel
theorem dX12_judged_0 : decode cX12_judged 0 = .ok (.aload_n 0, 1) := by decide +kernel
theorem dX12_judged_1 : decode cX12_judged 1 = .ok (.iconst 0, 1) := by decide +kernel
theorem dX12_judged_2 : decode cX12_judged 2 = .ok (.putfield 1, 3) := by decide +kernel
theorem dX12_judged_5 : decode cX12_judged 5 = .ok (.aload_n 0, 1) := by decide +kernel
theorem dX12_judged_6 : decode cX12_judged 6 = .ok (.getfield 394, 3) := by decide +kernel
theorem dX12_judged_9 : decode cX12_judged 9 = .ok (.ifCond .eq 21, 3) := by decide +kernel
theorem dX12_judged_12 : decode cX12_judged 12 = .ok (.iload_n 1, 1) := by decide +kernel
theorem dX12_judged_13 : decode cX12_judged 13 = .ok (.iconst 0, 1) := by decide +kernel
theorem dX12_judged_14 : decode cX12_judged 14 = .ok (.iconst 5, 1) := by decide +kernel
theorem dX12_judged_15 : decode cX12_judged 15 = .ok (.invokestatic 182, 3) := by decide +kernel
theorem dX12_judged_18 : decode cX12_judged 18 = .ok (.ifCond .eq 12, 3) := by decide +kernel
theorem dX12_judged_21 : decode cX12_judged 21 = .ok (.aload_n 0, 1) := by decide +kernel
theorem dX12_judged_22 : decode cX12_judged 22 = .ok (.getfield 89, 3) := by decide +kernel
theorem dX12_judged_25 : decode cX12_judged 25 = .ok (.iload_n 1, 1) := by decide +kernel
theorem dX12_judged_26 : decode cX12_judged 26 = .ok (.iaload, 1) := by decide +kernel
theorem dX12_judged_27 : decode cX12_judged 27 = .ok (.goto 4, 3) := by decide +kernel
theorem dX12_judged_30 : decode cX12_judged 30 = .ok (.iconst (-1), 1) := by decide +kernel
theorem dX12_judged_31 : decode cX12_judged 31 = .ok (.ireturn, 1) := by decide +kernel
theorem dX12_draw_0 : decode cX12_draw 0 = .ok (.aload_n 0, 1) := by decide +kernel
theorem dX12_draw_1 : decode cX12_draw 1 = .ok (.aload_n 0, 1) := by decide +kernel
theorem dX12_draw_2 : decode cX12_draw 2 = .ok (.getfield 398, 3) := by decide +kernel
theorem dX12_draw_5 : decode cX12_draw 5 = .ok (.ldc_w 401, 3) := by decide +kernel
theorem dX12_draw_8 : decode cX12_draw 8 = .ok (.imul, 1) := by decide +kernel
theorem dX12_draw_9 : decode cX12_draw 9 = .ok (.sipush 12345, 3) := by decide +kernel
theorem dX12_draw_12 : decode cX12_draw 12 = .ok (.iadd, 1) := by decide +kernel
theorem dX12_draw_13 : decode cX12_draw 13 = .ok (.putfield 398, 3) := by decide +kernel
theorem dX12_draw_16 : decode cX12_draw 16 = .ok (.aload_n 0, 1) := by decide +kernel
theorem dX12_draw_17 : decode cX12_draw 17 = .ok (.getfield 398, 3) := by decide +kernel
theorem dX12_draw_20 : decode cX12_draw 20 = .ok (.bipush 8, 2) := by decide +kernel
theorem dX12_draw_22 : decode cX12_draw 22 = .ok (.iushr, 1) := by decide +kernel
theorem dX12_draw_23 : decode cX12_draw 23 = .ok (.iload_n 1, 1) := by decide +kernel
theorem dX12_draw_24 : decode cX12_draw 24 = .ok (.irem, 1) := by decide +kernel
theorem dX12_draw_25 : decode cX12_draw 25 = .ok (.ireturn, 1) := by decide +kernel
theorem dX12_drawnStrength_0 : decode cX12_drawnStrength 0 = .ok (.aload_n 0, 1) := by decide +kernel
theorem dX12_drawnStrength_1 : decode cX12_drawnStrength 1 = .ok (.iload_n 1, 1) := by decide +kernel
theorem dX12_drawnStrength_2 : decode cX12_drawnStrength 2 = .ok (.invokevirtual 312, 3) := by decide +kernel
theorem dX12_drawnStrength_5 : decode cX12_drawnStrength 5 = .ok (.aload_n 0, 1) := by decide +kernel
theorem dX12_drawnStrength_6 : decode cX12_drawnStrength 6 = .ok (.aload_n 0, 1) := by decide +kernel
theorem dX12_drawnStrength_7 : decode cX12_drawnStrength 7 = .ok (.iload_n 1, 1) := by decide +kernel
theorem dX12_drawnStrength_8 : decode cX12_drawnStrength 8 = .ok (.invokevirtual 312, 3) := by decide +kernel
theorem dX12_drawnStrength_11 : decode cX12_drawnStrength 11 = .ok (.iconst 4, 1) := by decide +kernel
theorem dX12_drawnStrength_12 : decode cX12_drawnStrength 12 = .ok (.idiv, 1) := by decide +kernel
theorem dX12_drawnStrength_13 : decode cX12_drawnStrength 13 = .ok (.iconst 1, 1) := by decide +kernel
theorem dX12_drawnStrength_14 : decode cX12_drawnStrength 14 = .ok (.iadd, 1) := by decide +kernel
theorem dX12_drawnStrength_15 : decode cX12_drawnStrength 15 = .ok (.invokevirtual 402, 3) := by decide +kernel
theorem dX12_drawnStrength_18 : decode cX12_drawnStrength 18 = .ok (.isub, 1) := by decide +kernel
theorem dX12_drawnStrength_19 : decode cX12_drawnStrength 19 = .ok (.ireturn, 1) := by decide +kernel
theorem dX12_betOf_0 : decode cX12_betOf 0 = .ok (.aload_n 0, 1) := by decide +kernel
theorem dX12_betOf_1 : decode cX12_betOf 1 = .ok (.iload_n 1, 1) := by decide +kernel
theorem dX12_betOf_2 : decode cX12_betOf 2 = .ok (.putfield 398, 3) := by decide +kernel
theorem dX12_betOf_5 : decode cX12_betOf 5 = .ok (.aload_n 0, 1) := by decide +kernel
theorem dX12_betOf_6 : decode cX12_betOf 6 = .ok (.iconst 0, 1) := by decide +kernel
theorem dX12_betOf_7 : decode cX12_betOf 7 = .ok (.putfield 270, 3) := by decide +kernel
theorem dX12_betOf_10 : decode cX12_betOf 10 = .ok (.iconst 0, 1) := by decide +kernel
theorem dX12_betOf_11 : decode cX12_betOf 11 = .ok (.istore_n 2, 1) := by decide +kernel
theorem dX12_betOf_12 : decode cX12_betOf 12 = .ok (.iload_n 2, 1) := by decide +kernel
theorem dX12_betOf_13 : decode cX12_betOf 13 = .ok (.aload_n 0, 1) := by decide +kernel
theorem dX12_betOf_14 : decode cX12_betOf 14 = .ok (.getfield 33, 3) := by decide +kernel
theorem dX12_betOf_17 : decode cX12_betOf 17 = .ok (.bipush 10, 2) := by decide +kernel
theorem dX12_betOf_19 : decode cX12_betOf 19 = .ok (.iaload, 1) := by decide +kernel
theorem dX12_betOf_20 : decode cX12_betOf 20 = .ok (.if_icmp .ge 38, 3) := by decide +kernel
theorem dX12_betOf_23 : decode cX12_betOf 23 = .ok (.aload_n 0, 1) := by decide +kernel
theorem dX12_betOf_24 : decode cX12_betOf 24 = .ok (.iload_n 2, 1) := by decide +kernel
theorem dX12_betOf_25 : decode cX12_betOf 25 = .ok (.aload_n 0, 1) := by decide +kernel
theorem dX12_betOf_26 : decode cX12_betOf 26 = .ok (.getfield 33, 3) := by decide +kernel
theorem dX12_betOf_29 : decode cX12_betOf 29 = .ok (.sipush 475, 3) := by decide +kernel
theorem dX12_betOf_32 : decode cX12_betOf 32 = .ok (.iload_n 2, 1) := by decide +kernel
theorem dX12_betOf_33 : decode cX12_betOf 33 = .ok (.iadd, 1) := by decide +kernel
theorem dX12_betOf_34 : decode cX12_betOf 34 = .ok (.iaload, 1) := by decide +kernel
theorem dX12_betOf_35 : decode cX12_betOf 35 = .ok (.aload_n 0, 1) := by decide +kernel
theorem dX12_betOf_36 : decode cX12_betOf 36 = .ok (.aload_n 0, 1) := by decide +kernel
theorem dX12_betOf_37 : decode cX12_betOf 37 = .ok (.getfield 33, 3) := by decide +kernel
theorem dX12_betOf_40 : decode cX12_betOf 40 = .ok (.sipush 475, 3) := by decide +kernel
theorem dX12_betOf_43 : decode cX12_betOf 43 = .ok (.iload_n 2, 1) := by decide +kernel
theorem dX12_betOf_44 : decode cX12_betOf 44 = .ok (.iadd, 1) := by decide +kernel
theorem dX12_betOf_45 : decode cX12_betOf 45 = .ok (.iaload, 1) := by decide +kernel
theorem dX12_betOf_46 : decode cX12_betOf 46 = .ok (.invokevirtual 405, 3) := by decide +kernel
theorem dX12_betOf_49 : decode cX12_betOf 49 = .ok (.invokevirtual 319, 3) := by decide +kernel
theorem dX12_betOf_52 : decode cX12_betOf 52 = .ok (.iinc 2 1, 3) := by decide +kernel
theorem dX12_betOf_55 : decode cX12_betOf 55 = .ok (.goto (-43), 3) := by decide +kernel
theorem dX12_betOf_58 : decode cX12_betOf 58 = .ok (.iconst 1, 1) := by decide +kernel
theorem dX12_betOf_59 : decode cX12_betOf 59 = .ok (.istore_n 2, 1) := by decide +kernel
theorem dX12_betOf_60 : decode cX12_betOf 60 = .ok (.iload_n 2, 1) := by decide +kernel
theorem dX12_betOf_61 : decode cX12_betOf 61 = .ok (.aload_n 0, 1) := by decide +kernel
theorem dX12_betOf_62 : decode cX12_betOf 62 = .ok (.getfield 33, 3) := by decide +kernel
theorem dX12_betOf_65 : decode cX12_betOf 65 = .ok (.iconst 0, 1) := by decide +kernel
theorem dX12_betOf_66 : decode cX12_betOf 66 = .ok (.iaload, 1) := by decide +kernel
theorem dX12_betOf_67 : decode cX12_betOf 67 = .ok (.if_icmp .ge 60, 3) := by decide +kernel
theorem dX12_betOf_70 : decode cX12_betOf 70 = .ok (.aload_n 0, 1) := by decide +kernel
theorem dX12_betOf_71 : decode cX12_betOf 71 = .ok (.iload_n 2, 1) := by decide +kernel
theorem dX12_betOf_72 : decode cX12_betOf 72 = .ok (.invokevirtual 329, 3) := by decide +kernel
theorem dX12_betOf_75 : decode cX12_betOf 75 = .ok (.ifCond .eq 5, 3) := by decide +kernel
theorem dX12_betOf_78 : decode cX12_betOf 78 = .ok (.iload_n 2, 1) := by decide +kernel
theorem dX12_betOf_79 : decode cX12_betOf 79 = .ok (.ireturn, 1) := by decide +kernel
theorem dX12_betOf_80 : decode cX12_betOf 80 = .ok (.aload_n 0, 1) := by decide +kernel
theorem dX12_betOf_81 : decode cX12_betOf 81 = .ok (.iload_n 2, 1) := by decide +kernel
theorem dX12_betOf_82 : decode cX12_betOf 82 = .ok (.invokevirtual 332, 3) := by decide +kernel
theorem dX12_betOf_85 : decode cX12_betOf 85 = .ok (.istore_n 3, 1) := by decide +kernel
theorem dX12_betOf_86 : decode cX12_betOf 86 = .ok (.iload_n 3, 1) := by decide +kernel
theorem dX12_betOf_87 : decode cX12_betOf 87 = .ok (.ifCond .lt 34, 3) := by decide +kernel
theorem dX12_betOf_90 : decode cX12_betOf 90 = .ok (.aload_n 0, 1) := by decide +kernel
theorem dX12_betOf_91 : decode cX12_betOf 91 = .ok (.getfield 270, 3) := by decide +kernel
theorem dX12_betOf_94 : decode cX12_betOf 94 = .ok (.bipush 20, 2) := by decide +kernel
theorem dX12_betOf_96 : decode cX12_betOf 96 = .ok (.if_icmp .ge 25, 3) := by decide +kernel
theorem dX12_betOf_99 : decode cX12_betOf 99 = .ok (.aload_n 0, 1) := by decide +kernel
theorem dX12_betOf_100 : decode cX12_betOf 100 = .ok (.aload_n 0, 1) := by decide +kernel
theorem dX12_betOf_101 : decode cX12_betOf 101 = .ok (.getfield 270, 3) := by decide +kernel
theorem dX12_betOf_104 : decode cX12_betOf 104 = .ok (.aload_n 0, 1) := by decide +kernel
theorem dX12_betOf_105 : decode cX12_betOf 105 = .ok (.iload_n 3, 1) := by decide +kernel
theorem dX12_betOf_106 : decode cX12_betOf 106 = .ok (.invokevirtual 264, 3) := by decide +kernel
theorem dX12_betOf_109 : decode cX12_betOf 109 = .ok (.aload_n 0, 1) := by decide +kernel
theorem dX12_betOf_110 : decode cX12_betOf 110 = .ok (.aload_n 0, 1) := by decide +kernel
theorem dX12_betOf_111 : decode cX12_betOf 111 = .ok (.iload_n 3, 1) := by decide +kernel
theorem dX12_betOf_112 : decode cX12_betOf 112 = .ok (.invokevirtual 264, 3) := by decide +kernel
theorem dX12_betOf_115 : decode cX12_betOf 115 = .ok (.invokevirtual 405, 3) := by decide +kernel
theorem dX12_betOf_118 : decode cX12_betOf 118 = .ok (.invokevirtual 319, 3) := by decide +kernel
theorem dX12_betOf_121 : decode cX12_betOf 121 = .ok (.iinc 2 1, 3) := by decide +kernel
theorem dX12_betOf_124 : decode cX12_betOf 124 = .ok (.goto (-64), 3) := by decide +kernel
theorem dX12_betOf_127 : decode cX12_betOf 127 = .ok (.iconst (-1), 1) := by decide +kernel
theorem dX12_betOf_128 : decode cX12_betOf 128 = .ok (.ireturn, 1) := by decide +kernel
theorem dX12_bet_0 : decode cX12_bet 0 = .ok (.aload_n 0, 1) := by decide +kernel
theorem dX12_bet_1 : decode cX12_bet 1 = .ok (.iconst 0, 1) := by decide +kernel
theorem dX12_bet_2 : decode cX12_bet 2 = .ok (.putfield 1, 3) := by decide +kernel
theorem dX12_bet_5 : decode cX12_bet 5 = .ok (.aload_n 0, 1) := by decide +kernel
theorem dX12_bet_6 : decode cX12_bet 6 = .ok (.iload_n 1, 1) := by decide +kernel
theorem dX12_bet_7 : decode cX12_bet 7 = .ok (.invokevirtual 408, 3) := by decide +kernel
theorem dX12_bet_10 : decode cX12_bet 10 = .ok (.ireturn, 1) := by decide +kernel
theorem dX12_bets_0 : decode cX12_bets 0 = .ok (.aload_n 0, 1) := by decide +kernel
theorem dX12_bets_1 : decode cX12_bets 1 = .ok (.iconst 0, 1) := by decide +kernel
theorem dX12_bets_2 : decode cX12_bets 2 = .ok (.putfield 1, 3) := by decide +kernel
theorem dX12_bets_5 : decode cX12_bets 5 = .ok (.iload_n 1, 1) := by decide +kernel
theorem dX12_bets_6 : decode cX12_bets 6 = .ok (.iconst 1, 1) := by decide +kernel
theorem dX12_bets_7 : decode cX12_bets 7 = .ok (.sipush 200, 3) := by decide +kernel
theorem dX12_bets_10 : decode cX12_bets 10 = .ok (.invokestatic 182, 3) := by decide +kernel
theorem dX12_bets_13 : decode cX12_bets 13 = .ok (.ifCond .eq 11, 3) := by decide +kernel
theorem dX12_bets_16 : decode cX12_bets 16 = .ok (.aload_n 0, 1) := by decide +kernel
theorem dX12_bets_17 : decode cX12_bets 17 = .ok (.iload_n 3, 1) := by decide +kernel
theorem dX12_bets_18 : decode cX12_bets 18 = .ok (.invokevirtual 291, 3) := by decide +kernel
theorem dX12_bets_21 : decode cX12_bets 21 = .ok (.ifCond .ne 5, 3) := by decide +kernel
theorem dX12_bets_24 : decode cX12_bets 24 = .ok (.iconst (-1), 1) := by decide +kernel
theorem dX12_bets_25 : decode cX12_bets 25 = .ok (.ireturn, 1) := by decide +kernel
theorem dX12_bets_26 : decode cX12_bets 26 = .ok (.iconst 0, 1) := by decide +kernel
theorem dX12_bets_27 : decode cX12_bets 27 = .ok (.istore 4, 2) := by decide +kernel
theorem dX12_bets_29 : decode cX12_bets 29 = .ok (.iconst 0, 1) := by decide +kernel
theorem dX12_bets_30 : decode cX12_bets 30 = .ok (.istore 5, 2) := by decide +kernel
theorem dX12_bets_32 : decode cX12_bets 32 = .ok (.iload 5, 2) := by decide +kernel
theorem dX12_bets_34 : decode cX12_bets 34 = .ok (.iload_n 1, 1) := by decide +kernel
theorem dX12_bets_35 : decode cX12_bets 35 = .ok (.if_icmp .ge 40, 3) := by decide +kernel
theorem dX12_bets_38 : decode cX12_bets 38 = .ok (.aload_n 0, 1) := by decide +kernel
theorem dX12_bets_39 : decode cX12_bets 39 = .ok (.iload_n 2, 1) := by decide +kernel
theorem dX12_bets_40 : decode cX12_bets 40 = .ok (.iload 5, 2) := by decide +kernel
theorem dX12_bets_42 : decode cX12_bets 42 = .ok (.iadd, 1) := by decide +kernel
theorem dX12_bets_43 : decode cX12_bets 43 = .ok (.invokevirtual 408, 3) := by decide +kernel
theorem dX12_bets_46 : decode cX12_bets 46 = .ok (.istore 6, 2) := by decide +kernel
theorem dX12_bets_48 : decode cX12_bets 48 = .ok (.iload 4, 2) := by decide +kernel
theorem dX12_bets_50 : decode cX12_bets 50 = .ok (.iload 6, 2) := by decide +kernel
theorem dX12_bets_52 : decode cX12_bets 52 = .ok (.ifCond .lt 13, 3) := by decide +kernel
theorem dX12_bets_55 : decode cX12_bets 55 = .ok (.iload 6, 2) := by decide +kernel
theorem dX12_bets_57 : decode cX12_bets 57 = .ok (.iload_n 3, 1) := by decide +kernel
theorem dX12_bets_58 : decode cX12_bets 58 = .ok (.if_icmp .gt 7, 3) := by decide +kernel
theorem dX12_bets_61 : decode cX12_bets 61 = .ok (.iconst 1, 1) := by decide +kernel
theorem dX12_bets_62 : decode cX12_bets 62 = .ok (.goto 4, 3) := by decide +kernel
theorem dX12_bets_65 : decode cX12_bets 65 = .ok (.iconst 0, 1) := by decide +kernel
theorem dX12_bets_66 : decode cX12_bets 66 = .ok (.iadd, 1) := by decide +kernel
theorem dX12_bets_67 : decode cX12_bets 67 = .ok (.istore 4, 2) := by decide +kernel
theorem dX12_bets_69 : decode cX12_bets 69 = .ok (.iinc 5 1, 3) := by decide +kernel
theorem dX12_bets_72 : decode cX12_bets 72 = .ok (.goto (-40), 3) := by decide +kernel
theorem dX12_bets_75 : decode cX12_bets 75 = .ok (.iload 4, 2) := by decide +kernel
theorem dX12_bets_77 : decode cX12_bets 77 = .ok (.ireturn, 1) := by decide +kernel
theorem dX12_image_0 : decode cX12_image 0 = .ok (.aload_n 0, 1) := by decide +kernel
theorem dX12_image_1 : decode cX12_image 1 = .ok (.iconst 0, 1) := by decide +kernel
theorem dX12_image_2 : decode cX12_image 2 = .ok (.putfield 1, 3) := by decide +kernel
theorem dX12_image_5 : decode cX12_image 5 = .ok (.iload_n 1, 1) := by decide +kernel
theorem dX12_image_6 : decode cX12_image 6 = .ok (.iconst 0, 1) := by decide +kernel
theorem dX12_image_7 : decode cX12_image 7 = .ok (.iconst 1, 1) := by decide +kernel
theorem dX12_image_8 : decode cX12_image 8 = .ok (.invokestatic 182, 3) := by decide +kernel
theorem dX12_image_11 : decode cX12_image 11 = .ok (.ifCond .ne 5, 3) := by decide +kernel
theorem dX12_image_14 : decode cX12_image 14 = .ok (.iconst 0, 1) := by decide +kernel
theorem dX12_image_15 : decode cX12_image 15 = .ok (.ireturn, 1) := by decide +kernel
theorem dX12_image_16 : decode cX12_image 16 = .ok (.iconst 0, 1) := by decide +kernel
theorem dX12_image_17 : decode cX12_image 17 = .ok (.istore_n 2, 1) := by decide +kernel
theorem dX12_image_18 : decode cX12_image 18 = .ok (.iload_n 2, 1) := by decide +kernel
theorem dX12_image_19 : decode cX12_image 19 = .ok (.sipush 1068, 3) := by decide +kernel
theorem dX12_image_22 : decode cX12_image 22 = .ok (.if_icmp .ge 27, 3) := by decide +kernel
theorem dX12_image_25 : decode cX12_image 25 = .ok (.aload_n 0, 1) := by decide +kernel
theorem dX12_image_26 : decode cX12_image 26 = .ok (.getfield 95, 3) := by decide +kernel
theorem dX12_image_29 : decode cX12_image 29 = .ok (.sipush 1068, 3) := by decide +kernel
theorem dX12_image_32 : decode cX12_image 32 = .ok (.iload_n 1, 1) := by decide +kernel
theorem dX12_image_33 : decode cX12_image 33 = .ok (.imul, 1) := by decide +kernel
theorem dX12_image_34 : decode cX12_image 34 = .ok (.iload_n 2, 1) := by decide +kernel
theorem dX12_image_35 : decode cX12_image 35 = .ok (.iadd, 1) := by decide +kernel
theorem dX12_image_36 : decode cX12_image 36 = .ok (.aload_n 0, 1) := by decide +kernel
theorem dX12_image_37 : decode cX12_image 37 = .ok (.getfield 33, 3) := by decide +kernel
theorem dX12_image_40 : decode cX12_image 40 = .ok (.iload_n 2, 1) := by decide +kernel
theorem dX12_image_41 : decode cX12_image 41 = .ok (.iaload, 1) := by decide +kernel
theorem dX12_image_42 : decode cX12_image 42 = .ok (.iastore, 1) := by decide +kernel
theorem dX12_image_43 : decode cX12_image 43 = .ok (.iinc 2 1, 3) := by decide +kernel
theorem dX12_image_46 : decode cX12_image 46 = .ok (.goto (-28), 3) := by decide +kernel
theorem dX12_image_49 : decode cX12_image 49 = .ok (.iconst 0, 1) := by decide +kernel
theorem dX12_image_50 : decode cX12_image 50 = .ok (.istore_n 2, 1) := by decide +kernel
theorem dX12_image_51 : decode cX12_image 51 = .ok (.iload_n 2, 1) := by decide +kernel
theorem dX12_image_52 : decode cX12_image 52 = .ok (.bipush 16, 2) := by decide +kernel
theorem dX12_image_54 : decode cX12_image 54 = .ok (.if_icmp .ge 26, 3) := by decide +kernel
theorem dX12_image_57 : decode cX12_image 57 = .ok (.aload_n 0, 1) := by decide +kernel
theorem dX12_image_58 : decode cX12_image 58 = .ok (.getfield 98, 3) := by decide +kernel
theorem dX12_image_61 : decode cX12_image 61 = .ok (.bipush 16, 2) := by decide +kernel
theorem dX12_image_63 : decode cX12_image 63 = .ok (.iload_n 1, 1) := by decide +kernel
theorem dX12_image_64 : decode cX12_image 64 = .ok (.imul, 1) := by decide +kernel
theorem dX12_image_65 : decode cX12_image 65 = .ok (.iload_n 2, 1) := by decide +kernel
theorem dX12_image_66 : decode cX12_image 66 = .ok (.iadd, 1) := by decide +kernel
theorem dX12_image_67 : decode cX12_image 67 = .ok (.aload_n 0, 1) := by decide +kernel
theorem dX12_image_68 : decode cX12_image 68 = .ok (.getfield 43, 3) := by decide +kernel
theorem dX12_image_71 : decode cX12_image 71 = .ok (.iload_n 2, 1) := by decide +kernel
theorem dX12_image_72 : decode cX12_image 72 = .ok (.laload, 1) := by decide +kernel
theorem dX12_image_73 : decode cX12_image 73 = .ok (.lastore, 1) := by decide +kernel
theorem dX12_image_74 : decode cX12_image 74 = .ok (.iinc 2 1, 3) := by decide +kernel
theorem dX12_image_77 : decode cX12_image 77 = .ok (.goto (-26), 3) := by decide +kernel
theorem dX12_image_80 : decode cX12_image 80 = .ok (.aload_n 0, 1) := by decide +kernel
theorem dX12_image_81 : decode cX12_image 81 = .ok (.getfield 101, 3) := by decide +kernel
theorem dX12_image_84 : decode cX12_image 84 = .ok (.iload_n 1, 1) := by decide +kernel
theorem dX12_image_85 : decode cX12_image 85 = .ok (.iconst 1, 1) := by decide +kernel
theorem dX12_image_86 : decode cX12_image 86 = .ok (.bastore, 1) := by decide +kernel
theorem dX12_image_87 : decode cX12_image 87 = .ok (.iconst 1, 1) := by decide +kernel
theorem dX12_image_88 : decode cX12_image 88 = .ok (.ireturn, 1) := by decide +kernel
theorem dX12_restore_0 : decode cX12_restore 0 = .ok (.aload_n 0, 1) := by decide +kernel
theorem dX12_restore_1 : decode cX12_restore 1 = .ok (.iconst 0, 1) := by decide +kernel
theorem dX12_restore_2 : decode cX12_restore 2 = .ok (.putfield 1, 3) := by decide +kernel
theorem dX12_restore_5 : decode cX12_restore 5 = .ok (.iload_n 1, 1) := by decide +kernel
theorem dX12_restore_6 : decode cX12_restore 6 = .ok (.iconst 0, 1) := by decide +kernel
theorem dX12_restore_7 : decode cX12_restore 7 = .ok (.iconst 1, 1) := by decide +kernel
theorem dX12_restore_8 : decode cX12_restore 8 = .ok (.invokestatic 182, 3) := by decide +kernel
theorem dX12_restore_11 : decode cX12_restore 11 = .ok (.ifCond .eq 12, 3) := by decide +kernel
theorem dX12_restore_14 : decode cX12_restore 14 = .ok (.aload_n 0, 1) := by decide +kernel
theorem dX12_restore_15 : decode cX12_restore 15 = .ok (.getfield 101, 3) := by decide +kernel
theorem dX12_restore_18 : decode cX12_restore 18 = .ok (.iload_n 1, 1) := by decide +kernel
theorem dX12_restore_19 : decode cX12_restore 19 = .ok (.baload, 1) := by decide +kernel
theorem dX12_restore_20 : decode cX12_restore 20 = .ok (.ifCond .ne 5, 3) := by decide +kernel
theorem dX12_restore_23 : decode cX12_restore 23 = .ok (.iconst 0, 1) := by decide +kernel
theorem dX12_restore_24 : decode cX12_restore 24 = .ok (.ireturn, 1) := by decide +kernel
theorem dX12_restore_25 : decode cX12_restore 25 = .ok (.iconst 0, 1) := by decide +kernel
theorem dX12_restore_26 : decode cX12_restore 26 = .ok (.istore_n 2, 1) := by decide +kernel
theorem dX12_restore_27 : decode cX12_restore 27 = .ok (.iload_n 2, 1) := by decide +kernel
theorem dX12_restore_28 : decode cX12_restore 28 = .ok (.sipush 1068, 3) := by decide +kernel
theorem dX12_restore_31 : decode cX12_restore 31 = .ok (.if_icmp .ge 27, 3) := by decide +kernel
theorem dX12_restore_34 : decode cX12_restore 34 = .ok (.aload_n 0, 1) := by decide +kernel
theorem dX12_restore_35 : decode cX12_restore 35 = .ok (.getfield 33, 3) := by decide +kernel
theorem dX12_restore_38 : decode cX12_restore 38 = .ok (.iload_n 2, 1) := by decide +kernel
theorem dX12_restore_39 : decode cX12_restore 39 = .ok (.aload_n 0, 1) := by decide +kernel
theorem dX12_restore_40 : decode cX12_restore 40 = .ok (.getfield 95, 3) := by decide +kernel
theorem dX12_restore_43 : decode cX12_restore 43 = .ok (.sipush 1068, 3) := by decide +kernel
theorem dX12_restore_46 : decode cX12_restore 46 = .ok (.iload_n 1, 1) := by decide +kernel
theorem dX12_restore_47 : decode cX12_restore 47 = .ok (.imul, 1) := by decide +kernel
theorem dX12_restore_48 : decode cX12_restore 48 = .ok (.iload_n 2, 1) := by decide +kernel
theorem dX12_restore_49 : decode cX12_restore 49 = .ok (.iadd, 1) := by decide +kernel
theorem dX12_restore_50 : decode cX12_restore 50 = .ok (.iaload, 1) := by decide +kernel
theorem dX12_restore_51 : decode cX12_restore 51 = .ok (.iastore, 1) := by decide +kernel
theorem dX12_restore_52 : decode cX12_restore 52 = .ok (.iinc 2 1, 3) := by decide +kernel
theorem dX12_restore_55 : decode cX12_restore 55 = .ok (.goto (-28), 3) := by decide +kernel
theorem dX12_restore_58 : decode cX12_restore 58 = .ok (.iconst 0, 1) := by decide +kernel
theorem dX12_restore_59 : decode cX12_restore 59 = .ok (.istore_n 2, 1) := by decide +kernel
theorem dX12_restore_60 : decode cX12_restore 60 = .ok (.iload_n 2, 1) := by decide +kernel
theorem dX12_restore_61 : decode cX12_restore 61 = .ok (.bipush 16, 2) := by decide +kernel
theorem dX12_restore_63 : decode cX12_restore 63 = .ok (.if_icmp .ge 26, 3) := by decide +kernel
theorem dX12_restore_66 : decode cX12_restore 66 = .ok (.aload_n 0, 1) := by decide +kernel
theorem dX12_restore_67 : decode cX12_restore 67 = .ok (.getfield 43, 3) := by decide +kernel
theorem dX12_restore_70 : decode cX12_restore 70 = .ok (.iload_n 2, 1) := by decide +kernel
theorem dX12_restore_71 : decode cX12_restore 71 = .ok (.aload_n 0, 1) := by decide +kernel
theorem dX12_restore_72 : decode cX12_restore 72 = .ok (.getfield 98, 3) := by decide +kernel
theorem dX12_restore_75 : decode cX12_restore 75 = .ok (.bipush 16, 2) := by decide +kernel
theorem dX12_restore_77 : decode cX12_restore 77 = .ok (.iload_n 1, 1) := by decide +kernel
theorem dX12_restore_78 : decode cX12_restore 78 = .ok (.imul, 1) := by decide +kernel
theorem dX12_restore_79 : decode cX12_restore 79 = .ok (.iload_n 2, 1) := by decide +kernel
theorem dX12_restore_80 : decode cX12_restore 80 = .ok (.iadd, 1) := by decide +kernel
theorem dX12_restore_81 : decode cX12_restore 81 = .ok (.laload, 1) := by decide +kernel
theorem dX12_restore_82 : decode cX12_restore 82 = .ok (.lastore, 1) := by decide +kernel
theorem dX12_restore_83 : decode cX12_restore 83 = .ok (.iinc 2 1, 3) := by decide +kernel
theorem dX12_restore_86 : decode cX12_restore 86 = .ok (.goto (-26), 3) := by decide +kernel
theorem dX12_restore_89 : decode cX12_restore 89 = .ok (.iconst 1, 1) := by decide +kernel
theorem dX12_restore_90 : decode cX12_restore 90 = .ok (.ireturn, 1) := by decide +kernel
theorem dX12_count_0 : decode cX12_count 0 = .ok (.aload_n 0, 1) := by decide +kernel
theorem dX12_count_1 : decode cX12_count 1 = .ok (.iconst 0, 1) := by decide +kernel
theorem dX12_count_2 : decode cX12_count 2 = .ok (.putfield 1, 3) := by decide +kernel
theorem dX12_count_5 : decode cX12_count 5 = .ok (.iload_n 1, 1) := by decide +kernel
theorem dX12_count_6 : decode cX12_count 6 = .ok (.tableswitch 139 0 10 #[58, 65, 72, 79, 86, 93, 101, 109, 117, 125, 134], 58) := by decide +kernel
theorem dX12_count_64 : decode cX12_count 64 = .ok (.aload_n 0, 1) := by decide +kernel
theorem dX12_count_65 : decode cX12_count 65 = .ok (.getfield 33, 3) := by decide +kernel
theorem dX12_count_68 : decode cX12_count 68 = .ok (.iconst 0, 1) := by decide +kernel
theorem dX12_count_69 : decode cX12_count 69 = .ok (.iaload, 1) := by decide +kernel
theorem dX12_count_70 : decode cX12_count 70 = .ok (.ireturn, 1) := by decide +kernel
theorem dX12_count_71 : decode cX12_count 71 = .ok (.aload_n 0, 1) := by decide +kernel
theorem dX12_count_72 : decode cX12_count 72 = .ok (.getfield 33, 3) := by decide +kernel
theorem dX12_count_75 : decode cX12_count 75 = .ok (.iconst 1, 1) := by decide +kernel
theorem dX12_count_76 : decode cX12_count 76 = .ok (.iaload, 1) := by decide +kernel
theorem dX12_count_77 : decode cX12_count 77 = .ok (.ireturn, 1) := by decide +kernel
theorem dX12_count_78 : decode cX12_count 78 = .ok (.aload_n 0, 1) := by decide +kernel
theorem dX12_count_79 : decode cX12_count 79 = .ok (.getfield 33, 3) := by decide +kernel
theorem dX12_count_82 : decode cX12_count 82 = .ok (.iconst 2, 1) := by decide +kernel
theorem dX12_count_83 : decode cX12_count 83 = .ok (.iaload, 1) := by decide +kernel
theorem dX12_count_84 : decode cX12_count 84 = .ok (.ireturn, 1) := by decide +kernel
theorem dX12_count_85 : decode cX12_count 85 = .ok (.aload_n 0, 1) := by decide +kernel
theorem dX12_count_86 : decode cX12_count 86 = .ok (.getfield 33, 3) := by decide +kernel
theorem dX12_count_89 : decode cX12_count 89 = .ok (.iconst 3, 1) := by decide +kernel
theorem dX12_count_90 : decode cX12_count 90 = .ok (.iaload, 1) := by decide +kernel
theorem dX12_count_91 : decode cX12_count 91 = .ok (.ireturn, 1) := by decide +kernel
theorem dX12_count_92 : decode cX12_count 92 = .ok (.aload_n 0, 1) := by decide +kernel
theorem dX12_count_93 : decode cX12_count 93 = .ok (.getfield 33, 3) := by decide +kernel
theorem dX12_count_96 : decode cX12_count 96 = .ok (.iconst 4, 1) := by decide +kernel
theorem dX12_count_97 : decode cX12_count 97 = .ok (.iaload, 1) := by decide +kernel
theorem dX12_count_98 : decode cX12_count 98 = .ok (.ireturn, 1) := by decide +kernel
theorem dX12_count_99 : decode cX12_count 99 = .ok (.aload_n 0, 1) := by decide +kernel
theorem dX12_count_100 : decode cX12_count 100 = .ok (.getfield 33, 3) := by decide +kernel
theorem dX12_count_103 : decode cX12_count 103 = .ok (.bipush 6, 2) := by decide +kernel
theorem dX12_count_105 : decode cX12_count 105 = .ok (.iaload, 1) := by decide +kernel
theorem dX12_count_106 : decode cX12_count 106 = .ok (.ireturn, 1) := by decide +kernel
theorem dX12_count_107 : decode cX12_count 107 = .ok (.aload_n 0, 1) := by decide +kernel
theorem dX12_count_108 : decode cX12_count 108 = .ok (.getfield 33, 3) := by decide +kernel
theorem dX12_count_111 : decode cX12_count 111 = .ok (.bipush 7, 2) := by decide +kernel
theorem dX12_count_113 : decode cX12_count 113 = .ok (.iaload, 1) := by decide +kernel
theorem dX12_count_114 : decode cX12_count 114 = .ok (.ireturn, 1) := by decide +kernel
theorem dX12_count_115 : decode cX12_count 115 = .ok (.aload_n 0, 1) := by decide +kernel
theorem dX12_count_116 : decode cX12_count 116 = .ok (.getfield 33, 3) := by decide +kernel
theorem dX12_count_119 : decode cX12_count 119 = .ok (.bipush 8, 2) := by decide +kernel
theorem dX12_count_121 : decode cX12_count 121 = .ok (.iaload, 1) := by decide +kernel
theorem dX12_count_122 : decode cX12_count 122 = .ok (.ireturn, 1) := by decide +kernel
theorem dX12_count_123 : decode cX12_count 123 = .ok (.aload_n 0, 1) := by decide +kernel
theorem dX12_count_124 : decode cX12_count 124 = .ok (.getfield 33, 3) := by decide +kernel
theorem dX12_count_127 : decode cX12_count 127 = .ok (.bipush 9, 2) := by decide +kernel
theorem dX12_count_129 : decode cX12_count 129 = .ok (.iaload, 1) := by decide +kernel
theorem dX12_count_130 : decode cX12_count 130 = .ok (.ireturn, 1) := by decide +kernel
theorem dX12_count_131 : decode cX12_count 131 = .ok (.aload_n 0, 1) := by decide +kernel
theorem dX12_count_132 : decode cX12_count 132 = .ok (.getfield 33, 3) := by decide +kernel
theorem dX12_count_135 : decode cX12_count 135 = .ok (.sipush 977, 3) := by decide +kernel
theorem dX12_count_138 : decode cX12_count 138 = .ok (.iaload, 1) := by decide +kernel
theorem dX12_count_139 : decode cX12_count 139 = .ok (.ireturn, 1) := by decide +kernel
theorem dX12_count_140 : decode cX12_count 140 = .ok (.aload_n 0, 1) := by decide +kernel
theorem dX12_count_141 : decode cX12_count 141 = .ok (.getfield 7, 3) := by decide +kernel
theorem dX12_count_144 : decode cX12_count 144 = .ok (.ireturn, 1) := by decide +kernel
theorem dX12_count_145 : decode cX12_count 145 = .ok (.iconst (-1), 1) := by decide +kernel
theorem dX12_count_146 : decode cX12_count 146 = .ok (.ireturn, 1) := by decide +kernel
theorem dL_grade_0 : decode cL_grade 0 = .ok (.aload_n 2, 1) := by decide +kernel
theorem dL_grade_1 : decode cL_grade 1 = .ok (.iconst 0, 1) := by decide +kernel
theorem dL_grade_2 : decode cL_grade 2 = .ok (.aload_n 0, 1) := by decide +kernel
theorem dL_grade_3 : decode cL_grade 3 = .ok (.iload_n 1, 1) := by decide +kernel
theorem dL_grade_4 : decode cL_grade 4 = .ok (.invokevirtual 7, 3) := by decide +kernel
theorem dL_grade_7 : decode cL_grade 7 = .ok (.i2l, 1) := by decide +kernel
theorem dL_grade_8 : decode cL_grade 8 = .ok (.lastore, 1) := by decide +kernel
theorem dL_grade_9 : decode cL_grade 9 = .ok (.goto 6, 3) := by decide +kernel
theorem dL_grade_12 : decode cL_grade 12 = .ok (.astore_n 3, 1) := by decide +kernel
theorem dL_grade_13 : decode cL_grade 13 = .ok (.iconst 1, 1) := by decide +kernel
theorem dL_grade_14 : decode cL_grade 14 = .ok (.ireturn, 1) := by decide +kernel
theorem dL_grade_15 : decode cL_grade 15 = .ok (.iconst 0, 1) := by decide +kernel
theorem dL_grade_16 : decode cL_grade 16 = .ok (.ireturn, 1) := by decide +kernel
theorem dL_halt_0 : decode cL_halt 0 = .ok (.aload_n 3, 1) := by decide +kernel
theorem dL_halt_1 : decode cL_halt 1 = .ok (.iconst 0, 1) := by decide +kernel
theorem dL_halt_2 : decode cL_halt 2 = .ok (.aload_n 0, 1) := by decide +kernel
theorem dL_halt_3 : decode cL_halt 3 = .ok (.iload_n 1, 1) := by decide +kernel
theorem dL_halt_4 : decode cL_halt 4 = .ok (.iload_n 2, 1) := by decide +kernel
theorem dL_halt_5 : decode cL_halt 5 = .ok (.invokevirtual 15, 3) := by decide +kernel
theorem dL_halt_8 : decode cL_halt 8 = .ok (.i2l, 1) := by decide +kernel
theorem dL_halt_9 : decode cL_halt 9 = .ok (.lastore, 1) := by decide +kernel
theorem dL_halt_10 : decode cL_halt 10 = .ok (.goto 7, 3) := by decide +kernel
theorem dL_halt_13 : decode cL_halt 13 = .ok (.astore 4, 2) := by decide +kernel
theorem dL_halt_15 : decode cL_halt 15 = .ok (.iconst 1, 1) := by decide +kernel
theorem dL_halt_16 : decode cL_halt 16 = .ok (.ireturn, 1) := by decide +kernel
theorem dL_halt_17 : decode cL_halt 17 = .ok (.iconst 0, 1) := by decide +kernel
theorem dL_halt_18 : decode cL_halt 18 = .ok (.ireturn, 1) := by decide +kernel
theorem dL_kind_0 : decode cL_kind 0 = .ok (.aload_n 3, 1) := by decide +kernel
theorem dL_kind_1 : decode cL_kind 1 = .ok (.iconst 0, 1) := by decide +kernel
theorem dL_kind_2 : decode cL_kind 2 = .ok (.aload_n 0, 1) := by decide +kernel
theorem dL_kind_3 : decode cL_kind 3 = .ok (.iload_n 1, 1) := by decide +kernel
theorem dL_kind_4 : decode cL_kind 4 = .ok (.iload_n 2, 1) := by decide +kernel
theorem dL_kind_5 : decode cL_kind 5 = .ok (.invokevirtual 19, 3) := by decide +kernel
theorem dL_kind_8 : decode cL_kind 8 = .ok (.i2l, 1) := by decide +kernel
theorem dL_kind_9 : decode cL_kind 9 = .ok (.lastore, 1) := by decide +kernel
theorem dL_kind_10 : decode cL_kind 10 = .ok (.goto 7, 3) := by decide +kernel
theorem dL_kind_13 : decode cL_kind 13 = .ok (.astore 4, 2) := by decide +kernel
theorem dL_kind_15 : decode cL_kind 15 = .ok (.iconst 1, 1) := by decide +kernel
theorem dL_kind_16 : decode cL_kind 16 = .ok (.ireturn, 1) := by decide +kernel
theorem dL_kind_17 : decode cL_kind 17 = .ok (.iconst 0, 1) := by decide +kernel
theorem dL_kind_18 : decode cL_kind 18 = .ok (.ireturn, 1) := by decide +kernel
theorem dL_wagon_0 : decode cL_wagon 0 = .ok (.aload_n 3, 1) := by decide +kernel
theorem dL_wagon_1 : decode cL_wagon 1 = .ok (.iconst 0, 1) := by decide +kernel
theorem dL_wagon_2 : decode cL_wagon 2 = .ok (.aload_n 0, 1) := by decide +kernel
theorem dL_wagon_3 : decode cL_wagon 3 = .ok (.iload_n 1, 1) := by decide +kernel
theorem dL_wagon_4 : decode cL_wagon 4 = .ok (.iload_n 2, 1) := by decide +kernel
theorem dL_wagon_5 : decode cL_wagon 5 = .ok (.invokevirtual 22, 3) := by decide +kernel
theorem dL_wagon_8 : decode cL_wagon 8 = .ok (.i2l, 1) := by decide +kernel
theorem dL_wagon_9 : decode cL_wagon 9 = .ok (.lastore, 1) := by decide +kernel
theorem dL_wagon_10 : decode cL_wagon 10 = .ok (.goto 7, 3) := by decide +kernel
theorem dL_wagon_13 : decode cL_wagon 13 = .ok (.astore 4, 2) := by decide +kernel
theorem dL_wagon_15 : decode cL_wagon 15 = .ok (.iconst 1, 1) := by decide +kernel
theorem dL_wagon_16 : decode cL_wagon 16 = .ok (.ireturn, 1) := by decide +kernel
theorem dL_wagon_17 : decode cL_wagon 17 = .ok (.iconst 0, 1) := by decide +kernel
theorem dL_wagon_18 : decode cL_wagon 18 = .ok (.ireturn, 1) := by decide +kernel
theorem dL_half_0 : decode cL_half 0 = .ok (.aload_n 3, 1) := by decide +kernel
theorem dL_half_1 : decode cL_half 1 = .ok (.iconst 0, 1) := by decide +kernel
theorem dL_half_2 : decode cL_half 2 = .ok (.aload_n 0, 1) := by decide +kernel
theorem dL_half_3 : decode cL_half 3 = .ok (.iload_n 1, 1) := by decide +kernel
theorem dL_half_4 : decode cL_half 4 = .ok (.iload_n 2, 1) := by decide +kernel
theorem dL_half_5 : decode cL_half 5 = .ok (.invokevirtual 25, 3) := by decide +kernel
theorem dL_half_8 : decode cL_half 8 = .ok (.i2l, 1) := by decide +kernel
theorem dL_half_9 : decode cL_half 9 = .ok (.lastore, 1) := by decide +kernel
theorem dL_half_10 : decode cL_half 10 = .ok (.goto 7, 3) := by decide +kernel
theorem dL_half_13 : decode cL_half 13 = .ok (.astore 4, 2) := by decide +kernel
theorem dL_half_15 : decode cL_half 15 = .ok (.iconst 1, 1) := by decide +kernel
theorem dL_half_16 : decode cL_half 16 = .ok (.ireturn, 1) := by decide +kernel
theorem dL_half_17 : decode cL_half 17 = .ok (.iconst 0, 1) := by decide +kernel
theorem dL_half_18 : decode cL_half 18 = .ok (.ireturn, 1) := by decide +kernel
theorem dL_strain_0 : decode cL_strain 0 = .ok (.aload 4, 2) := by decide +kernel
theorem dL_strain_2 : decode cL_strain 2 = .ok (.iconst 0, 1) := by decide +kernel
theorem dL_strain_3 : decode cL_strain 3 = .ok (.aload_n 0, 1) := by decide +kernel
theorem dL_strain_4 : decode cL_strain 4 = .ok (.iload_n 1, 1) := by decide +kernel
theorem dL_strain_5 : decode cL_strain 5 = .ok (.iload_n 2, 1) := by decide +kernel
theorem dL_strain_6 : decode cL_strain 6 = .ok (.iload_n 3, 1) := by decide +kernel
theorem dL_strain_7 : decode cL_strain 7 = .ok (.invokevirtual 28, 3) := by decide +kernel
theorem dL_strain_10 : decode cL_strain 10 = .ok (.i2l, 1) := by decide +kernel
theorem dL_strain_11 : decode cL_strain 11 = .ok (.lastore, 1) := by decide +kernel
theorem dL_strain_12 : decode cL_strain 12 = .ok (.goto 7, 3) := by decide +kernel
theorem dL_strain_15 : decode cL_strain 15 = .ok (.astore 5, 2) := by decide +kernel
theorem dL_strain_17 : decode cL_strain 17 = .ok (.iconst 1, 1) := by decide +kernel
theorem dL_strain_18 : decode cL_strain 18 = .ok (.ireturn, 1) := by decide +kernel
theorem dL_strain_19 : decode cL_strain 19 = .ok (.iconst 0, 1) := by decide +kernel
theorem dL_strain_20 : decode cL_strain 20 = .ok (.ireturn, 1) := by decide +kernel
theorem dL_squeeze_0 : decode cL_squeeze 0 = .ok (.aload 4, 2) := by decide +kernel
theorem dL_squeeze_2 : decode cL_squeeze 2 = .ok (.iconst 0, 1) := by decide +kernel
theorem dL_squeeze_3 : decode cL_squeeze 3 = .ok (.aload_n 0, 1) := by decide +kernel
theorem dL_squeeze_4 : decode cL_squeeze 4 = .ok (.iload_n 1, 1) := by decide +kernel
theorem dL_squeeze_5 : decode cL_squeeze 5 = .ok (.iload_n 2, 1) := by decide +kernel
theorem dL_squeeze_6 : decode cL_squeeze 6 = .ok (.iload_n 3, 1) := by decide +kernel
theorem dL_squeeze_7 : decode cL_squeeze 7 = .ok (.invokevirtual 32, 3) := by decide +kernel
theorem dL_squeeze_10 : decode cL_squeeze 10 = .ok (.i2l, 1) := by decide +kernel
theorem dL_squeeze_11 : decode cL_squeeze 11 = .ok (.lastore, 1) := by decide +kernel
theorem dL_squeeze_12 : decode cL_squeeze 12 = .ok (.goto 7, 3) := by decide +kernel
theorem dL_squeeze_15 : decode cL_squeeze 15 = .ok (.astore 5, 2) := by decide +kernel
theorem dL_squeeze_17 : decode cL_squeeze 17 = .ok (.iconst 1, 1) := by decide +kernel
theorem dL_squeeze_18 : decode cL_squeeze 18 = .ok (.ireturn, 1) := by decide +kernel
theorem dL_squeeze_19 : decode cL_squeeze 19 = .ok (.iconst 0, 1) := by decide +kernel
theorem dL_squeeze_20 : decode cL_squeeze 20 = .ok (.ireturn, 1) := by decide +kernel
