theorem dX0_init_0 : decode cX0_init 0 = .ok (.aload_n 0, 1) := by decide +kernel
theorem dX0_init_1 : decode cX0_init 1 = .ok (.invokespecial 3, 3) := by decide +kernel
theorem dX0_init_4 : decode cX0_init 4 = .ok (.aload_n 0, 1) := by decide +kernel
theorem dX0_init_5 : decode cX0_init 5 = .ok (.new 9, 3) := by decide +kernel
theorem dX0_init_8 : decode cX0_init 8 = .ok (.dup, 1) := by decide +kernel
theorem dX0_init_9 : decode cX0_init 9 = .ok (.invokespecial 11, 3) := by decide +kernel
theorem dX0_init_12 : decode cX0_init 12 = .ok (.putfield 12, 3) := by decide +kernel
theorem dX0_init_15 : decode cX0_init 15 = .ok (.aload_n 0, 1) := by decide +kernel
theorem dX0_init_16 : decode cX0_init 16 = .ok (.bipush 8, 2) := by decide +kernel
theorem dX0_init_18 : decode cX0_init 18 = .ok (.newarray .int, 2) := by decide +kernel
theorem dX0_init_20 : decode cX0_init 20 = .ok (.putfield 18, 3) := by decide +kernel
theorem dX0_init_23 : decode cX0_init 23 = .ok (.aload_n 0, 1) := by decide +kernel
theorem dX0_init_24 : decode cX0_init 24 = .ok (.bipush 8, 2) := by decide +kernel
theorem dX0_init_26 : decode cX0_init 26 = .ok (.newarray .int, 2) := by decide +kernel
theorem dX0_init_28 : decode cX0_init 28 = .ok (.putfield 22, 3) := by decide +kernel
theorem dX0_init_31 : decode cX0_init 31 = .ok (.return_, 1) := by decide +kernel
theorem dX0_findBorne_0 : decode cX0_findBorne 0 = .ok (.aload_n 0, 1) := by decide +kernel
theorem dX0_findBorne_1 : decode cX0_findBorne 1 = .ok (.getfield 12, 3) := by decide +kernel
theorem dX0_findBorne_4 : decode cX0_findBorne 4 = .ok (.aload_n 1, 1) := by decide +kernel
theorem dX0_findBorne_5 : decode cX0_findBorne 5 = .ok (.iload_n 2, 1) := by decide +kernel
theorem dX0_findBorne_6 : decode cX0_findBorne 6 = .ok (.invokevirtual 25, 3) := by decide +kernel
theorem dX0_findBorne_9 : decode cX0_findBorne 9 = .ok (.iconst 0, 1) := by decide +kernel
theorem dX0_findBorne_10 : decode cX0_findBorne 10 = .ok (.istore 5, 2) := by decide +kernel
theorem dX0_findBorne_12 : decode cX0_findBorne 12 = .ok (.iload_n 2, 1) := by decide +kernel
theorem dX0_findBorne_13 : decode cX0_findBorne 13 = .ok (.istore 6, 2) := by decide +kernel
theorem dX0_findBorne_15 : decode cX0_findBorne 15 = .ok (.iload 6, 2) := by decide +kernel
theorem dX0_findBorne_17 : decode cX0_findBorne 17 = .ok (.iload_n 3, 1) := by decide +kernel
theorem dX0_findBorne_18 : decode cX0_findBorne 18 = .ok (.if_icmp .gt 120, 3) := by decide +kernel
theorem dX0_findBorne_21 : decode cX0_findBorne 21 = .ok (.aload_n 0, 1) := by decide +kernel
theorem dX0_findBorne_22 : decode cX0_findBorne 22 = .ok (.getfield 12, 3) := by decide +kernel
theorem dX0_findBorne_25 : decode cX0_findBorne 25 = .ok (.iload 6, 2) := by decide +kernel
theorem dX0_findBorne_27 : decode cX0_findBorne 27 = .ok (.putfield 29, 3) := by decide +kernel
theorem dX0_findBorne_30 : decode cX0_findBorne 30 = .ok (.aload_n 0, 1) := by decide +kernel
theorem dX0_findBorne_31 : decode cX0_findBorne 31 = .ok (.getfield 12, 3) := by decide +kernel
theorem dX0_findBorne_34 : decode cX0_findBorne 34 = .ok (.aload_n 1, 1) := by decide +kernel
theorem dX0_findBorne_35 : decode cX0_findBorne 35 = .ok (.invokevirtual 33, 3) := by decide +kernel
theorem dX0_findBorne_38 : decode cX0_findBorne 38 = .ok (.pop, 1) := by decide +kernel
theorem dX0_findBorne_39 : decode cX0_findBorne 39 = .ok (.iconst 0, 1) := by decide +kernel
theorem dX0_findBorne_40 : decode cX0_findBorne 40 = .ok (.istore 7, 2) := by decide +kernel
theorem dX0_findBorne_42 : decode cX0_findBorne 42 = .ok (.iload 7, 2) := by decide +kernel
theorem dX0_findBorne_44 : decode cX0_findBorne 44 = .ok (.aload_n 0, 1) := by decide +kernel
theorem dX0_findBorne_45 : decode cX0_findBorne 45 = .ok (.getfield 12, 3) := by decide +kernel
theorem dX0_findBorne_48 : decode cX0_findBorne 48 = .ok (.getfield 37, 3) := by decide +kernel
theorem dX0_findBorne_51 : decode cX0_findBorne 51 = .ok (.if_icmp .ge 73, 3) := by decide +kernel
theorem dX0_findBorne_54 : decode cX0_findBorne 54 = .ok (.aload_n 0, 1) := by decide +kernel
theorem dX0_findBorne_55 : decode cX0_findBorne 55 = .ok (.getfield 12, 3) := by decide +kernel
theorem dX0_findBorne_58 : decode cX0_findBorne 58 = .ok (.getfield 40, 3) := by decide +kernel
theorem dX0_findBorne_61 : decode cX0_findBorne 61 = .ok (.iload 7, 2) := by decide +kernel
theorem dX0_findBorne_63 : decode cX0_findBorne 63 = .ok (.iaload, 1) := by decide +kernel
theorem dX0_findBorne_64 : decode cX0_findBorne 64 = .ok (.istore 8, 2) := by decide +kernel
theorem dX0_findBorne_66 : decode cX0_findBorne 66 = .ok (.iload 5, 2) := by decide +kernel
theorem dX0_findBorne_68 : decode cX0_findBorne 68 = .ok (.ifCond .eq 29, 3) := by decide +kernel
theorem dX0_findBorne_71 : decode cX0_findBorne 71 = .ok (.iload 4, 2) := by decide +kernel
theorem dX0_findBorne_73 : decode cX0_findBorne 73 = .ok (.ifCond .eq 15, 3) := by decide +kernel
theorem dX0_findBorne_76 : decode cX0_findBorne 76 = .ok (.iload 8, 2) := by decide +kernel
theorem dX0_findBorne_78 : decode cX0_findBorne 78 = .ok (.aload_n 0, 1) := by decide +kernel
theorem dX0_findBorne_79 : decode cX0_findBorne 79 = .ok (.getfield 43, 3) := by decide +kernel
theorem dX0_findBorne_82 : decode cX0_findBorne 82 = .ok (.if_icmp .le 36, 3) := by decide +kernel
theorem dX0_findBorne_85 : decode cX0_findBorne 85 = .ok (.goto 12, 3) := by decide +kernel
theorem dX0_findBorne_88 : decode cX0_findBorne 88 = .ok (.iload 8, 2) := by decide +kernel
theorem dX0_findBorne_90 : decode cX0_findBorne 90 = .ok (.aload_n 0, 1) := by decide +kernel
theorem dX0_findBorne_91 : decode cX0_findBorne 91 = .ok (.getfield 43, 3) := by decide +kernel
theorem dX0_findBorne_94 : decode cX0_findBorne 94 = .ok (.if_icmp .ge 24, 3) := by decide +kernel
theorem dX0_findBorne_97 : decode cX0_findBorne 97 = .ok (.iconst 1, 1) := by decide +kernel
theorem dX0_findBorne_98 : decode cX0_findBorne 98 = .ok (.istore 5, 2) := by decide +kernel
theorem dX0_findBorne_100 : decode cX0_findBorne 100 = .ok (.aload_n 0, 1) := by decide +kernel
theorem dX0_findBorne_101 : decode cX0_findBorne 101 = .ok (.iload 8, 2) := by decide +kernel
theorem dX0_findBorne_103 : decode cX0_findBorne 103 = .ok (.putfield 43, 3) := by decide +kernel
theorem dX0_findBorne_106 : decode cX0_findBorne 106 = .ok (.aload_n 0, 1) := by decide +kernel
theorem dX0_findBorne_107 : decode cX0_findBorne 107 = .ok (.iload 6, 2) := by decide +kernel
theorem dX0_findBorne_109 : decode cX0_findBorne 109 = .ok (.putfield 46, 3) := by decide +kernel
theorem dX0_findBorne_112 : decode cX0_findBorne 112 = .ok (.aload_n 0, 1) := by decide +kernel
theorem dX0_findBorne_113 : decode cX0_findBorne 113 = .ok (.iload 7, 2) := by decide +kernel
theorem dX0_findBorne_115 : decode cX0_findBorne 115 = .ok (.putfield 49, 3) := by decide +kernel
theorem dX0_findBorne_118 : decode cX0_findBorne 118 = .ok (.iinc 7 1, 3) := by decide +kernel
theorem dX0_findBorne_121 : decode cX0_findBorne 121 = .ok (.goto (-79), 3) := by decide +kernel
theorem dX0_findBorne_124 : decode cX0_findBorne 124 = .ok (.aload_n 0, 1) := by decide +kernel
theorem dX0_findBorne_125 : decode cX0_findBorne 125 = .ok (.getfield 12, 3) := by decide +kernel
theorem dX0_findBorne_128 : decode cX0_findBorne 128 = .ok (.aload_n 1, 1) := by decide +kernel
theorem dX0_findBorne_129 : decode cX0_findBorne 129 = .ok (.invokevirtual 52, 3) := by decide +kernel
theorem dX0_findBorne_132 : decode cX0_findBorne 132 = .ok (.iinc 6 1, 3) := by decide +kernel
theorem dX0_findBorne_135 : decode cX0_findBorne 135 = .ok (.goto (-120), 3) := by decide +kernel
theorem dX0_findBorne_138 : decode cX0_findBorne 138 = .ok (.iload 5, 2) := by decide +kernel
theorem dX0_findBorne_140 : decode cX0_findBorne 140 = .ok (.ireturn, 1) := by decide +kernel
theorem dX0_findSpan_0 : decode cX0_findSpan 0 = .ok (.aload_n 0, 1) := by decide +kernel
theorem dX0_findSpan_1 : decode cX0_findSpan 1 = .ok (.iconst 0, 1) := by decide +kernel
theorem dX0_findSpan_2 : decode cX0_findSpan 2 = .ok (.putfield 56, 3) := by decide +kernel
theorem dX0_findSpan_5 : decode cX0_findSpan 5 = .ok (.aload_n 0, 1) := by decide +kernel
theorem dX0_findSpan_6 : decode cX0_findSpan 6 = .ok (.iconst (-1), 1) := by decide +kernel
theorem dX0_findSpan_7 : decode cX0_findSpan 7 = .ok (.putfield 46, 3) := by decide +kernel
theorem dX0_findSpan_10 : decode cX0_findSpan 10 = .ok (.aload_n 0, 1) := by decide +kernel
theorem dX0_findSpan_11 : decode cX0_findSpan 11 = .ok (.getfield 12, 3) := by decide +kernel
theorem dX0_findSpan_14 : decode cX0_findSpan 14 = .ok (.aload_n 1, 1) := by decide +kernel
theorem dX0_findSpan_15 : decode cX0_findSpan 15 = .ok (.invokevirtual 59, 3) := by decide +kernel
theorem dX0_findSpan_18 : decode cX0_findSpan 18 = .ok (.iconst 0, 1) := by decide +kernel
theorem dX0_findSpan_19 : decode cX0_findSpan 19 = .ok (.istore 4, 2) := by decide +kernel
theorem dX0_findSpan_21 : decode cX0_findSpan 21 = .ok (.iload 4, 2) := by decide +kernel
theorem dX0_findSpan_23 : decode cX0_findSpan 23 = .ok (.aload_n 1, 1) := by decide +kernel
theorem dX0_findSpan_24 : decode cX0_findSpan 24 = .ok (.getfield 62, 3) := by decide +kernel
theorem dX0_findSpan_27 : decode cX0_findSpan 27 = .ok (.if_icmp .ge 77, 3) := by decide +kernel
theorem dX0_findSpan_30 : decode cX0_findSpan 30 = .ok (.aload_n 0, 1) := by decide +kernel
theorem dX0_findSpan_31 : decode cX0_findSpan 31 = .ok (.getfield 12, 3) := by decide +kernel
theorem dX0_findSpan_34 : decode cX0_findSpan 34 = .ok (.iload 4, 2) := by decide +kernel
theorem dX0_findSpan_36 : decode cX0_findSpan 36 = .ok (.putfield 29, 3) := by decide +kernel
theorem dX0_findSpan_39 : decode cX0_findSpan 39 = .ok (.aload_n 0, 1) := by decide +kernel
theorem dX0_findSpan_40 : decode cX0_findSpan 40 = .ok (.getfield 12, 3) := by decide +kernel
theorem dX0_findSpan_43 : decode cX0_findSpan 43 = .ok (.aload_n 1, 1) := by decide +kernel
theorem dX0_findSpan_44 : decode cX0_findSpan 44 = .ok (.invokevirtual 52, 3) := by decide +kernel
theorem dX0_findSpan_47 : decode cX0_findSpan 47 = .ok (.iload 4, 2) := by decide +kernel
theorem dX0_findSpan_49 : decode cX0_findSpan 49 = .ok (.iload_n 3, 1) := by decide +kernel
theorem dX0_findSpan_50 : decode cX0_findSpan 50 = .ok (.if_icmp .lt 48, 3) := by decide +kernel
theorem dX0_findSpan_53 : decode cX0_findSpan 53 = .ok (.iload 4, 2) := by decide +kernel
theorem dX0_findSpan_55 : decode cX0_findSpan 55 = .ok (.aload_n 0, 1) := by decide +kernel
theorem dX0_findSpan_56 : decode cX0_findSpan 56 = .ok (.getfield 12, 3) := by decide +kernel
theorem dX0_findSpan_59 : decode cX0_findSpan 59 = .ok (.getfield 67, 3) := by decide +kernel
theorem dX0_findSpan_62 : decode cX0_findSpan 62 = .ok (.isub, 1) := by decide +kernel
theorem dX0_findSpan_63 : decode cX0_findSpan 63 = .ok (.iload_n 2, 1) := by decide +kernel
theorem dX0_findSpan_64 : decode cX0_findSpan 64 = .ok (.if_icmp .gt 34, 3) := by decide +kernel
theorem dX0_findSpan_67 : decode cX0_findSpan 67 = .ok (.aload_n 0, 1) := by decide +kernel
theorem dX0_findSpan_68 : decode cX0_findSpan 68 = .ok (.dup, 1) := by decide +kernel
theorem dX0_findSpan_69 : decode cX0_findSpan 69 = .ok (.getfield 56, 3) := by decide +kernel
theorem dX0_findSpan_72 : decode cX0_findSpan 72 = .ok (.iconst 1, 1) := by decide +kernel
theorem dX0_findSpan_73 : decode cX0_findSpan 73 = .ok (.iadd, 1) := by decide +kernel
theorem dX0_findSpan_74 : decode cX0_findSpan 74 = .ok (.putfield 56, 3) := by decide +kernel
theorem dX0_findSpan_77 : decode cX0_findSpan 77 = .ok (.aload_n 0, 1) := by decide +kernel
theorem dX0_findSpan_78 : decode cX0_findSpan 78 = .ok (.aload_n 0, 1) := by decide +kernel
theorem dX0_findSpan_79 : decode cX0_findSpan 79 = .ok (.getfield 46, 3) := by decide +kernel
theorem dX0_findSpan_82 : decode cX0_findSpan 82 = .ok (.iconst (-1), 1) := by decide +kernel
theorem dX0_findSpan_83 : decode cX0_findSpan 83 = .ok (.if_icmp .ne 8, 3) := by decide +kernel
theorem dX0_findSpan_86 : decode cX0_findSpan 86 = .ok (.iload 4, 2) := by decide +kernel
theorem dX0_findSpan_88 : decode cX0_findSpan 88 = .ok (.goto 7, 3) := by decide +kernel
theorem dX0_findSpan_91 : decode cX0_findSpan 91 = .ok (.aload_n 0, 1) := by decide +kernel
theorem dX0_findSpan_92 : decode cX0_findSpan 92 = .ok (.getfield 46, 3) := by decide +kernel
theorem dX0_findSpan_95 : decode cX0_findSpan 95 = .ok (.putfield 46, 3) := by decide +kernel
theorem dX0_findSpan_98 : decode cX0_findSpan 98 = .ok (.iinc 4 1, 3) := by decide +kernel
theorem dX0_findSpan_101 : decode cX0_findSpan 101 = .ok (.goto (-80), 3) := by decide +kernel
theorem dX0_findSpan_104 : decode cX0_findSpan 104 = .ok (.return_, 1) := by decide +kernel
theorem dX0_start_0 : decode cX0_start 0 = .ok (.aload_n 0, 1) := by decide +kernel
theorem dX0_start_1 : decode cX0_start 1 = .ok (.getfield 12, 3) := by decide +kernel
theorem dX0_start_4 : decode cX0_start 4 = .ok (.aload_n 1, 1) := by decide +kernel
theorem dX0_start_5 : decode cX0_start 5 = .ok (.iload_n 2, 1) := by decide +kernel
theorem dX0_start_6 : decode cX0_start 6 = .ok (.invokevirtual 25, 3) := by decide +kernel
theorem dX0_start_9 : decode cX0_start 9 = .ok (.aload_n 0, 1) := by decide +kernel
theorem dX0_start_10 : decode cX0_start 10 = .ok (.getfield 12, 3) := by decide +kernel
theorem dX0_start_13 : decode cX0_start 13 = .ok (.aload_n 1, 1) := by decide +kernel
theorem dX0_start_14 : decode cX0_start 14 = .ok (.invokevirtual 52, 3) := by decide +kernel
theorem dX0_start_17 : decode cX0_start 17 = .ok (.return_, 1) := by decide +kernel
theorem dX0_gainAt_0 : decode cX0_gainAt 0 = .ok (.aload_n 0, 1) := by decide +kernel
theorem dX0_gainAt_1 : decode cX0_gainAt 1 = .ok (.getfield 12, 3) := by decide +kernel
theorem dX0_gainAt_4 : decode cX0_gainAt 4 = .ok (.iload_n 1, 1) := by decide +kernel
theorem dX0_gainAt_5 : decode cX0_gainAt 5 = .ok (.putfield 29, 3) := by decide +kernel
theorem dX0_gainAt_8 : decode cX0_gainAt 8 = .ok (.aload_n 2, 1) := by decide +kernel
theorem dX0_gainAt_9 : decode cX0_gainAt 9 = .ok (.getfield 70, 3) := by decide +kernel
theorem dX0_gainAt_12 : decode cX0_gainAt 12 = .ok (.aload_n 0, 1) := by decide +kernel
theorem dX0_gainAt_13 : decode cX0_gainAt 13 = .ok (.getfield 12, 3) := by decide +kernel
theorem dX0_gainAt_16 : decode cX0_gainAt 16 = .ok (.aload_n 2, 1) := by decide +kernel
theorem dX0_gainAt_17 : decode cX0_gainAt 17 = .ok (.invokevirtual 33, 3) := by decide +kernel
theorem dX0_gainAt_20 : decode cX0_gainAt 20 = .ok (.isub, 1) := by decide +kernel
theorem dX0_gainAt_21 : decode cX0_gainAt 21 = .ok (.ireturn, 1) := by decide +kernel
theorem dX0_climbed_0 : decode cX0_climbed 0 = .ok (.aload_n 0, 1) := by decide +kernel
theorem dX0_climbed_1 : decode cX0_climbed 1 = .ok (.aload_n 1, 1) := by decide +kernel
theorem dX0_climbed_2 : decode cX0_climbed 2 = .ok (.iload_n 2, 1) := by decide +kernel
theorem dX0_climbed_3 : decode cX0_climbed 3 = .ok (.invokevirtual 73, 3) := by decide +kernel
theorem dX0_climbed_6 : decode cX0_climbed 6 = .ok (.iload 4, 2) := by decide +kernel
theorem dX0_climbed_8 : decode cX0_climbed 8 = .ok (.istore 5, 2) := by decide +kernel
theorem dX0_climbed_10 : decode cX0_climbed 10 = .ok (.iload_n 2, 1) := by decide +kernel
theorem dX0_climbed_11 : decode cX0_climbed 11 = .ok (.iconst 1, 1) := by decide +kernel
theorem dX0_climbed_12 : decode cX0_climbed 12 = .ok (.iadd, 1) := by decide +kernel
theorem dX0_climbed_13 : decode cX0_climbed 13 = .ok (.istore 6, 2) := by decide +kernel
theorem dX0_climbed_15 : decode cX0_climbed 15 = .ok (.iload 6, 2) := by decide +kernel
theorem dX0_climbed_17 : decode cX0_climbed 17 = .ok (.iload_n 3, 1) := by decide +kernel
theorem dX0_climbed_18 : decode cX0_climbed 18 = .ok (.if_icmp .gt 39, 3) := by decide +kernel
theorem dX0_climbed_21 : decode cX0_climbed 21 = .ok (.iload 5, 2) := by decide +kernel
theorem dX0_climbed_23 : decode cX0_climbed 23 = .ok (.aload_n 0, 1) := by decide +kernel
theorem dX0_climbed_24 : decode cX0_climbed 24 = .ok (.iload 6, 2) := by decide +kernel
theorem dX0_climbed_26 : decode cX0_climbed 26 = .ok (.aload_n 1, 1) := by decide +kernel
theorem dX0_climbed_27 : decode cX0_climbed 27 = .ok (.invokevirtual 76, 3) := by decide +kernel
theorem dX0_climbed_30 : decode cX0_climbed 30 = .ok (.iadd, 1) := by decide +kernel
theorem dX0_climbed_31 : decode cX0_climbed 31 = .ok (.istore 5, 2) := by decide +kernel
theorem dX0_climbed_33 : decode cX0_climbed 33 = .ok (.iload 5, 2) := by decide +kernel
theorem dX0_climbed_35 : decode cX0_climbed 35 = .ok (.ifCond .ge 8, 3) := by decide +kernel
theorem dX0_climbed_38 : decode cX0_climbed 38 = .ok (.iload 6, 2) := by decide +kernel
theorem dX0_climbed_40 : decode cX0_climbed 40 = .ok (.iconst 1, 1) := by decide +kernel
theorem dX0_climbed_41 : decode cX0_climbed 41 = .ok (.isub, 1) := by decide +kernel
theorem dX0_climbed_42 : decode cX0_climbed 42 = .ok (.ireturn, 1) := by decide +kernel
theorem dX0_climbed_43 : decode cX0_climbed 43 = .ok (.aload_n 0, 1) := by decide +kernel
theorem dX0_climbed_44 : decode cX0_climbed 44 = .ok (.getfield 12, 3) := by decide +kernel
theorem dX0_climbed_47 : decode cX0_climbed 47 = .ok (.aload_n 1, 1) := by decide +kernel
theorem dX0_climbed_48 : decode cX0_climbed 48 = .ok (.invokevirtual 52, 3) := by decide +kernel
theorem dX0_climbed_51 : decode cX0_climbed 51 = .ok (.iinc 6 1, 3) := by decide +kernel
theorem dX0_climbed_54 : decode cX0_climbed 54 = .ok (.goto (-39), 3) := by decide +kernel
theorem dX0_climbed_57 : decode cX0_climbed 57 = .ok (.iload_n 3, 1) := by decide +kernel
theorem dX0_climbed_58 : decode cX0_climbed 58 = .ok (.ireturn, 1) := by decide +kernel
theorem dX0_leastRunUp_0 : decode cX0_leastRunUp 0 = .ok (.aload_n 0, 1) := by decide +kernel
theorem dX0_leastRunUp_1 : decode cX0_leastRunUp 1 = .ok (.aload_n 1, 1) := by decide +kernel
theorem dX0_leastRunUp_2 : decode cX0_leastRunUp 2 = .ok (.iload_n 2, 1) := by decide +kernel
theorem dX0_leastRunUp_3 : decode cX0_leastRunUp 3 = .ok (.invokevirtual 73, 3) := by decide +kernel
theorem dX0_leastRunUp_6 : decode cX0_leastRunUp 6 = .ok (.iconst 0, 1) := by decide +kernel
theorem dX0_leastRunUp_7 : decode cX0_leastRunUp 7 = .ok (.istore 4, 2) := by decide +kernel
theorem dX0_leastRunUp_9 : decode cX0_leastRunUp 9 = .ok (.iconst 0, 1) := by decide +kernel
theorem dX0_leastRunUp_10 : decode cX0_leastRunUp 10 = .ok (.istore 5, 2) := by decide +kernel
theorem dX0_leastRunUp_12 : decode cX0_leastRunUp 12 = .ok (.iload_n 2, 1) := by decide +kernel
theorem dX0_leastRunUp_13 : decode cX0_leastRunUp 13 = .ok (.iconst 1, 1) := by decide +kernel
theorem dX0_leastRunUp_14 : decode cX0_leastRunUp 14 = .ok (.iadd, 1) := by decide +kernel
theorem dX0_leastRunUp_15 : decode cX0_leastRunUp 15 = .ok (.istore 6, 2) := by decide +kernel
theorem dX0_leastRunUp_17 : decode cX0_leastRunUp 17 = .ok (.iload 6, 2) := by decide +kernel
theorem dX0_leastRunUp_19 : decode cX0_leastRunUp 19 = .ok (.iload_n 3, 1) := by decide +kernel
theorem dX0_leastRunUp_20 : decode cX0_leastRunUp 20 = .ok (.if_icmp .gt 39, 3) := by decide +kernel
theorem dX0_leastRunUp_23 : decode cX0_leastRunUp 23 = .ok (.iload 4, 2) := by decide +kernel
theorem dX0_leastRunUp_25 : decode cX0_leastRunUp 25 = .ok (.aload_n 0, 1) := by decide +kernel
theorem dX0_leastRunUp_26 : decode cX0_leastRunUp 26 = .ok (.iload 6, 2) := by decide +kernel
theorem dX0_leastRunUp_28 : decode cX0_leastRunUp 28 = .ok (.aload_n 1, 1) := by decide +kernel
theorem dX0_leastRunUp_29 : decode cX0_leastRunUp 29 = .ok (.invokevirtual 76, 3) := by decide +kernel
theorem dX0_leastRunUp_32 : decode cX0_leastRunUp 32 = .ok (.iadd, 1) := by decide +kernel
theorem dX0_leastRunUp_33 : decode cX0_leastRunUp 33 = .ok (.istore 4, 2) := by decide +kernel
theorem dX0_leastRunUp_35 : decode cX0_leastRunUp 35 = .ok (.iload 5, 2) := by decide +kernel
theorem dX0_leastRunUp_37 : decode cX0_leastRunUp 37 = .ok (.iload 4, 2) := by decide +kernel
theorem dX0_leastRunUp_39 : decode cX0_leastRunUp 39 = .ok (.ineg, 1) := by decide +kernel
theorem dX0_leastRunUp_40 : decode cX0_leastRunUp 40 = .ok (.invokestatic 80, 3) := by decide +kernel
theorem dX0_leastRunUp_43 : decode cX0_leastRunUp 43 = .ok (.istore 5, 2) := by decide +kernel
theorem dX0_leastRunUp_45 : decode cX0_leastRunUp 45 = .ok (.aload_n 0, 1) := by decide +kernel
theorem dX0_leastRunUp_46 : decode cX0_leastRunUp 46 = .ok (.getfield 12, 3) := by decide +kernel
theorem dX0_leastRunUp_49 : decode cX0_leastRunUp 49 = .ok (.aload_n 1, 1) := by decide +kernel
theorem dX0_leastRunUp_50 : decode cX0_leastRunUp 50 = .ok (.invokevirtual 52, 3) := by decide +kernel
theorem dX0_leastRunUp_53 : decode cX0_leastRunUp 53 = .ok (.iinc 6 1, 3) := by decide +kernel
theorem dX0_leastRunUp_56 : decode cX0_leastRunUp 56 = .ok (.goto (-39), 3) := by decide +kernel
theorem dX0_leastRunUp_59 : decode cX0_leastRunUp 59 = .ok (.iload 5, 2) := by decide +kernel
theorem dX0_leastRunUp_61 : decode cX0_leastRunUp 61 = .ok (.ireturn, 1) := by decide +kernel
theorem dX0_leastSand_0 : decode cX0_leastSand 0 = .ok (.aload_n 0, 1) := by decide +kernel
theorem dX0_leastSand_1 : decode cX0_leastSand 1 = .ok (.aload_n 1, 1) := by decide +kernel
theorem dX0_leastSand_2 : decode cX0_leastSand 2 = .ok (.iload_n 2, 1) := by decide +kernel
theorem dX0_leastSand_3 : decode cX0_leastSand 3 = .ok (.invokevirtual 73, 3) := by decide +kernel
theorem dX0_leastSand_6 : decode cX0_leastSand 6 = .ok (.iload 4, 2) := by decide +kernel
theorem dX0_leastSand_8 : decode cX0_leastSand 8 = .ok (.istore 5, 2) := by decide +kernel
theorem dX0_leastSand_10 : decode cX0_leastSand 10 = .ok (.iconst 0, 1) := by decide +kernel
theorem dX0_leastSand_11 : decode cX0_leastSand 11 = .ok (.istore 6, 2) := by decide +kernel
theorem dX0_leastSand_13 : decode cX0_leastSand 13 = .ok (.iload_n 2, 1) := by decide +kernel
theorem dX0_leastSand_14 : decode cX0_leastSand 14 = .ok (.iconst 1, 1) := by decide +kernel
theorem dX0_leastSand_15 : decode cX0_leastSand 15 = .ok (.iadd, 1) := by decide +kernel
theorem dX0_leastSand_16 : decode cX0_leastSand 16 = .ok (.istore 7, 2) := by decide +kernel
theorem dX0_leastSand_18 : decode cX0_leastSand 18 = .ok (.iload 7, 2) := by decide +kernel
theorem dX0_leastSand_20 : decode cX0_leastSand 20 = .ok (.iload_n 3, 1) := by decide +kernel
theorem dX0_leastSand_21 : decode cX0_leastSand 21 = .ok (.if_icmp .gt 75, 3) := by decide +kernel
theorem dX0_leastSand_24 : decode cX0_leastSand 24 = .ok (.iload 5, 2) := by decide +kernel
theorem dX0_leastSand_26 : decode cX0_leastSand 26 = .ok (.aload_n 0, 1) := by decide +kernel
theorem dX0_leastSand_27 : decode cX0_leastSand 27 = .ok (.iload 7, 2) := by decide +kernel
theorem dX0_leastSand_29 : decode cX0_leastSand 29 = .ok (.aload_n 1, 1) := by decide +kernel
theorem dX0_leastSand_30 : decode cX0_leastSand 30 = .ok (.invokevirtual 76, 3) := by decide +kernel
theorem dX0_leastSand_33 : decode cX0_leastSand 33 = .ok (.iadd, 1) := by decide +kernel
theorem dX0_leastSand_34 : decode cX0_leastSand 34 = .ok (.istore 5, 2) := by decide +kernel
theorem dX0_leastSand_36 : decode cX0_leastSand 36 = .ok (.iload 5, 2) := by decide +kernel
theorem dX0_leastSand_38 : decode cX0_leastSand 38 = .ok (.ifCond .ge 44, 3) := by decide +kernel
theorem dX0_leastSand_41 : decode cX0_leastSand 41 = .ok (.aload_n 1, 1) := by decide +kernel
theorem dX0_leastSand_42 : decode cX0_leastSand 42 = .ok (.getfield 86, 3) := by decide +kernel
theorem dX0_leastSand_45 : decode cX0_leastSand 45 = .ok (.ifCond .gt 5, 3) := by decide +kernel
theorem dX0_leastSand_48 : decode cX0_leastSand 48 = .ok (.iconst (-1), 1) := by decide +kernel
theorem dX0_leastSand_49 : decode cX0_leastSand 49 = .ok (.ireturn, 1) := by decide +kernel
theorem dX0_leastSand_50 : decode cX0_leastSand 50 = .ok (.iload 6, 2) := by decide +kernel
theorem dX0_leastSand_52 : decode cX0_leastSand 52 = .ok (.aload_n 1, 1) := by decide +kernel
theorem dX0_leastSand_53 : decode cX0_leastSand 53 = .ok (.getfield 86, 3) := by decide +kernel
theorem dX0_leastSand_56 : decode cX0_leastSand 56 = .ok (.iconst 1, 1) := by decide +kernel
theorem dX0_leastSand_57 : decode cX0_leastSand 57 = .ok (.isub, 1) := by decide +kernel
theorem dX0_leastSand_58 : decode cX0_leastSand 58 = .ok (.iload 5, 2) := by decide +kernel
theorem dX0_leastSand_60 : decode cX0_leastSand 60 = .ok (.isub, 1) := by decide +kernel
theorem dX0_leastSand_61 : decode cX0_leastSand 61 = .ok (.aload_n 1, 1) := by decide +kernel
theorem dX0_leastSand_62 : decode cX0_leastSand 62 = .ok (.getfield 86, 3) := by decide +kernel
theorem dX0_leastSand_65 : decode cX0_leastSand 65 = .ok (.idiv, 1) := by decide +kernel
theorem dX0_leastSand_66 : decode cX0_leastSand 66 = .ok (.invokestatic 80, 3) := by decide +kernel
theorem dX0_leastSand_69 : decode cX0_leastSand 69 = .ok (.istore 6, 2) := by decide +kernel
theorem dX0_leastSand_71 : decode cX0_leastSand 71 = .ok (.iload 6, 2) := by decide +kernel
theorem dX0_leastSand_73 : decode cX0_leastSand 73 = .ok (.iload 7, 2) := by decide +kernel
theorem dX0_leastSand_75 : decode cX0_leastSand 75 = .ok (.iload_n 2, 1) := by decide +kernel
theorem dX0_leastSand_76 : decode cX0_leastSand 76 = .ok (.isub, 1) := by decide +kernel
theorem dX0_leastSand_77 : decode cX0_leastSand 77 = .ok (.if_icmp .le 5, 3) := by decide +kernel
theorem dX0_leastSand_80 : decode cX0_leastSand 80 = .ok (.iconst (-1), 1) := by decide +kernel
theorem dX0_leastSand_81 : decode cX0_leastSand 81 = .ok (.ireturn, 1) := by decide +kernel
theorem dX0_leastSand_82 : decode cX0_leastSand 82 = .ok (.aload_n 0, 1) := by decide +kernel
theorem dX0_leastSand_83 : decode cX0_leastSand 83 = .ok (.getfield 12, 3) := by decide +kernel
theorem dX0_leastSand_86 : decode cX0_leastSand 86 = .ok (.aload_n 1, 1) := by decide +kernel
theorem dX0_leastSand_87 : decode cX0_leastSand 87 = .ok (.invokevirtual 52, 3) := by decide +kernel
theorem dX0_leastSand_90 : decode cX0_leastSand 90 = .ok (.iinc 7 1, 3) := by decide +kernel
theorem dX0_leastSand_93 : decode cX0_leastSand 93 = .ok (.goto (-75), 3) := by decide +kernel
theorem dX0_leastSand_96 : decode cX0_leastSand 96 = .ok (.iload 6, 2) := by decide +kernel
theorem dX0_leastSand_98 : decode cX0_leastSand 98 = .ok (.ireturn, 1) := by decide +kernel
theorem dX0_helpfulWagons_0 : decode cX0_helpfulWagons 0 = .ok (.aload_n 0, 1) := by decide +kernel
theorem dX0_helpfulWagons_1 : decode cX0_helpfulWagons 1 = .ok (.aload_n 1, 1) := by decide +kernel
theorem dX0_helpfulWagons_2 : decode cX0_helpfulWagons 2 = .ok (.iload_n 2, 1) := by decide +kernel
theorem dX0_helpfulWagons_3 : decode cX0_helpfulWagons 3 = .ok (.invokevirtual 73, 3) := by decide +kernel
theorem dX0_helpfulWagons_6 : decode cX0_helpfulWagons 6 = .ok (.aload_n 0, 1) := by decide +kernel
theorem dX0_helpfulWagons_7 : decode cX0_helpfulWagons 7 = .ok (.getfield 12, 3) := by decide +kernel
theorem dX0_helpfulWagons_10 : decode cX0_helpfulWagons 10 = .ok (.getfield 37, 3) := by decide +kernel
theorem dX0_helpfulWagons_13 : decode cX0_helpfulWagons 13 = .ok (.istore 6, 2) := by decide +kernel
theorem dX0_helpfulWagons_15 : decode cX0_helpfulWagons 15 = .ok (.iconst 0, 1) := by decide +kernel
theorem dX0_helpfulWagons_16 : decode cX0_helpfulWagons 16 = .ok (.istore 7, 2) := by decide +kernel
theorem dX0_helpfulWagons_18 : decode cX0_helpfulWagons 18 = .ok (.iconst 0, 1) := by decide +kernel
theorem dX0_helpfulWagons_19 : decode cX0_helpfulWagons 19 = .ok (.istore 8, 2) := by decide +kernel
theorem dX0_helpfulWagons_21 : decode cX0_helpfulWagons 21 = .ok (.iload 8, 2) := by decide +kernel
theorem dX0_helpfulWagons_23 : decode cX0_helpfulWagons 23 = .ok (.iload 6, 2) := by decide +kernel
theorem dX0_helpfulWagons_25 : decode cX0_helpfulWagons 25 = .ok (.if_icmp .ge 47, 3) := by decide +kernel
theorem dX0_helpfulWagons_28 : decode cX0_helpfulWagons 28 = .ok (.aload_n 0, 1) := by decide +kernel
theorem dX0_helpfulWagons_29 : decode cX0_helpfulWagons 29 = .ok (.aload_n 1, 1) := by decide +kernel
theorem dX0_helpfulWagons_30 : decode cX0_helpfulWagons 30 = .ok (.iload_n 2, 1) := by decide +kernel
theorem dX0_helpfulWagons_31 : decode cX0_helpfulWagons 31 = .ok (.invokevirtual 73, 3) := by decide +kernel
theorem dX0_helpfulWagons_34 : decode cX0_helpfulWagons 34 = .ok (.aload_n 0, 1) := by decide +kernel
theorem dX0_helpfulWagons_35 : decode cX0_helpfulWagons 35 = .ok (.getfield 12, 3) := by decide +kernel
theorem dX0_helpfulWagons_38 : decode cX0_helpfulWagons 38 = .ok (.iload 8, 2) := by decide +kernel
theorem dX0_helpfulWagons_40 : decode cX0_helpfulWagons 40 = .ok (.iload 5, 2) := by decide +kernel
theorem dX0_helpfulWagons_42 : decode cX0_helpfulWagons 42 = .ok (.invokevirtual 89, 3) := by decide +kernel
theorem dX0_helpfulWagons_45 : decode cX0_helpfulWagons 45 = .ok (.aload_n 0, 1) := by decide +kernel
theorem dX0_helpfulWagons_46 : decode cX0_helpfulWagons 46 = .ok (.aload_n 1, 1) := by decide +kernel
theorem dX0_helpfulWagons_47 : decode cX0_helpfulWagons 47 = .ok (.iload_n 2, 1) := by decide +kernel
theorem dX0_helpfulWagons_48 : decode cX0_helpfulWagons 48 = .ok (.iload_n 3, 1) := by decide +kernel
theorem dX0_helpfulWagons_49 : decode cX0_helpfulWagons 49 = .ok (.iload 4, 2) := by decide +kernel
theorem dX0_helpfulWagons_51 : decode cX0_helpfulWagons 51 = .ok (.invokevirtual 93, 3) := by decide +kernel
theorem dX0_helpfulWagons_54 : decode cX0_helpfulWagons 54 = .ok (.ifCond .eq 12, 3) := by decide +kernel
theorem dX0_helpfulWagons_57 : decode cX0_helpfulWagons 57 = .ok (.iload 7, 2) := by decide +kernel
theorem dX0_helpfulWagons_59 : decode cX0_helpfulWagons 59 = .ok (.iconst 1, 1) := by decide +kernel
theorem dX0_helpfulWagons_60 : decode cX0_helpfulWagons 60 = .ok (.iload 8, 2) := by decide +kernel
theorem dX0_helpfulWagons_62 : decode cX0_helpfulWagons 62 = .ok (.ishl, 1) := by decide +kernel
theorem dX0_helpfulWagons_63 : decode cX0_helpfulWagons 63 = .ok (.ior, 1) := by decide +kernel
theorem dX0_helpfulWagons_64 : decode cX0_helpfulWagons 64 = .ok (.istore 7, 2) := by decide +kernel
theorem dX0_helpfulWagons_66 : decode cX0_helpfulWagons 66 = .ok (.iinc 8 1, 3) := by decide +kernel
theorem dX0_helpfulWagons_69 : decode cX0_helpfulWagons 69 = .ok (.goto (-48), 3) := by decide +kernel
theorem dX0_helpfulWagons_72 : decode cX0_helpfulWagons 72 = .ok (.iload 7, 2) := by decide +kernel
theorem dX0_helpfulWagons_74 : decode cX0_helpfulWagons 74 = .ok (.ireturn, 1) := by decide +kernel
theorem dX0_comesUnbroken_0 : decode cX0_comesUnbroken 0 = .ok (.iload 4, 2) := by decide +kernel
theorem dX0_comesUnbroken_2 : decode cX0_comesUnbroken 2 = .ok (.istore 5, 2) := by decide +kernel
theorem dX0_comesUnbroken_4 : decode cX0_comesUnbroken 4 = .ok (.iload_n 2, 1) := by decide +kernel
theorem dX0_comesUnbroken_5 : decode cX0_comesUnbroken 5 = .ok (.iconst 1, 1) := by decide +kernel
theorem dX0_comesUnbroken_6 : decode cX0_comesUnbroken 6 = .ok (.iadd, 1) := by decide +kernel
theorem dX0_comesUnbroken_7 : decode cX0_comesUnbroken 7 = .ok (.istore 6, 2) := by decide +kernel
theorem dX0_comesUnbroken_9 : decode cX0_comesUnbroken 9 = .ok (.iload 6, 2) := by decide +kernel
theorem dX0_comesUnbroken_11 : decode cX0_comesUnbroken 11 = .ok (.iload_n 3, 1) := by decide +kernel
theorem dX0_comesUnbroken_12 : decode cX0_comesUnbroken 12 = .ok (.if_icmp .gt 46, 3) := by decide +kernel
theorem dX0_comesUnbroken_15 : decode cX0_comesUnbroken 15 = .ok (.iload 5, 2) := by decide +kernel
theorem dX0_comesUnbroken_17 : decode cX0_comesUnbroken 17 = .ok (.aload_n 0, 1) := by decide +kernel
theorem dX0_comesUnbroken_18 : decode cX0_comesUnbroken 18 = .ok (.iload 6, 2) := by decide +kernel
theorem dX0_comesUnbroken_20 : decode cX0_comesUnbroken 20 = .ok (.aload_n 1, 1) := by decide +kernel
theorem dX0_comesUnbroken_21 : decode cX0_comesUnbroken 21 = .ok (.invokevirtual 76, 3) := by decide +kernel
theorem dX0_comesUnbroken_24 : decode cX0_comesUnbroken 24 = .ok (.iadd, 1) := by decide +kernel
theorem dX0_comesUnbroken_25 : decode cX0_comesUnbroken 25 = .ok (.istore 5, 2) := by decide +kernel
theorem dX0_comesUnbroken_27 : decode cX0_comesUnbroken 27 = .ok (.iload 5, 2) := by decide +kernel
theorem dX0_comesUnbroken_29 : decode cX0_comesUnbroken 29 = .ok (.ifCond .lt 13, 3) := by decide +kernel
theorem dX0_comesUnbroken_32 : decode cX0_comesUnbroken 32 = .ok (.aload_n 0, 1) := by decide +kernel
theorem dX0_comesUnbroken_33 : decode cX0_comesUnbroken 33 = .ok (.getfield 12, 3) := by decide +kernel
theorem dX0_comesUnbroken_36 : decode cX0_comesUnbroken 36 = .ok (.invokevirtual 97, 3) := by decide +kernel
theorem dX0_comesUnbroken_39 : decode cX0_comesUnbroken 39 = .ok (.ifCond .eq 5, 3) := by decide +kernel
theorem dX0_comesUnbroken_42 : decode cX0_comesUnbroken 42 = .ok (.iconst 0, 1) := by decide +kernel
theorem dX0_comesUnbroken_43 : decode cX0_comesUnbroken 43 = .ok (.ireturn, 1) := by decide +kernel
theorem dX0_comesUnbroken_44 : decode cX0_comesUnbroken 44 = .ok (.aload_n 0, 1) := by decide +kernel
theorem dX0_comesUnbroken_45 : decode cX0_comesUnbroken 45 = .ok (.getfield 12, 3) := by decide +kernel
theorem dX0_comesUnbroken_48 : decode cX0_comesUnbroken 48 = .ok (.aload_n 1, 1) := by decide +kernel
theorem dX0_comesUnbroken_49 : decode cX0_comesUnbroken 49 = .ok (.invokevirtual 52, 3) := by decide +kernel
theorem dX0_comesUnbroken_52 : decode cX0_comesUnbroken 52 = .ok (.iinc 6 1, 3) := by decide +kernel
theorem dX0_comesUnbroken_55 : decode cX0_comesUnbroken 55 = .ok (.goto (-46), 3) := by decide +kernel
theorem dX0_comesUnbroken_58 : decode cX0_comesUnbroken 58 = .ok (.iconst 1, 1) := by decide +kernel
theorem dX0_comesUnbroken_59 : decode cX0_comesUnbroken 59 = .ok (.ireturn, 1) := by decide +kernel
theorem dX0_wagonsAtPlatform_0 : decode cX0_wagonsAtPlatform 0 = .ok (.aload_n 0, 1) := by decide +kernel
theorem dX0_wagonsAtPlatform_1 : decode cX0_wagonsAtPlatform 1 = .ok (.getfield 12, 3) := by decide +kernel
theorem dX0_wagonsAtPlatform_4 : decode cX0_wagonsAtPlatform 4 = .ok (.aload_n 1, 1) := by decide +kernel
theorem dX0_wagonsAtPlatform_5 : decode cX0_wagonsAtPlatform 5 = .ok (.aload_n 1, 1) := by decide +kernel
theorem dX0_wagonsAtPlatform_6 : decode cX0_wagonsAtPlatform 6 = .ok (.iload_n 2, 1) := by decide +kernel
theorem dX0_wagonsAtPlatform_7 : decode cX0_wagonsAtPlatform 7 = .ok (.invokevirtual 101, 3) := by decide +kernel
theorem dX0_wagonsAtPlatform_10 : decode cX0_wagonsAtPlatform 10 = .ok (.invokevirtual 25, 3) := by decide +kernel
theorem dX0_wagonsAtPlatform_13 : decode cX0_wagonsAtPlatform 13 = .ok (.iconst 1, 1) := by decide +kernel
theorem dX0_wagonsAtPlatform_14 : decode cX0_wagonsAtPlatform 14 = .ok (.istore_n 3, 1) := by decide +kernel
theorem dX0_wagonsAtPlatform_15 : decode cX0_wagonsAtPlatform 15 = .ok (.iconst 0, 1) := by decide +kernel
theorem dX0_wagonsAtPlatform_16 : decode cX0_wagonsAtPlatform 16 = .ok (.istore 4, 2) := by decide +kernel
theorem dX0_wagonsAtPlatform_18 : decode cX0_wagonsAtPlatform 18 = .ok (.iload 4, 2) := by decide +kernel
theorem dX0_wagonsAtPlatform_20 : decode cX0_wagonsAtPlatform 20 = .ok (.aload_n 0, 1) := by decide +kernel
theorem dX0_wagonsAtPlatform_21 : decode cX0_wagonsAtPlatform 21 = .ok (.getfield 12, 3) := by decide +kernel
theorem dX0_wagonsAtPlatform_24 : decode cX0_wagonsAtPlatform 24 = .ok (.getfield 37, 3) := by decide +kernel
theorem dX0_wagonsAtPlatform_27 : decode cX0_wagonsAtPlatform 27 = .ok (.if_icmp .ge 34, 3) := by decide +kernel
theorem dX0_wagonsAtPlatform_30 : decode cX0_wagonsAtPlatform 30 = .ok (.iload_n 3, 1) := by decide +kernel
theorem dX0_wagonsAtPlatform_31 : decode cX0_wagonsAtPlatform 31 = .ok (.aload_n 0, 1) := by decide +kernel
theorem dX0_wagonsAtPlatform_32 : decode cX0_wagonsAtPlatform 32 = .ok (.getfield 12, 3) := by decide +kernel
theorem dX0_wagonsAtPlatform_35 : decode cX0_wagonsAtPlatform 35 = .ok (.getfield 105, 3) := by decide +kernel
theorem dX0_wagonsAtPlatform_38 : decode cX0_wagonsAtPlatform 38 = .ok (.iload 4, 2) := by decide +kernel
theorem dX0_wagonsAtPlatform_40 : decode cX0_wagonsAtPlatform 40 = .ok (.iaload, 1) := by decide +kernel
theorem dX0_wagonsAtPlatform_41 : decode cX0_wagonsAtPlatform 41 = .ok (.iadd, 1) := by decide +kernel
theorem dX0_wagonsAtPlatform_42 : decode cX0_wagonsAtPlatform 42 = .ok (.istore_n 3, 1) := by decide +kernel
theorem dX0_wagonsAtPlatform_43 : decode cX0_wagonsAtPlatform 43 = .ok (.iload_n 3, 1) := by decide +kernel
theorem dX0_wagonsAtPlatform_44 : decode cX0_wagonsAtPlatform 44 = .ok (.aload_n 1, 1) := by decide +kernel
theorem dX0_wagonsAtPlatform_45 : decode cX0_wagonsAtPlatform 45 = .ok (.iload_n 2, 1) := by decide +kernel
theorem dX0_wagonsAtPlatform_46 : decode cX0_wagonsAtPlatform 46 = .ok (.invokevirtual 108, 3) := by decide +kernel
theorem dX0_wagonsAtPlatform_49 : decode cX0_wagonsAtPlatform 49 = .ok (.if_icmp .le 6, 3) := by decide +kernel
theorem dX0_wagonsAtPlatform_52 : decode cX0_wagonsAtPlatform 52 = .ok (.iload 4, 2) := by decide +kernel
theorem dX0_wagonsAtPlatform_54 : decode cX0_wagonsAtPlatform 54 = .ok (.ireturn, 1) := by decide +kernel
theorem dX0_wagonsAtPlatform_55 : decode cX0_wagonsAtPlatform 55 = .ok (.iinc 4 1, 3) := by decide +kernel
theorem dX0_wagonsAtPlatform_58 : decode cX0_wagonsAtPlatform 58 = .ok (.goto (-40), 3) := by decide +kernel
theorem dX0_wagonsAtPlatform_61 : decode cX0_wagonsAtPlatform 61 = .ok (.aload_n 0, 1) := by decide +kernel
theorem dX0_wagonsAtPlatform_62 : decode cX0_wagonsAtPlatform 62 = .ok (.getfield 12, 3) := by decide +kernel
theorem dX0_wagonsAtPlatform_65 : decode cX0_wagonsAtPlatform 65 = .ok (.getfield 37, 3) := by decide +kernel
theorem dX0_wagonsAtPlatform_68 : decode cX0_wagonsAtPlatform 68 = .ok (.ireturn, 1) := by decide +kernel
theorem dX0_roomNeeded_0 : decode cX0_roomNeeded 0 = .ok (.aload_n 0, 1) := by decide +kernel
theorem dX0_roomNeeded_1 : decode cX0_roomNeeded 1 = .ok (.getfield 12, 3) := by decide +kernel
theorem dX0_roomNeeded_4 : decode cX0_roomNeeded 4 = .ok (.aload_n 1, 1) := by decide +kernel
theorem dX0_roomNeeded_5 : decode cX0_roomNeeded 5 = .ok (.aload_n 1, 1) := by decide +kernel
theorem dX0_roomNeeded_6 : decode cX0_roomNeeded 6 = .ok (.iload_n 2, 1) := by decide +kernel
theorem dX0_roomNeeded_7 : decode cX0_roomNeeded 7 = .ok (.invokevirtual 101, 3) := by decide +kernel
theorem dX0_roomNeeded_10 : decode cX0_roomNeeded 10 = .ok (.invokevirtual 25, 3) := by decide +kernel
theorem dX0_roomNeeded_13 : decode cX0_roomNeeded 13 = .ok (.aload_n 0, 1) := by decide +kernel
theorem dX0_roomNeeded_14 : decode cX0_roomNeeded 14 = .ok (.getfield 12, 3) := by decide +kernel
theorem dX0_roomNeeded_17 : decode cX0_roomNeeded 17 = .ok (.getfield 37, 3) := by decide +kernel
theorem dX0_roomNeeded_20 : decode cX0_roomNeeded 20 = .ok (.ifCond .ne 7, 3) := by decide +kernel
theorem dX0_roomNeeded_23 : decode cX0_roomNeeded 23 = .ok (.iconst 0, 1) := by decide +kernel
theorem dX0_roomNeeded_24 : decode cX0_roomNeeded 24 = .ok (.goto 12, 3) := by decide +kernel
theorem dX0_roomNeeded_27 : decode cX0_roomNeeded 27 = .ok (.iconst 1, 1) := by decide +kernel
theorem dX0_roomNeeded_28 : decode cX0_roomNeeded 28 = .ok (.aload_n 0, 1) := by decide +kernel
theorem dX0_roomNeeded_29 : decode cX0_roomNeeded 29 = .ok (.getfield 12, 3) := by decide +kernel
theorem dX0_roomNeeded_32 : decode cX0_roomNeeded 32 = .ok (.getfield 67, 3) := by decide +kernel
theorem dX0_roomNeeded_35 : decode cX0_roomNeeded 35 = .ok (.iadd, 1) := by decide +kernel
theorem dX0_roomNeeded_36 : decode cX0_roomNeeded 36 = .ok (.ireturn, 1) := by decide +kernel
theorem dX0_hasWagon_0 : decode cX0_hasWagon 0 = .ok (.aload_n 0, 1) := by decide +kernel
theorem dX0_hasWagon_1 : decode cX0_hasWagon 1 = .ok (.aload_n 1, 1) := by decide +kernel
theorem dX0_hasWagon_2 : decode cX0_hasWagon 2 = .ok (.iload_n 3, 1) := by decide +kernel
theorem dX0_hasWagon_3 : decode cX0_hasWagon 3 = .ok (.invokevirtual 73, 3) := by decide +kernel
theorem dX0_hasWagon_6 : decode cX0_hasWagon 6 = .ok (.iload_n 2, 1) := by decide +kernel
theorem dX0_hasWagon_7 : decode cX0_hasWagon 7 = .ok (.ifCond .lt 18, 3) := by decide +kernel
theorem dX0_hasWagon_10 : decode cX0_hasWagon 10 = .ok (.iload_n 2, 1) := by decide +kernel
theorem dX0_hasWagon_11 : decode cX0_hasWagon 11 = .ok (.aload_n 0, 1) := by decide +kernel
theorem dX0_hasWagon_12 : decode cX0_hasWagon 12 = .ok (.getfield 12, 3) := by decide +kernel
theorem dX0_hasWagon_15 : decode cX0_hasWagon 15 = .ok (.getfield 37, 3) := by decide +kernel
theorem dX0_hasWagon_18 : decode cX0_hasWagon 18 = .ok (.if_icmp .ge 7, 3) := by decide +kernel
theorem dX0_hasWagon_21 : decode cX0_hasWagon 21 = .ok (.iconst 1, 1) := by decide +kernel
theorem dX0_hasWagon_22 : decode cX0_hasWagon 22 = .ok (.goto 4, 3) := by decide +kernel
theorem dX0_hasWagon_25 : decode cX0_hasWagon 25 = .ok (.iconst 0, 1) := by decide +kernel
theorem dX0_hasWagon_26 : decode cX0_hasWagon 26 = .ok (.ireturn, 1) := by decide +kernel
theorem dX0_minutes_0 : decode cX0_minutes 0 = .ok (.aload_n 0, 1) := by decide +kernel
theorem dX0_minutes_1 : decode cX0_minutes 1 = .ok (.aload_n 1, 1) := by decide +kernel
theorem dX0_minutes_2 : decode cX0_minutes 2 = .ok (.iload 4, 2) := by decide +kernel
theorem dX0_minutes_4 : decode cX0_minutes 4 = .ok (.invokevirtual 73, 3) := by decide +kernel
theorem dX0_minutes_7 : decode cX0_minutes 7 = .ok (.iload_n 2, 1) := by decide +kernel
theorem dX0_minutes_8 : decode cX0_minutes 8 = .ok (.ifCond .lt 14, 3) := by decide +kernel
theorem dX0_minutes_11 : decode cX0_minutes 11 = .ok (.iload_n 2, 1) := by decide +kernel
theorem dX0_minutes_12 : decode cX0_minutes 12 = .ok (.aload_n 0, 1) := by decide +kernel
theorem dX0_minutes_13 : decode cX0_minutes 13 = .ok (.getfield 12, 3) := by decide +kernel
theorem dX0_minutes_16 : decode cX0_minutes 16 = .ok (.getfield 37, 3) := by decide +kernel
theorem dX0_minutes_19 : decode cX0_minutes 19 = .ok (.if_icmp .lt 5, 3) := by decide +kernel
theorem dX0_minutes_22 : decode cX0_minutes 22 = .ok (.iconst (-1), 1) := by decide +kernel
theorem dX0_minutes_23 : decode cX0_minutes 23 = .ok (.ireturn, 1) := by decide +kernel
theorem dX0_minutes_24 : decode cX0_minutes 24 = .ok (.aload_n 0, 1) := by decide +kernel
theorem dX0_minutes_25 : decode cX0_minutes 25 = .ok (.iload_n 2, 1) := by decide +kernel
theorem dX0_minutes_26 : decode cX0_minutes 26 = .ok (.putfield 111, 3) := by decide +kernel
theorem dX0_minutes_29 : decode cX0_minutes 29 = .ok (.aload_n 0, 1) := by decide +kernel
theorem dX0_minutes_30 : decode cX0_minutes 30 = .ok (.iload_n 2, 1) := by decide +kernel
theorem dX0_minutes_31 : decode cX0_minutes 31 = .ok (.iload_n 3, 1) := by decide +kernel
theorem dX0_minutes_32 : decode cX0_minutes 32 = .ok (.if_icmp .ge 15, 3) := by decide +kernel
theorem dX0_minutes_35 : decode cX0_minutes 35 = .ok (.aload_n 0, 1) := by decide +kernel
theorem dX0_minutes_36 : decode cX0_minutes 36 = .ok (.getfield 12, 3) := by decide +kernel
theorem dX0_minutes_39 : decode cX0_minutes 39 = .ok (.getfield 105, 3) := by decide +kernel
theorem dX0_minutes_42 : decode cX0_minutes 42 = .ok (.iload_n 2, 1) := by decide +kernel
theorem dX0_minutes_43 : decode cX0_minutes 43 = .ok (.iaload, 1) := by decide +kernel
theorem dX0_minutes_44 : decode cX0_minutes 44 = .ok (.goto 4, 3) := by decide +kernel
theorem dX0_minutes_47 : decode cX0_minutes 47 = .ok (.iconst 0, 1) := by decide +kernel
theorem dX0_minutes_48 : decode cX0_minutes 48 = .ok (.putfield 114, 3) := by decide +kernel
theorem dX0_minutes_51 : decode cX0_minutes 51 = .ok (.iload 4, 2) := by decide +kernel
theorem dX0_minutes_53 : decode cX0_minutes 53 = .ok (.istore 5, 2) := by decide +kernel
theorem dX0_minutes_55 : decode cX0_minutes 55 = .ok (.iload 5, 2) := by decide +kernel
theorem dX0_minutes_57 : decode cX0_minutes 57 = .ok (.aload_n 1, 1) := by decide +kernel
theorem dX0_minutes_58 : decode cX0_minutes 58 = .ok (.getfield 62, 3) := by decide +kernel
theorem dX0_minutes_61 : decode cX0_minutes 61 = .ok (.if_icmp .ge 55, 3) := by decide +kernel
theorem dX0_minutes_64 : decode cX0_minutes 64 = .ok (.aload_n 0, 1) := by decide +kernel
theorem dX0_minutes_65 : decode cX0_minutes 65 = .ok (.getfield 12, 3) := by decide +kernel
theorem dX0_minutes_68 : decode cX0_minutes 68 = .ok (.iload 5, 2) := by decide +kernel
theorem dX0_minutes_70 : decode cX0_minutes 70 = .ok (.putfield 29, 3) := by decide +kernel
theorem dX0_minutes_73 : decode cX0_minutes 73 = .ok (.aload_n 0, 1) := by decide +kernel
theorem dX0_minutes_74 : decode cX0_minutes 74 = .ok (.getfield 12, 3) := by decide +kernel
theorem dX0_minutes_77 : decode cX0_minutes 77 = .ok (.aload_n 1, 1) := by decide +kernel
theorem dX0_minutes_78 : decode cX0_minutes 78 = .ok (.invokevirtual 52, 3) := by decide +kernel
theorem dX0_minutes_81 : decode cX0_minutes 81 = .ok (.aload_n 0, 1) := by decide +kernel
theorem dX0_minutes_82 : decode cX0_minutes 82 = .ok (.getfield 12, 3) := by decide +kernel
theorem dX0_minutes_85 : decode cX0_minutes 85 = .ok (.aload_n 1, 1) := by decide +kernel
theorem dX0_minutes_86 : decode cX0_minutes 86 = .ok (.invokevirtual 33, 3) := by decide +kernel
theorem dX0_minutes_89 : decode cX0_minutes 89 = .ok (.pop, 1) := by decide +kernel
theorem dX0_minutes_90 : decode cX0_minutes 90 = .ok (.aload_n 0, 1) := by decide +kernel
theorem dX0_minutes_91 : decode cX0_minutes 91 = .ok (.aload_n 1, 1) := by decide +kernel
theorem dX0_minutes_92 : decode cX0_minutes 92 = .ok (.getfield 117, 3) := by decide +kernel
theorem dX0_minutes_95 : decode cX0_minutes 95 = .ok (.iload_n 3, 1) := by decide +kernel
theorem dX0_minutes_96 : decode cX0_minutes 96 = .ok (.invokevirtual 120, 3) := by decide +kernel
theorem dX0_minutes_99 : decode cX0_minutes 99 = .ok (.ifCond .eq 11, 3) := by decide +kernel
theorem dX0_minutes_102 : decode cX0_minutes 102 = .ok (.iload 5, 2) := by decide +kernel
theorem dX0_minutes_104 : decode cX0_minutes 104 = .ok (.iload 4, 2) := by decide +kernel
theorem dX0_minutes_106 : decode cX0_minutes 106 = .ok (.isub, 1) := by decide +kernel
theorem dX0_minutes_107 : decode cX0_minutes 107 = .ok (.iconst 1, 1) := by decide +kernel
theorem dX0_minutes_108 : decode cX0_minutes 108 = .ok (.iadd, 1) := by decide +kernel
theorem dX0_minutes_109 : decode cX0_minutes 109 = .ok (.ireturn, 1) := by decide +kernel
theorem dX0_minutes_110 : decode cX0_minutes 110 = .ok (.iinc 5 1, 3) := by decide +kernel
theorem dX0_minutes_113 : decode cX0_minutes 113 = .ok (.goto (-58), 3) := by decide +kernel
theorem dX0_minutes_116 : decode cX0_minutes 116 = .ok (.iconst (-1), 1) := by decide +kernel
theorem dX0_minutes_117 : decode cX0_minutes 117 = .ok (.ireturn, 1) := by decide +kernel
theorem dX0_cookComes_0 : decode cX0_cookComes 0 = .ok (.iload_n 1, 1) := by decide +kernel
theorem dX0_cookComes_1 : decode cX0_cookComes 1 = .ok (.istore_n 3, 1) := by decide +kernel
theorem dX0_cookComes_2 : decode cX0_cookComes 2 = .ok (.iconst 0, 1) := by decide +kernel
theorem dX0_cookComes_3 : decode cX0_cookComes 3 = .ok (.istore 4, 2) := by decide +kernel
theorem dX0_cookComes_5 : decode cX0_cookComes 5 = .ok (.iload 4, 2) := by decide +kernel
theorem dX0_cookComes_7 : decode cX0_cookComes 7 = .ok (.bipush 20, 2) := by decide +kernel
theorem dX0_cookComes_9 : decode cX0_cookComes 9 = .ok (.if_icmp .gt 82, 3) := by decide +kernel
theorem dX0_cookComes_12 : decode cX0_cookComes 12 = .ok (.iload_n 3, 1) := by decide +kernel
theorem dX0_cookComes_13 : decode cX0_cookComes 13 = .ok (.aload_n 0, 1) := by decide +kernel
theorem dX0_cookComes_14 : decode cX0_cookComes 14 = .ok (.getfield 114, 3) := by decide +kernel
theorem dX0_cookComes_17 : decode cX0_cookComes 17 = .ok (.invokestatic 124, 3) := by decide +kernel
theorem dX0_cookComes_20 : decode cX0_cookComes 20 = .ok (.istore 5, 2) := by decide +kernel
theorem dX0_cookComes_22 : decode cX0_cookComes 22 = .ok (.iload_n 3, 1) := by decide +kernel
theorem dX0_cookComes_23 : decode cX0_cookComes 23 = .ok (.iload 5, 2) := by decide +kernel
theorem dX0_cookComes_25 : decode cX0_cookComes 25 = .ok (.isub, 1) := by decide +kernel
theorem dX0_cookComes_26 : decode cX0_cookComes 26 = .ok (.istore_n 3, 1) := by decide +kernel
theorem dX0_cookComes_27 : decode cX0_cookComes 27 = .ok (.aload_n 0, 1) := by decide +kernel
theorem dX0_cookComes_28 : decode cX0_cookComes 28 = .ok (.dup, 1) := by decide +kernel
theorem dX0_cookComes_29 : decode cX0_cookComes 29 = .ok (.getfield 114, 3) := by decide +kernel
theorem dX0_cookComes_32 : decode cX0_cookComes 32 = .ok (.iload 5, 2) := by decide +kernel
theorem dX0_cookComes_34 : decode cX0_cookComes 34 = .ok (.isub, 1) := by decide +kernel
theorem dX0_cookComes_35 : decode cX0_cookComes 35 = .ok (.putfield 114, 3) := by decide +kernel
theorem dX0_cookComes_38 : decode cX0_cookComes 38 = .ok (.aload_n 0, 1) := by decide +kernel
theorem dX0_cookComes_39 : decode cX0_cookComes 39 = .ok (.getfield 114, 3) := by decide +kernel
theorem dX0_cookComes_42 : decode cX0_cookComes 42 = .ok (.ifCond .le 5, 3) := by decide +kernel
theorem dX0_cookComes_45 : decode cX0_cookComes 45 = .ok (.iconst 0, 1) := by decide +kernel
theorem dX0_cookComes_46 : decode cX0_cookComes 46 = .ok (.ireturn, 1) := by decide +kernel
theorem dX0_cookComes_47 : decode cX0_cookComes 47 = .ok (.aload_n 0, 1) := by decide +kernel
theorem dX0_cookComes_48 : decode cX0_cookComes 48 = .ok (.getfield 111, 3) := by decide +kernel
theorem dX0_cookComes_51 : decode cX0_cookComes 51 = .ok (.iload_n 2, 1) := by decide +kernel
theorem dX0_cookComes_52 : decode cX0_cookComes 52 = .ok (.if_icmp .ne 5, 3) := by decide +kernel
theorem dX0_cookComes_55 : decode cX0_cookComes 55 = .ok (.iconst 1, 1) := by decide +kernel
theorem dX0_cookComes_56 : decode cX0_cookComes 56 = .ok (.ireturn, 1) := by decide +kernel
theorem dX0_cookComes_57 : decode cX0_cookComes 57 = .ok (.aload_n 0, 1) := by decide +kernel
theorem dX0_cookComes_58 : decode cX0_cookComes 58 = .ok (.getfield 111, 3) := by decide +kernel
theorem dX0_cookComes_61 : decode cX0_cookComes 61 = .ok (.iload_n 2, 1) := by decide +kernel
theorem dX0_cookComes_62 : decode cX0_cookComes 62 = .ok (.if_icmp .ge 14, 3) := by decide +kernel
theorem dX0_cookComes_65 : decode cX0_cookComes 65 = .ok (.aload_n 0, 1) := by decide +kernel
theorem dX0_cookComes_66 : decode cX0_cookComes 66 = .ok (.iload_n 2, 1) := by decide +kernel
theorem dX0_cookComes_67 : decode cX0_cookComes 67 = .ok (.invokevirtual 127, 3) := by decide +kernel
theorem dX0_cookComes_70 : decode cX0_cookComes 70 = .ok (.ifCond .eq 13, 3) := by decide +kernel
theorem dX0_cookComes_73 : decode cX0_cookComes 73 = .ok (.goto 12, 3) := by decide +kernel
theorem dX0_cookComes_76 : decode cX0_cookComes 76 = .ok (.aload_n 0, 1) := by decide +kernel
theorem dX0_cookComes_77 : decode cX0_cookComes 77 = .ok (.invokevirtual 131, 3) := by decide +kernel
theorem dX0_cookComes_80 : decode cX0_cookComes 80 = .ok (.ifCond .ne 5, 3) := by decide +kernel
theorem dX0_cookComes_83 : decode cX0_cookComes 83 = .ok (.iconst 0, 1) := by decide +kernel
theorem dX0_cookComes_84 : decode cX0_cookComes 84 = .ok (.ireturn, 1) := by decide +kernel
theorem dX0_cookComes_85 : decode cX0_cookComes 85 = .ok (.iinc 4 1, 3) := by decide +kernel
theorem dX0_cookComes_88 : decode cX0_cookComes 88 = .ok (.goto (-83), 3) := by decide +kernel
theorem dX0_cookComes_91 : decode cX0_cookComes 91 = .ok (.iconst 0, 1) := by decide +kernel
theorem dX0_cookComes_92 : decode cX0_cookComes 92 = .ok (.ireturn, 1) := by decide +kernel
theorem dX0_cookPassesBehind_0 : decode cX0_cookPassesBehind 0 = .ok (.aload_n 0, 1) := by decide +kernel
theorem dX0_cookPassesBehind_1 : decode cX0_cookPassesBehind 1 = .ok (.aload_n 0, 1) := by decide +kernel
theorem dX0_cookPassesBehind_2 : decode cX0_cookPassesBehind 2 = .ok (.getfield 111, 3) := by decide +kernel
theorem dX0_cookPassesBehind_5 : decode cX0_cookPassesBehind 5 = .ok (.iconst 1, 1) := by decide +kernel
theorem dX0_cookPassesBehind_6 : decode cX0_cookPassesBehind 6 = .ok (.iadd, 1) := by decide +kernel
theorem dX0_cookPassesBehind_7 : decode cX0_cookPassesBehind 7 = .ok (.invokevirtual 134, 3) := by decide +kernel
theorem dX0_cookPassesBehind_10 : decode cX0_cookPassesBehind 10 = .ok (.ifCond .ne 5, 3) := by decide +kernel
theorem dX0_cookPassesBehind_13 : decode cX0_cookPassesBehind 13 = .ok (.iconst 0, 1) := by decide +kernel
theorem dX0_cookPassesBehind_14 : decode cX0_cookPassesBehind 14 = .ok (.ireturn, 1) := by decide +kernel
theorem dX0_cookPassesBehind_15 : decode cX0_cookPassesBehind 15 = .ok (.aload_n 0, 1) := by decide +kernel
theorem dX0_cookPassesBehind_16 : decode cX0_cookPassesBehind 16 = .ok (.dup, 1) := by decide +kernel
theorem dX0_cookPassesBehind_17 : decode cX0_cookPassesBehind 17 = .ok (.getfield 111, 3) := by decide +kernel
theorem dX0_cookPassesBehind_20 : decode cX0_cookPassesBehind 20 = .ok (.iconst 1, 1) := by decide +kernel
theorem dX0_cookPassesBehind_21 : decode cX0_cookPassesBehind 21 = .ok (.iadd, 1) := by decide +kernel
theorem dX0_cookPassesBehind_22 : decode cX0_cookPassesBehind 22 = .ok (.putfield 111, 3) := by decide +kernel
theorem dX0_cookPassesBehind_25 : decode cX0_cookPassesBehind 25 = .ok (.aload_n 0, 1) := by decide +kernel
theorem dX0_cookPassesBehind_26 : decode cX0_cookPassesBehind 26 = .ok (.aload_n 0, 1) := by decide +kernel
theorem dX0_cookPassesBehind_27 : decode cX0_cookPassesBehind 27 = .ok (.getfield 111, 3) := by decide +kernel
theorem dX0_cookPassesBehind_30 : decode cX0_cookPassesBehind 30 = .ok (.iload_n 1, 1) := by decide +kernel
theorem dX0_cookPassesBehind_31 : decode cX0_cookPassesBehind 31 = .ok (.if_icmp .ne 7, 3) := by decide +kernel
theorem dX0_cookPassesBehind_34 : decode cX0_cookPassesBehind 34 = .ok (.iconst 0, 1) := by decide +kernel
theorem dX0_cookPassesBehind_35 : decode cX0_cookPassesBehind 35 = .ok (.goto 15, 3) := by decide +kernel
theorem dX0_cookPassesBehind_38 : decode cX0_cookPassesBehind 38 = .ok (.aload_n 0, 1) := by decide +kernel
theorem dX0_cookPassesBehind_39 : decode cX0_cookPassesBehind 39 = .ok (.getfield 12, 3) := by decide +kernel
theorem dX0_cookPassesBehind_42 : decode cX0_cookPassesBehind 42 = .ok (.getfield 105, 3) := by decide +kernel
theorem dX0_cookPassesBehind_45 : decode cX0_cookPassesBehind 45 = .ok (.aload_n 0, 1) := by decide +kernel
theorem dX0_cookPassesBehind_46 : decode cX0_cookPassesBehind 46 = .ok (.getfield 111, 3) := by decide +kernel
theorem dX0_cookPassesBehind_49 : decode cX0_cookPassesBehind 49 = .ok (.iaload, 1) := by decide +kernel
theorem dX0_cookPassesBehind_50 : decode cX0_cookPassesBehind 50 = .ok (.putfield 114, 3) := by decide +kernel
theorem dX0_cookPassesBehind_53 : decode cX0_cookPassesBehind 53 = .ok (.iconst 1, 1) := by decide +kernel
theorem dX0_cookPassesBehind_54 : decode cX0_cookPassesBehind 54 = .ok (.ireturn, 1) := by decide +kernel
theorem dX0_cookPassesAhead_0 : decode cX0_cookPassesAhead 0 = .ok (.aload_n 0, 1) := by decide +kernel
theorem dX0_cookPassesAhead_1 : decode cX0_cookPassesAhead 1 = .ok (.aload_n 0, 1) := by decide +kernel
theorem dX0_cookPassesAhead_2 : decode cX0_cookPassesAhead 2 = .ok (.getfield 111, 3) := by decide +kernel
theorem dX0_cookPassesAhead_5 : decode cX0_cookPassesAhead 5 = .ok (.invokevirtual 134, 3) := by decide +kernel
theorem dX0_cookPassesAhead_8 : decode cX0_cookPassesAhead 8 = .ok (.ifCond .ne 5, 3) := by decide +kernel
theorem dX0_cookPassesAhead_11 : decode cX0_cookPassesAhead 11 = .ok (.iconst 0, 1) := by decide +kernel
theorem dX0_cookPassesAhead_12 : decode cX0_cookPassesAhead 12 = .ok (.ireturn, 1) := by decide +kernel
theorem dX0_cookPassesAhead_13 : decode cX0_cookPassesAhead 13 = .ok (.aload_n 0, 1) := by decide +kernel
theorem dX0_cookPassesAhead_14 : decode cX0_cookPassesAhead 14 = .ok (.dup, 1) := by decide +kernel
theorem dX0_cookPassesAhead_15 : decode cX0_cookPassesAhead 15 = .ok (.getfield 111, 3) := by decide +kernel
theorem dX0_cookPassesAhead_18 : decode cX0_cookPassesAhead 18 = .ok (.iconst 1, 1) := by decide +kernel
theorem dX0_cookPassesAhead_19 : decode cX0_cookPassesAhead 19 = .ok (.isub, 1) := by decide +kernel
theorem dX0_cookPassesAhead_20 : decode cX0_cookPassesAhead 20 = .ok (.putfield 111, 3) := by decide +kernel
theorem dX0_cookPassesAhead_23 : decode cX0_cookPassesAhead 23 = .ok (.aload_n 0, 1) := by decide +kernel
theorem dX0_cookPassesAhead_24 : decode cX0_cookPassesAhead 24 = .ok (.aload_n 0, 1) := by decide +kernel
theorem dX0_cookPassesAhead_25 : decode cX0_cookPassesAhead 25 = .ok (.getfield 12, 3) := by decide +kernel
theorem dX0_cookPassesAhead_28 : decode cX0_cookPassesAhead 28 = .ok (.getfield 105, 3) := by decide +kernel
theorem dX0_cookPassesAhead_31 : decode cX0_cookPassesAhead 31 = .ok (.aload_n 0, 1) := by decide +kernel
theorem dX0_cookPassesAhead_32 : decode cX0_cookPassesAhead 32 = .ok (.getfield 111, 3) := by decide +kernel
theorem dX0_cookPassesAhead_35 : decode cX0_cookPassesAhead 35 = .ok (.iaload, 1) := by decide +kernel
theorem dX0_cookPassesAhead_36 : decode cX0_cookPassesAhead 36 = .ok (.putfield 114, 3) := by decide +kernel
theorem dX0_cookPassesAhead_39 : decode cX0_cookPassesAhead 39 = .ok (.iconst 1, 1) := by decide +kernel
theorem dX0_cookPassesAhead_40 : decode cX0_cookPassesAhead 40 = .ok (.ireturn, 1) := by decide +kernel
theorem dX0_canPass_0 : decode cX0_canPass 0 = .ok (.iload_n 1, 1) := by decide +kernel
theorem dX0_canPass_1 : decode cX0_canPass 1 = .ok (.ifCond .le 41, 3) := by decide +kernel
theorem dX0_canPass_4 : decode cX0_canPass 4 = .ok (.iload_n 1, 1) := by decide +kernel
theorem dX0_canPass_5 : decode cX0_canPass 5 = .ok (.aload_n 0, 1) := by decide +kernel
theorem dX0_canPass_6 : decode cX0_canPass 6 = .ok (.getfield 12, 3) := by decide +kernel
theorem dX0_canPass_9 : decode cX0_canPass 9 = .ok (.getfield 37, 3) := by decide +kernel
theorem dX0_canPass_12 : decode cX0_canPass 12 = .ok (.if_icmp .ge 30, 3) := by decide +kernel
theorem dX0_canPass_15 : decode cX0_canPass 15 = .ok (.aload_n 0, 1) := by decide +kernel
theorem dX0_canPass_16 : decode cX0_canPass 16 = .ok (.getfield 12, 3) := by decide +kernel
theorem dX0_canPass_19 : decode cX0_canPass 19 = .ok (.getfield 40, 3) := by decide +kernel
theorem dX0_canPass_22 : decode cX0_canPass 22 = .ok (.iload_n 1, 1) := by decide +kernel
theorem dX0_canPass_23 : decode cX0_canPass 23 = .ok (.iaload, 1) := by decide +kernel
theorem dX0_canPass_24 : decode cX0_canPass 24 = .ok (.aload_n 0, 1) := by decide +kernel
theorem dX0_canPass_25 : decode cX0_canPass 25 = .ok (.getfield 12, 3) := by decide +kernel
theorem dX0_canPass_28 : decode cX0_canPass 28 = .ok (.getfield 137, 3) := by decide +kernel
theorem dX0_canPass_31 : decode cX0_canPass 31 = .ok (.iload_n 1, 1) := by decide +kernel
theorem dX0_canPass_32 : decode cX0_canPass 32 = .ok (.iaload, 1) := by decide +kernel
theorem dX0_canPass_33 : decode cX0_canPass 33 = .ok (.iconst 2, 1) := by decide +kernel
theorem dX0_canPass_34 : decode cX0_canPass 34 = .ok (.idiv, 1) := by decide +kernel
theorem dX0_canPass_35 : decode cX0_canPass 35 = .ok (.if_icmp .gt 7, 3) := by decide +kernel
theorem dX0_canPass_38 : decode cX0_canPass 38 = .ok (.iconst 1, 1) := by decide +kernel
theorem dX0_canPass_39 : decode cX0_canPass 39 = .ok (.goto 4, 3) := by decide +kernel
theorem dX0_canPass_42 : decode cX0_canPass 42 = .ok (.iconst 0, 1) := by decide +kernel
theorem dX0_canPass_43 : decode cX0_canPass 43 = .ok (.ireturn, 1) := by decide +kernel
theorem dX0_loadAll_0 : decode cX0_loadAll 0 = .ok (.iconst 0, 1) := by decide +kernel
theorem dX0_loadAll_1 : decode cX0_loadAll 1 = .ok (.istore 4, 2) := by decide +kernel
theorem dX0_loadAll_3 : decode cX0_loadAll 3 = .ok (.iload 4, 2) := by decide +kernel
theorem dX0_loadAll_5 : decode cX0_loadAll 5 = .ok (.iload_n 3, 1) := by decide +kernel
theorem dX0_loadAll_6 : decode cX0_loadAll 6 = .ok (.if_icmp .ge 39, 3) := by decide +kernel
theorem dX0_loadAll_9 : decode cX0_loadAll 9 = .ok (.iload 4, 2) := by decide +kernel
theorem dX0_loadAll_11 : decode cX0_loadAll 11 = .ok (.bipush 8, 2) := by decide +kernel
theorem dX0_loadAll_13 : decode cX0_loadAll 13 = .ok (.if_icmp .ge 32, 3) := by decide +kernel
theorem dX0_loadAll_16 : decode cX0_loadAll 16 = .ok (.aload_n 0, 1) := by decide +kernel
theorem dX0_loadAll_17 : decode cX0_loadAll 17 = .ok (.getfield 18, 3) := by decide +kernel
theorem dX0_loadAll_20 : decode cX0_loadAll 20 = .ok (.iload 4, 2) := by decide +kernel
theorem dX0_loadAll_22 : decode cX0_loadAll 22 = .ok (.aload_n 1, 1) := by decide +kernel
theorem dX0_loadAll_23 : decode cX0_loadAll 23 = .ok (.getfield 140, 3) := by decide +kernel
theorem dX0_loadAll_26 : decode cX0_loadAll 26 = .ok (.aload_n 0, 1) := by decide +kernel
theorem dX0_loadAll_27 : decode cX0_loadAll 27 = .ok (.aload_n 1, 1) := by decide +kernel
theorem dX0_loadAll_28 : decode cX0_loadAll 28 = .ok (.aload_n 2, 1) := by decide +kernel
theorem dX0_loadAll_29 : decode cX0_loadAll 29 = .ok (.iload 4, 2) := by decide +kernel
theorem dX0_loadAll_31 : decode cX0_loadAll 31 = .ok (.iaload, 1) := by decide +kernel
theorem dX0_loadAll_32 : decode cX0_loadAll 32 = .ok (.invokevirtual 143, 3) := by decide +kernel
theorem dX0_loadAll_35 : decode cX0_loadAll 35 = .ok (.invokestatic 124, 3) := by decide +kernel
theorem dX0_loadAll_38 : decode cX0_loadAll 38 = .ok (.iastore, 1) := by decide +kernel
theorem dX0_loadAll_39 : decode cX0_loadAll 39 = .ok (.iinc 4 1, 3) := by decide +kernel
theorem dX0_loadAll_42 : decode cX0_loadAll 42 = .ok (.goto (-39), 3) := by decide +kernel
theorem dX0_loadAll_45 : decode cX0_loadAll 45 = .ok (.aload_n 0, 1) := by decide +kernel
theorem dX0_loadAll_46 : decode cX0_loadAll 46 = .ok (.iload_n 3, 1) := by decide +kernel
theorem dX0_loadAll_47 : decode cX0_loadAll 47 = .ok (.putfield 147, 3) := by decide +kernel
theorem dX0_loadAll_50 : decode cX0_loadAll 50 = .ok (.aload_n 0, 1) := by decide +kernel
theorem dX0_loadAll_51 : decode cX0_loadAll 51 = .ok (.iconst 0, 1) := by decide +kernel
theorem dX0_loadAll_52 : decode cX0_loadAll 52 = .ok (.iconst 0, 1) := by decide +kernel
theorem dX0_loadAll_53 : decode cX0_loadAll 53 = .ok (.invokevirtual 150, 3) := by decide +kernel
theorem dX0_loadAll_56 : decode cX0_loadAll 56 = .ok (.istore 4, 2) := by decide +kernel
theorem dX0_loadAll_58 : decode cX0_loadAll 58 = .ok (.iload 4, 2) := by decide +kernel
theorem dX0_loadAll_60 : decode cX0_loadAll 60 = .ok (.istore 5, 2) := by decide +kernel
theorem dX0_loadAll_62 : decode cX0_loadAll 62 = .ok (.iconst 0, 1) := by decide +kernel
theorem dX0_loadAll_63 : decode cX0_loadAll 63 = .ok (.istore 6, 2) := by decide +kernel
theorem dX0_loadAll_65 : decode cX0_loadAll 65 = .ok (.iconst 0, 1) := by decide +kernel
theorem dX0_loadAll_66 : decode cX0_loadAll 66 = .ok (.istore 7, 2) := by decide +kernel
theorem dX0_loadAll_68 : decode cX0_loadAll 68 = .ok (.iload 7, 2) := by decide +kernel
theorem dX0_loadAll_70 : decode cX0_loadAll 70 = .ok (.iload_n 3, 1) := by decide +kernel
theorem dX0_loadAll_71 : decode cX0_loadAll 71 = .ok (.if_icmp .ge 54, 3) := by decide +kernel
theorem dX0_loadAll_74 : decode cX0_loadAll 74 = .ok (.aload_n 0, 1) := by decide +kernel
theorem dX0_loadAll_75 : decode cX0_loadAll 75 = .ok (.getfield 22, 3) := by decide +kernel
theorem dX0_loadAll_78 : decode cX0_loadAll 78 = .ok (.iload 7, 2) := by decide +kernel
theorem dX0_loadAll_80 : decode cX0_loadAll 80 = .ok (.aload_n 0, 1) := by decide +kernel
theorem dX0_loadAll_81 : decode cX0_loadAll 81 = .ok (.iload 7, 2) := by decide +kernel
theorem dX0_loadAll_83 : decode cX0_loadAll 83 = .ok (.iload 6, 2) := by decide +kernel
theorem dX0_loadAll_85 : decode cX0_loadAll 85 = .ok (.iload 5, 2) := by decide +kernel
theorem dX0_loadAll_87 : decode cX0_loadAll 87 = .ok (.invokevirtual 153, 3) := by decide +kernel
theorem dX0_loadAll_90 : decode cX0_loadAll 90 = .ok (.iastore, 1) := by decide +kernel
theorem dX0_loadAll_91 : decode cX0_loadAll 91 = .ok (.aload_n 0, 1) := by decide +kernel
theorem dX0_loadAll_92 : decode cX0_loadAll 92 = .ok (.getfield 22, 3) := by decide +kernel
theorem dX0_loadAll_95 : decode cX0_loadAll 95 = .ok (.iload 7, 2) := by decide +kernel
theorem dX0_loadAll_97 : decode cX0_loadAll 97 = .ok (.iaload, 1) := by decide +kernel
theorem dX0_loadAll_98 : decode cX0_loadAll 98 = .ok (.iconst (-1), 1) := by decide +kernel
theorem dX0_loadAll_99 : decode cX0_loadAll 99 = .ok (.if_icmp .eq 20, 3) := by decide +kernel
theorem dX0_loadAll_102 : decode cX0_loadAll 102 = .ok (.iload 6, 2) := by decide +kernel
theorem dX0_loadAll_104 : decode cX0_loadAll 104 = .ok (.iconst 1, 1) := by decide +kernel
theorem dX0_loadAll_105 : decode cX0_loadAll 105 = .ok (.aload_n 0, 1) := by decide +kernel
theorem dX0_loadAll_106 : decode cX0_loadAll 106 = .ok (.getfield 22, 3) := by decide +kernel
theorem dX0_loadAll_109 : decode cX0_loadAll 109 = .ok (.iload 7, 2) := by decide +kernel
theorem dX0_loadAll_111 : decode cX0_loadAll 111 = .ok (.iaload, 1) := by decide +kernel
theorem dX0_loadAll_112 : decode cX0_loadAll 112 = .ok (.ishl, 1) := by decide +kernel
theorem dX0_loadAll_113 : decode cX0_loadAll 113 = .ok (.ior, 1) := by decide +kernel
theorem dX0_loadAll_114 : decode cX0_loadAll 114 = .ok (.istore 6, 2) := by decide +kernel
theorem dX0_loadAll_116 : decode cX0_loadAll 116 = .ok (.iinc 5 (-1), 3) := by decide +kernel
theorem dX0_loadAll_119 : decode cX0_loadAll 119 = .ok (.iinc 7 1, 3) := by decide +kernel
theorem dX0_loadAll_122 : decode cX0_loadAll 122 = .ok (.goto (-54), 3) := by decide +kernel
theorem dX0_loadAll_125 : decode cX0_loadAll 125 = .ok (.iload 4, 2) := by decide +kernel
theorem dX0_loadAll_127 : decode cX0_loadAll 127 = .ok (.ireturn, 1) := by decide +kernel
theorem dX0_leastCarrier_0 : decode cX0_leastCarrier 0 = .ok (.iconst 0, 1) := by decide +kernel
theorem dX0_leastCarrier_1 : decode cX0_leastCarrier 1 = .ok (.istore 4, 2) := by decide +kernel
theorem dX0_leastCarrier_3 : decode cX0_leastCarrier 3 = .ok (.iload 4, 2) := by decide +kernel
theorem dX0_leastCarrier_5 : decode cX0_leastCarrier 5 = .ok (.aload_n 0, 1) := by decide +kernel
theorem dX0_leastCarrier_6 : decode cX0_leastCarrier 6 = .ok (.getfield 18, 3) := by decide +kernel
theorem dX0_leastCarrier_9 : decode cX0_leastCarrier 9 = .ok (.iload_n 1, 1) := by decide +kernel
theorem dX0_leastCarrier_10 : decode cX0_leastCarrier 10 = .ok (.iaload, 1) := by decide +kernel
theorem dX0_leastCarrier_11 : decode cX0_leastCarrier 11 = .ok (.if_icmp .ge 40, 3) := by decide +kernel
theorem dX0_leastCarrier_14 : decode cX0_leastCarrier 14 = .ok (.iload_n 2, 1) := by decide +kernel
theorem dX0_leastCarrier_15 : decode cX0_leastCarrier 15 = .ok (.iload 4, 2) := by decide +kernel
theorem dX0_leastCarrier_17 : decode cX0_leastCarrier 17 = .ok (.ishr, 1) := by decide +kernel
theorem dX0_leastCarrier_18 : decode cX0_leastCarrier 18 = .ok (.iconst 1, 1) := by decide +kernel
theorem dX0_leastCarrier_19 : decode cX0_leastCarrier 19 = .ok (.iand, 1) := by decide +kernel
theorem dX0_leastCarrier_20 : decode cX0_leastCarrier 20 = .ok (.ifCond .ne 25, 3) := by decide +kernel
theorem dX0_leastCarrier_23 : decode cX0_leastCarrier 23 = .ok (.aload_n 0, 1) := by decide +kernel
theorem dX0_leastCarrier_24 : decode cX0_leastCarrier 24 = .ok (.iload_n 1, 1) := by decide +kernel
theorem dX0_leastCarrier_25 : decode cX0_leastCarrier 25 = .ok (.iconst 1, 1) := by decide +kernel
theorem dX0_leastCarrier_26 : decode cX0_leastCarrier 26 = .ok (.iadd, 1) := by decide +kernel
theorem dX0_leastCarrier_27 : decode cX0_leastCarrier 27 = .ok (.iload_n 2, 1) := by decide +kernel
theorem dX0_leastCarrier_28 : decode cX0_leastCarrier 28 = .ok (.iconst 1, 1) := by decide +kernel
theorem dX0_leastCarrier_29 : decode cX0_leastCarrier 29 = .ok (.iload 4, 2) := by decide +kernel
theorem dX0_leastCarrier_31 : decode cX0_leastCarrier 31 = .ok (.ishl, 1) := by decide +kernel
theorem dX0_leastCarrier_32 : decode cX0_leastCarrier 32 = .ok (.ior, 1) := by decide +kernel
theorem dX0_leastCarrier_33 : decode cX0_leastCarrier 33 = .ok (.invokevirtual 150, 3) := by decide +kernel
theorem dX0_leastCarrier_36 : decode cX0_leastCarrier 36 = .ok (.iload_n 3, 1) := by decide +kernel
theorem dX0_leastCarrier_37 : decode cX0_leastCarrier 37 = .ok (.iconst 1, 1) := by decide +kernel
theorem dX0_leastCarrier_38 : decode cX0_leastCarrier 38 = .ok (.isub, 1) := by decide +kernel
theorem dX0_leastCarrier_39 : decode cX0_leastCarrier 39 = .ok (.if_icmp .ne 6, 3) := by decide +kernel
theorem dX0_leastCarrier_42 : decode cX0_leastCarrier 42 = .ok (.iload 4, 2) := by decide +kernel
theorem dX0_leastCarrier_44 : decode cX0_leastCarrier 44 = .ok (.ireturn, 1) := by decide +kernel
theorem dX0_leastCarrier_45 : decode cX0_leastCarrier 45 = .ok (.iinc 4 1, 3) := by decide +kernel
theorem dX0_leastCarrier_48 : decode cX0_leastCarrier 48 = .ok (.goto (-45), 3) := by decide +kernel
theorem dX0_leastCarrier_51 : decode cX0_leastCarrier 51 = .ok (.iconst (-1), 1) := by decide +kernel
theorem dX0_leastCarrier_52 : decode cX0_leastCarrier 52 = .ok (.ireturn, 1) := by decide +kernel
theorem dX0_mostLoads_0 : decode cX0_mostLoads 0 = .ok (.iconst 0, 1) := by decide +kernel
theorem dX0_mostLoads_1 : decode cX0_mostLoads 1 = .ok (.istore_n 3, 1) := by decide +kernel
theorem dX0_mostLoads_2 : decode cX0_mostLoads 2 = .ok (.iconst 0, 1) := by decide +kernel
theorem dX0_mostLoads_3 : decode cX0_mostLoads 3 = .ok (.istore 4, 2) := by decide +kernel
theorem dX0_mostLoads_5 : decode cX0_mostLoads 5 = .ok (.iconst 1, 1) := by decide +kernel
theorem dX0_mostLoads_6 : decode cX0_mostLoads 6 = .ok (.istore 5, 2) := by decide +kernel
theorem dX0_mostLoads_8 : decode cX0_mostLoads 8 = .ok (.iload 5, 2) := by decide +kernel
theorem dX0_mostLoads_10 : decode cX0_mostLoads 10 = .ok (.bipush 8, 2) := by decide +kernel
theorem dX0_mostLoads_12 : decode cX0_mostLoads 12 = .ok (.if_icmp .gt 63, 3) := by decide +kernel
theorem dX0_mostLoads_15 : decode cX0_mostLoads 15 = .ok (.iload 4, 2) := by decide +kernel
theorem dX0_mostLoads_17 : decode cX0_mostLoads 17 = .ok (.iconst 1, 1) := by decide +kernel
theorem dX0_mostLoads_18 : decode cX0_mostLoads 18 = .ok (.iload_n 2, 1) := by decide +kernel
theorem dX0_mostLoads_19 : decode cX0_mostLoads 19 = .ok (.iload 5, 2) := by decide +kernel
theorem dX0_mostLoads_21 : decode cX0_mostLoads 21 = .ok (.iconst 1, 1) := by decide +kernel
theorem dX0_mostLoads_22 : decode cX0_mostLoads 22 = .ok (.isub, 1) := by decide +kernel
theorem dX0_mostLoads_23 : decode cX0_mostLoads 23 = .ok (.ishr, 1) := by decide +kernel
theorem dX0_mostLoads_24 : decode cX0_mostLoads 24 = .ok (.iconst 1, 1) := by decide +kernel
theorem dX0_mostLoads_25 : decode cX0_mostLoads 25 = .ok (.iand, 1) := by decide +kernel
theorem dX0_mostLoads_26 : decode cX0_mostLoads 26 = .ok (.isub, 1) := by decide +kernel
theorem dX0_mostLoads_27 : decode cX0_mostLoads 27 = .ok (.iadd, 1) := by decide +kernel
theorem dX0_mostLoads_28 : decode cX0_mostLoads 28 = .ok (.istore 4, 2) := by decide +kernel
theorem dX0_mostLoads_30 : decode cX0_mostLoads 30 = .ok (.iload_n 1, 1) := by decide +kernel
theorem dX0_mostLoads_31 : decode cX0_mostLoads 31 = .ok (.istore 6, 2) := by decide +kernel
theorem dX0_mostLoads_33 : decode cX0_mostLoads 33 = .ok (.iload 6, 2) := by decide +kernel
theorem dX0_mostLoads_35 : decode cX0_mostLoads 35 = .ok (.aload_n 0, 1) := by decide +kernel
theorem dX0_mostLoads_36 : decode cX0_mostLoads 36 = .ok (.getfield 147, 3) := by decide +kernel
theorem dX0_mostLoads_39 : decode cX0_mostLoads 39 = .ok (.if_icmp .ge 30, 3) := by decide +kernel
theorem dX0_mostLoads_42 : decode cX0_mostLoads 42 = .ok (.aload_n 0, 1) := by decide +kernel
theorem dX0_mostLoads_43 : decode cX0_mostLoads 43 = .ok (.getfield 18, 3) := by decide +kernel
theorem dX0_mostLoads_46 : decode cX0_mostLoads 46 = .ok (.iload 6, 2) := by decide +kernel
theorem dX0_mostLoads_48 : decode cX0_mostLoads 48 = .ok (.iaload, 1) := by decide +kernel
theorem dX0_mostLoads_49 : decode cX0_mostLoads 49 = .ok (.iload 5, 2) := by decide +kernel
theorem dX0_mostLoads_51 : decode cX0_mostLoads 51 = .ok (.if_icmp .ne 12, 3) := by decide +kernel
theorem dX0_mostLoads_54 : decode cX0_mostLoads 54 = .ok (.iload_n 3, 1) := by decide +kernel
theorem dX0_mostLoads_55 : decode cX0_mostLoads 55 = .ok (.iload 4, 2) := by decide +kernel
theorem dX0_mostLoads_57 : decode cX0_mostLoads 57 = .ok (.if_icmp .ge 6, 3) := by decide +kernel
theorem dX0_mostLoads_60 : decode cX0_mostLoads 60 = .ok (.iinc 3 1, 3) := by decide +kernel
theorem dX0_mostLoads_63 : decode cX0_mostLoads 63 = .ok (.iinc 6 1, 3) := by decide +kernel
theorem dX0_mostLoads_66 : decode cX0_mostLoads 66 = .ok (.goto (-33), 3) := by decide +kernel
theorem dX0_mostLoads_69 : decode cX0_mostLoads 69 = .ok (.iinc 5 1, 3) := by decide +kernel
theorem dX0_mostLoads_72 : decode cX0_mostLoads 72 = .ok (.goto (-64), 3) := by decide +kernel
theorem dX0_mostLoads_75 : decode cX0_mostLoads 75 = .ok (.iload_n 3, 1) := by decide +kernel
theorem dX0_mostLoads_76 : decode cX0_mostLoads 76 = .ok (.ireturn, 1) := by decide +kernel
theorem dX1_init_0 : decode cX1_init 0 = .ok (.aload_n 0, 1) := by decide +kernel
theorem dX1_init_1 : decode cX1_init 1 = .ok (.invokespecial 3, 3) := by decide +kernel
theorem dX1_init_4 : decode cX1_init 4 = .ok (.aload_n 0, 1) := by decide +kernel
theorem dX1_init_5 : decode cX1_init 5 = .ok (.bipush 20, 2) := by decide +kernel
theorem dX1_init_7 : decode cX1_init 7 = .ok (.newarray .int, 2) := by decide +kernel
theorem dX1_init_9 : decode cX1_init 9 = .ok (.putfield 9, 3) := by decide +kernel
theorem dX1_init_12 : decode cX1_init 12 = .ok (.aload_n 0, 1) := by decide +kernel
theorem dX1_init_13 : decode cX1_init 13 = .ok (.bipush 20, 2) := by decide +kernel
theorem dX1_init_15 : decode cX1_init 15 = .ok (.newarray .int, 2) := by decide +kernel
theorem dX1_init_17 : decode cX1_init 17 = .ok (.putfield 15, 3) := by decide +kernel
theorem dX1_init_20 : decode cX1_init 20 = .ok (.aload_n 0, 1) := by decide +kernel
theorem dX1_init_21 : decode cX1_init 21 = .ok (.bipush 20, 2) := by decide +kernel
theorem dX1_init_23 : decode cX1_init 23 = .ok (.newarray .int, 2) := by decide +kernel
theorem dX1_init_25 : decode cX1_init 25 = .ok (.putfield 18, 3) := by decide +kernel
theorem dX1_init_28 : decode cX1_init 28 = .ok (.aload_n 0, 1) := by decide +kernel
theorem dX1_init_29 : decode cX1_init 29 = .ok (.bipush 20, 2) := by decide +kernel
theorem dX1_init_31 : decode cX1_init 31 = .ok (.newarray .int, 2) := by decide +kernel
theorem dX1_init_33 : decode cX1_init 33 = .ok (.putfield 21, 3) := by decide +kernel
theorem dX1_init_36 : decode cX1_init 36 = .ok (.return_, 1) := by decide +kernel
theorem dX1_clear_0 : decode cX1_clear 0 = .ok (.aload_n 0, 1) := by decide +kernel
theorem dX1_clear_1 : decode cX1_clear 1 = .ok (.iconst 0, 1) := by decide +kernel
theorem dX1_clear_2 : decode cX1_clear 2 = .ok (.putfield 24, 3) := by decide +kernel
theorem dX1_clear_5 : decode cX1_clear 5 = .ok (.aload_n 0, 1) := by decide +kernel
theorem dX1_clear_6 : decode cX1_clear 6 = .ok (.iconst 0, 1) := by decide +kernel
theorem dX1_clear_7 : decode cX1_clear 7 = .ok (.putfield 28, 3) := by decide +kernel
theorem dX1_clear_10 : decode cX1_clear 10 = .ok (.return_, 1) := by decide +kernel
theorem dX1_copyFrom_0 : decode cX1_copyFrom 0 = .ok (.aload_n 1, 1) := by decide +kernel
theorem dX1_copyFrom_1 : decode cX1_copyFrom 1 = .ok (.getfield 9, 3) := by decide +kernel
theorem dX1_copyFrom_4 : decode cX1_copyFrom 4 = .ok (.iconst 0, 1) := by decide +kernel
theorem dX1_copyFrom_5 : decode cX1_copyFrom 5 = .ok (.aload_n 0, 1) := by decide +kernel
theorem dX1_copyFrom_6 : decode cX1_copyFrom 6 = .ok (.getfield 9, 3) := by decide +kernel
theorem dX1_copyFrom_9 : decode cX1_copyFrom 9 = .ok (.iconst 0, 1) := by decide +kernel
theorem dX1_copyFrom_10 : decode cX1_copyFrom 10 = .ok (.bipush 20, 2) := by decide +kernel
theorem dX1_copyFrom_12 : decode cX1_copyFrom 12 = .ok (.invokestatic 31, 3) := by decide +kernel
theorem dX1_copyFrom_15 : decode cX1_copyFrom 15 = .ok (.aload_n 1, 1) := by decide +kernel
theorem dX1_copyFrom_16 : decode cX1_copyFrom 16 = .ok (.getfield 15, 3) := by decide +kernel
theorem dX1_copyFrom_19 : decode cX1_copyFrom 19 = .ok (.iconst 0, 1) := by decide +kernel
theorem dX1_copyFrom_20 : decode cX1_copyFrom 20 = .ok (.aload_n 0, 1) := by decide +kernel
theorem dX1_copyFrom_21 : decode cX1_copyFrom 21 = .ok (.getfield 15, 3) := by decide +kernel
theorem dX1_copyFrom_24 : decode cX1_copyFrom 24 = .ok (.iconst 0, 1) := by decide +kernel
theorem dX1_copyFrom_25 : decode cX1_copyFrom 25 = .ok (.bipush 20, 2) := by decide +kernel
theorem dX1_copyFrom_27 : decode cX1_copyFrom 27 = .ok (.invokestatic 31, 3) := by decide +kernel
theorem dX1_copyFrom_30 : decode cX1_copyFrom 30 = .ok (.aload_n 1, 1) := by decide +kernel
theorem dX1_copyFrom_31 : decode cX1_copyFrom 31 = .ok (.getfield 18, 3) := by decide +kernel
theorem dX1_copyFrom_34 : decode cX1_copyFrom 34 = .ok (.iconst 0, 1) := by decide +kernel
theorem dX1_copyFrom_35 : decode cX1_copyFrom 35 = .ok (.aload_n 0, 1) := by decide +kernel
theorem dX1_copyFrom_36 : decode cX1_copyFrom 36 = .ok (.getfield 18, 3) := by decide +kernel
theorem dX1_copyFrom_39 : decode cX1_copyFrom 39 = .ok (.iconst 0, 1) := by decide +kernel
theorem dX1_copyFrom_40 : decode cX1_copyFrom 40 = .ok (.bipush 20, 2) := by decide +kernel
theorem dX1_copyFrom_42 : decode cX1_copyFrom 42 = .ok (.invokestatic 31, 3) := by decide +kernel
theorem dX1_copyFrom_45 : decode cX1_copyFrom 45 = .ok (.aload_n 1, 1) := by decide +kernel
theorem dX1_copyFrom_46 : decode cX1_copyFrom 46 = .ok (.getfield 21, 3) := by decide +kernel
theorem dX1_copyFrom_49 : decode cX1_copyFrom 49 = .ok (.iconst 0, 1) := by decide +kernel
theorem dX1_copyFrom_50 : decode cX1_copyFrom 50 = .ok (.aload_n 0, 1) := by decide +kernel
theorem dX1_copyFrom_51 : decode cX1_copyFrom 51 = .ok (.getfield 21, 3) := by decide +kernel
theorem dX1_copyFrom_54 : decode cX1_copyFrom 54 = .ok (.iconst 0, 1) := by decide +kernel
theorem dX1_copyFrom_55 : decode cX1_copyFrom 55 = .ok (.bipush 20, 2) := by decide +kernel
theorem dX1_copyFrom_57 : decode cX1_copyFrom 57 = .ok (.invokestatic 31, 3) := by decide +kernel
theorem dX1_copyFrom_60 : decode cX1_copyFrom 60 = .ok (.aload_n 0, 1) := by decide +kernel
theorem dX1_copyFrom_61 : decode cX1_copyFrom 61 = .ok (.aload_n 1, 1) := by decide +kernel
theorem dX1_copyFrom_62 : decode cX1_copyFrom 62 = .ok (.getfield 24, 3) := by decide +kernel
theorem dX1_copyFrom_65 : decode cX1_copyFrom 65 = .ok (.putfield 24, 3) := by decide +kernel
theorem dX1_copyFrom_68 : decode cX1_copyFrom 68 = .ok (.aload_n 0, 1) := by decide +kernel
theorem dX1_copyFrom_69 : decode cX1_copyFrom 69 = .ok (.aload_n 1, 1) := by decide +kernel
theorem dX1_copyFrom_70 : decode cX1_copyFrom 70 = .ok (.getfield 28, 3) := by decide +kernel
theorem dX1_copyFrom_73 : decode cX1_copyFrom 73 = .ok (.putfield 28, 3) := by decide +kernel
theorem dX1_copyFrom_76 : decode cX1_copyFrom 76 = .ok (.return_, 1) := by decide +kernel
theorem dX1_add_0 : decode cX1_add 0 = .ok (.aload_n 1, 1) := by decide +kernel
theorem dX1_add_1 : decode cX1_add 1 = .ok (.getfield 37, 3) := by decide +kernel
theorem dX1_add_4 : decode cX1_add 4 = .ok (.iload_n 2, 1) := by decide +kernel
theorem dX1_add_5 : decode cX1_add 5 = .ok (.isub, 1) := by decide +kernel
theorem dX1_add_6 : decode cX1_add 6 = .ok (.istore_n 3, 1) := by decide +kernel
theorem dX1_add_7 : decode cX1_add 7 = .ok (.iload_n 2, 1) := by decide +kernel
theorem dX1_add_8 : decode cX1_add 8 = .ok (.ifCond .lt 28, 3) := by decide +kernel
theorem dX1_add_11 : decode cX1_add 11 = .ok (.iload_n 3, 1) := by decide +kernel
theorem dX1_add_12 : decode cX1_add 12 = .ok (.iconst 1, 1) := by decide +kernel
theorem dX1_add_13 : decode cX1_add 13 = .ok (.if_icmp .lt 23, 3) := by decide +kernel
theorem dX1_add_16 : decode cX1_add 16 = .ok (.aload_n 0, 1) := by decide +kernel
theorem dX1_add_17 : decode cX1_add 17 = .ok (.getfield 28, 3) := by decide +kernel
theorem dX1_add_20 : decode cX1_add 20 = .ok (.bipush 20, 2) := by decide +kernel
theorem dX1_add_22 : decode cX1_add 22 = .ok (.if_icmp .ge 14, 3) := by decide +kernel
theorem dX1_add_25 : decode cX1_add 25 = .ok (.aload_n 0, 1) := by decide +kernel
theorem dX1_add_26 : decode cX1_add 26 = .ok (.getfield 24, 3) := by decide +kernel
theorem dX1_add_29 : decode cX1_add 29 = .ok (.iload_n 3, 1) := by decide +kernel
theorem dX1_add_30 : decode cX1_add 30 = .ok (.iadd, 1) := by decide +kernel
theorem dX1_add_31 : decode cX1_add 31 = .ok (.bipush 20, 2) := by decide +kernel
theorem dX1_add_33 : decode cX1_add 33 = .ok (.if_icmp .le 4, 3) := by decide +kernel
theorem dX1_add_36 : decode cX1_add 36 = .ok (.return_, 1) := by decide +kernel
theorem dX1_add_37 : decode cX1_add 37 = .ok (.aload_n 0, 1) := by decide +kernel
theorem dX1_add_38 : decode cX1_add 38 = .ok (.getfield 15, 3) := by decide +kernel
theorem dX1_add_41 : decode cX1_add 41 = .ok (.aload_n 0, 1) := by decide +kernel
theorem dX1_add_42 : decode cX1_add 42 = .ok (.getfield 28, 3) := by decide +kernel
theorem dX1_add_45 : decode cX1_add 45 = .ok (.aload_n 0, 1) := by decide +kernel
theorem dX1_add_46 : decode cX1_add 46 = .ok (.getfield 24, 3) := by decide +kernel
theorem dX1_add_49 : decode cX1_add 49 = .ok (.iastore, 1) := by decide +kernel
theorem dX1_add_50 : decode cX1_add 50 = .ok (.aload_n 0, 1) := by decide +kernel
theorem dX1_add_51 : decode cX1_add 51 = .ok (.getfield 18, 3) := by decide +kernel
theorem dX1_add_54 : decode cX1_add 54 = .ok (.aload_n 0, 1) := by decide +kernel
theorem dX1_add_55 : decode cX1_add 55 = .ok (.getfield 28, 3) := by decide +kernel
theorem dX1_add_58 : decode cX1_add 58 = .ok (.iload_n 3, 1) := by decide +kernel
theorem dX1_add_59 : decode cX1_add 59 = .ok (.iastore, 1) := by decide +kernel
theorem dX1_add_60 : decode cX1_add 60 = .ok (.aload_n 0, 1) := by decide +kernel
theorem dX1_add_61 : decode cX1_add 61 = .ok (.getfield 21, 3) := by decide +kernel
theorem dX1_add_64 : decode cX1_add 64 = .ok (.aload_n 0, 1) := by decide +kernel
theorem dX1_add_65 : decode cX1_add 65 = .ok (.getfield 28, 3) := by decide +kernel
theorem dX1_add_68 : decode cX1_add 68 = .ok (.aload_n 1, 1) := by decide +kernel
theorem dX1_add_69 : decode cX1_add 69 = .ok (.iload_n 2, 1) := by decide +kernel
theorem dX1_add_70 : decode cX1_add 70 = .ok (.invokevirtual 40, 3) := by decide +kernel
theorem dX1_add_73 : decode cX1_add 73 = .ok (.iastore, 1) := by decide +kernel
theorem dX1_add_74 : decode cX1_add 74 = .ok (.aload_n 0, 1) := by decide +kernel
theorem dX1_add_75 : decode cX1_add 75 = .ok (.dup, 1) := by decide +kernel
theorem dX1_add_76 : decode cX1_add 76 = .ok (.getfield 28, 3) := by decide +kernel
theorem dX1_add_79 : decode cX1_add 79 = .ok (.iconst 1, 1) := by decide +kernel
theorem dX1_add_80 : decode cX1_add 80 = .ok (.iadd, 1) := by decide +kernel
theorem dX1_add_81 : decode cX1_add 81 = .ok (.putfield 28, 3) := by decide +kernel
theorem dX1_add_84 : decode cX1_add 84 = .ok (.iload_n 2, 1) := by decide +kernel
theorem dX1_add_85 : decode cX1_add 85 = .ok (.istore 4, 2) := by decide +kernel
theorem dX1_add_87 : decode cX1_add 87 = .ok (.iload 4, 2) := by decide +kernel
theorem dX1_add_89 : decode cX1_add 89 = .ok (.aload_n 1, 1) := by decide +kernel
theorem dX1_add_90 : decode cX1_add 90 = .ok (.getfield 37, 3) := by decide +kernel
theorem dX1_add_93 : decode cX1_add 93 = .ok (.if_icmp .ge 35, 3) := by decide +kernel
theorem dX1_add_96 : decode cX1_add 96 = .ok (.aload_n 0, 1) := by decide +kernel
theorem dX1_add_97 : decode cX1_add 97 = .ok (.getfield 9, 3) := by decide +kernel
theorem dX1_add_100 : decode cX1_add 100 = .ok (.aload_n 0, 1) := by decide +kernel
theorem dX1_add_101 : decode cX1_add 101 = .ok (.getfield 24, 3) := by decide +kernel
theorem dX1_add_104 : decode cX1_add 104 = .ok (.aload_n 1, 1) := by decide +kernel
theorem dX1_add_105 : decode cX1_add 105 = .ok (.getfield 44, 3) := by decide +kernel
theorem dX1_add_108 : decode cX1_add 108 = .ok (.iload 4, 2) := by decide +kernel
theorem dX1_add_110 : decode cX1_add 110 = .ok (.iaload, 1) := by decide +kernel
theorem dX1_add_111 : decode cX1_add 111 = .ok (.iastore, 1) := by decide +kernel
theorem dX1_add_112 : decode cX1_add 112 = .ok (.aload_n 0, 1) := by decide +kernel
theorem dX1_add_113 : decode cX1_add 113 = .ok (.dup, 1) := by decide +kernel
theorem dX1_add_114 : decode cX1_add 114 = .ok (.getfield 24, 3) := by decide +kernel
theorem dX1_add_117 : decode cX1_add 117 = .ok (.iconst 1, 1) := by decide +kernel
theorem dX1_add_118 : decode cX1_add 118 = .ok (.iadd, 1) := by decide +kernel
theorem dX1_add_119 : decode cX1_add 119 = .ok (.putfield 24, 3) := by decide +kernel
theorem dX1_add_122 : decode cX1_add 122 = .ok (.iinc 4 1, 3) := by decide +kernel
theorem dX1_add_125 : decode cX1_add 125 = .ok (.goto (-38), 3) := by decide +kernel
theorem dX1_add_128 : decode cX1_add 128 = .ok (.return_, 1) := by decide +kernel
theorem dX1_unitsOf_0 : decode cX1_unitsOf 0 = .ok (.iconst 0, 1) := by decide +kernel
theorem dX1_unitsOf_1 : decode cX1_unitsOf 1 = .ok (.istore_n 3, 1) := by decide +kernel
theorem dX1_unitsOf_2 : decode cX1_unitsOf 2 = .ok (.iconst 0, 1) := by decide +kernel
theorem dX1_unitsOf_3 : decode cX1_unitsOf 3 = .ok (.istore 4, 2) := by decide +kernel
theorem dX1_unitsOf_5 : decode cX1_unitsOf 5 = .ok (.iload 4, 2) := by decide +kernel
theorem dX1_unitsOf_7 : decode cX1_unitsOf 7 = .ok (.aload_n 0, 1) := by decide +kernel
theorem dX1_unitsOf_8 : decode cX1_unitsOf 8 = .ok (.getfield 18, 3) := by decide +kernel
theorem dX1_unitsOf_11 : decode cX1_unitsOf 11 = .ok (.iload_n 1, 1) := by decide +kernel
theorem dX1_unitsOf_12 : decode cX1_unitsOf 12 = .ok (.iaload, 1) := by decide +kernel
theorem dX1_unitsOf_13 : decode cX1_unitsOf 13 = .ok (.if_icmp .ge 30, 3) := by decide +kernel
theorem dX1_unitsOf_16 : decode cX1_unitsOf 16 = .ok (.iload_n 3, 1) := by decide +kernel
theorem dX1_unitsOf_17 : decode cX1_unitsOf 17 = .ok (.aload_n 2, 1) := by decide +kernel
theorem dX1_unitsOf_18 : decode cX1_unitsOf 18 = .ok (.aload_n 0, 1) := by decide +kernel
theorem dX1_unitsOf_19 : decode cX1_unitsOf 19 = .ok (.getfield 9, 3) := by decide +kernel
theorem dX1_unitsOf_22 : decode cX1_unitsOf 22 = .ok (.aload_n 0, 1) := by decide +kernel
theorem dX1_unitsOf_23 : decode cX1_unitsOf 23 = .ok (.getfield 15, 3) := by decide +kernel
theorem dX1_unitsOf_26 : decode cX1_unitsOf 26 = .ok (.iload_n 1, 1) := by decide +kernel
theorem dX1_unitsOf_27 : decode cX1_unitsOf 27 = .ok (.iaload, 1) := by decide +kernel
theorem dX1_unitsOf_28 : decode cX1_unitsOf 28 = .ok (.iload 4, 2) := by decide +kernel
theorem dX1_unitsOf_30 : decode cX1_unitsOf 30 = .ok (.iadd, 1) := by decide +kernel
theorem dX1_unitsOf_31 : decode cX1_unitsOf 31 = .ok (.iaload, 1) := by decide +kernel
theorem dX1_unitsOf_32 : decode cX1_unitsOf 32 = .ok (.invokevirtual 45, 3) := by decide +kernel
theorem dX1_unitsOf_35 : decode cX1_unitsOf 35 = .ok (.iadd, 1) := by decide +kernel
theorem dX1_unitsOf_36 : decode cX1_unitsOf 36 = .ok (.istore_n 3, 1) := by decide +kernel
theorem dX1_unitsOf_37 : decode cX1_unitsOf 37 = .ok (.iinc 4 1, 3) := by decide +kernel
theorem dX1_unitsOf_40 : decode cX1_unitsOf 40 = .ok (.goto (-35), 3) := by decide +kernel
theorem dX1_unitsOf_43 : decode cX1_unitsOf 43 = .ok (.iload_n 3, 1) := by decide +kernel
theorem dX1_unitsOf_44 : decode cX1_unitsOf 44 = .ok (.ireturn, 1) := by decide +kernel
theorem dX1_dragOf_0 : decode cX1_dragOf 0 = .ok (.iconst 0, 1) := by decide +kernel
theorem dX1_dragOf_1 : decode cX1_dragOf 1 = .ok (.istore_n 3, 1) := by decide +kernel
theorem dX1_dragOf_2 : decode cX1_dragOf 2 = .ok (.aload_n 0, 1) := by decide +kernel
theorem dX1_dragOf_3 : decode cX1_dragOf 3 = .ok (.getfield 21, 3) := by decide +kernel
theorem dX1_dragOf_6 : decode cX1_dragOf 6 = .ok (.iload_n 1, 1) := by decide +kernel
theorem dX1_dragOf_7 : decode cX1_dragOf 7 = .ok (.iaload, 1) := by decide +kernel
theorem dX1_dragOf_8 : decode cX1_dragOf 8 = .ok (.istore 4, 2) := by decide +kernel
theorem dX1_dragOf_10 : decode cX1_dragOf 10 = .ok (.iconst 0, 1) := by decide +kernel
theorem dX1_dragOf_11 : decode cX1_dragOf 11 = .ok (.istore 5, 2) := by decide +kernel
theorem dX1_dragOf_13 : decode cX1_dragOf 13 = .ok (.iload 5, 2) := by decide +kernel
theorem dX1_dragOf_15 : decode cX1_dragOf 15 = .ok (.aload_n 0, 1) := by decide +kernel
theorem dX1_dragOf_16 : decode cX1_dragOf 16 = .ok (.getfield 18, 3) := by decide +kernel
theorem dX1_dragOf_19 : decode cX1_dragOf 19 = .ok (.iload_n 1, 1) := by decide +kernel
theorem dX1_dragOf_20 : decode cX1_dragOf 20 = .ok (.iaload, 1) := by decide +kernel
theorem dX1_dragOf_21 : decode cX1_dragOf 21 = .ok (.if_icmp .ge 51, 3) := by decide +kernel
theorem dX1_dragOf_24 : decode cX1_dragOf 24 = .ok (.aload_n 0, 1) := by decide +kernel
theorem dX1_dragOf_25 : decode cX1_dragOf 25 = .ok (.getfield 9, 3) := by decide +kernel
theorem dX1_dragOf_28 : decode cX1_dragOf 28 = .ok (.aload_n 0, 1) := by decide +kernel
theorem dX1_dragOf_29 : decode cX1_dragOf 29 = .ok (.getfield 15, 3) := by decide +kernel
theorem dX1_dragOf_32 : decode cX1_dragOf 32 = .ok (.iload_n 1, 1) := by decide +kernel
theorem dX1_dragOf_33 : decode cX1_dragOf 33 = .ok (.iaload, 1) := by decide +kernel
theorem dX1_dragOf_34 : decode cX1_dragOf 34 = .ok (.iload 5, 2) := by decide +kernel
theorem dX1_dragOf_36 : decode cX1_dragOf 36 = .ok (.iadd, 1) := by decide +kernel
theorem dX1_dragOf_37 : decode cX1_dragOf 37 = .ok (.iaload, 1) := by decide +kernel
theorem dX1_dragOf_38 : decode cX1_dragOf 38 = .ok (.istore 6, 2) := by decide +kernel
theorem dX1_dragOf_40 : decode cX1_dragOf 40 = .ok (.iload_n 3, 1) := by decide +kernel
theorem dX1_dragOf_41 : decode cX1_dragOf 41 = .ok (.aload_n 2, 1) := by decide +kernel
theorem dX1_dragOf_42 : decode cX1_dragOf 42 = .ok (.aload_n 2, 1) := by decide +kernel
theorem dX1_dragOf_43 : decode cX1_dragOf 43 = .ok (.iload 6, 2) := by decide +kernel
theorem dX1_dragOf_45 : decode cX1_dragOf 45 = .ok (.invokevirtual 50, 3) := by decide +kernel
theorem dX1_dragOf_48 : decode cX1_dragOf 48 = .ok (.iload 4, 2) := by decide +kernel
theorem dX1_dragOf_50 : decode cX1_dragOf 50 = .ok (.invokevirtual 53, 3) := by decide +kernel
theorem dX1_dragOf_53 : decode cX1_dragOf 53 = .ok (.iadd, 1) := by decide +kernel
theorem dX1_dragOf_54 : decode cX1_dragOf 54 = .ok (.istore_n 3, 1) := by decide +kernel
theorem dX1_dragOf_55 : decode cX1_dragOf 55 = .ok (.iload 4, 2) := by decide +kernel
theorem dX1_dragOf_57 : decode cX1_dragOf 57 = .ok (.aload_n 2, 1) := by decide +kernel
theorem dX1_dragOf_58 : decode cX1_dragOf 58 = .ok (.iload 6, 2) := by decide +kernel
theorem dX1_dragOf_60 : decode cX1_dragOf 60 = .ok (.invokevirtual 45, 3) := by decide +kernel
theorem dX1_dragOf_63 : decode cX1_dragOf 63 = .ok (.isub, 1) := by decide +kernel
theorem dX1_dragOf_64 : decode cX1_dragOf 64 = .ok (.istore 4, 2) := by decide +kernel
theorem dX1_dragOf_66 : decode cX1_dragOf 66 = .ok (.iinc 5 1, 3) := by decide +kernel
theorem dX1_dragOf_69 : decode cX1_dragOf 69 = .ok (.goto (-56), 3) := by decide +kernel
theorem dX1_dragOf_72 : decode cX1_dragOf 72 = .ok (.iload_n 3, 1) := by decide +kernel
theorem dX1_dragOf_73 : decode cX1_dragOf 73 = .ok (.ireturn, 1) := by decide +kernel
theorem dX2_init_0 : decode cX2_init 0 = .ok (.aload_n 0, 1) := by decide +kernel
theorem dX2_init_1 : decode cX2_init 1 = .ok (.invokespecial 3, 3) := by decide +kernel
theorem dX2_init_4 : decode cX2_init 4 = .ok (.aload_n 0, 1) := by decide +kernel
theorem dX2_init_5 : decode cX2_init 5 = .ok (.bipush 6, 2) := by decide +kernel
theorem dX2_init_7 : decode cX2_init 7 = .ok (.newarray .int, 2) := by decide +kernel
theorem dX2_init_9 : decode cX2_init 9 = .ok (.putfield 9, 3) := by decide +kernel
theorem dX2_init_12 : decode cX2_init 12 = .ok (.return_, 1) := by decide +kernel
theorem dX2_run_0 : decode cX2_run 0 = .ok (.aload_n 0, 1) := by decide +kernel
theorem dX2_run_1 : decode cX2_run 1 = .ok (.iconst 0, 1) := by decide +kernel
theorem dX2_run_2 : decode cX2_run 2 = .ok (.putfield 15, 3) := by decide +kernel
theorem dX2_run_5 : decode cX2_run 5 = .ok (.aload_n 0, 1) := by decide +kernel
theorem dX2_run_6 : decode cX2_run 6 = .ok (.iconst 0, 1) := by decide +kernel
theorem dX2_run_7 : decode cX2_run 7 = .ok (.putfield 19, 3) := by decide +kernel
theorem dX2_run_10 : decode cX2_run 10 = .ok (.iconst 0, 1) := by decide +kernel
theorem dX2_run_11 : decode cX2_run 11 = .ok (.istore 4, 2) := by decide +kernel
theorem dX2_run_13 : decode cX2_run 13 = .ok (.iconst 0, 1) := by decide +kernel
theorem dX2_run_14 : decode cX2_run 14 = .ok (.istore 5, 2) := by decide +kernel
theorem dX2_run_16 : decode cX2_run 16 = .ok (.iload 5, 2) := by decide +kernel
theorem dX2_run_18 : decode cX2_run 18 = .ok (.aload_n 1, 1) := by decide +kernel
theorem dX2_run_19 : decode cX2_run 19 = .ok (.getfield 22, 3) := by decide +kernel
theorem dX2_run_22 : decode cX2_run 22 = .ok (.if_icmp .ge 43, 3) := by decide +kernel
theorem dX2_run_25 : decode cX2_run 25 = .ok (.iload 4, 2) := by decide +kernel
theorem dX2_run_27 : decode cX2_run 27 = .ok (.ifCond .ne 38, 3) := by decide +kernel
theorem dX2_run_30 : decode cX2_run 30 = .ok (.aload_n 0, 1) := by decide +kernel
theorem dX2_run_31 : decode cX2_run 31 = .ok (.aload_n 1, 1) := by decide +kernel
theorem dX2_run_32 : decode cX2_run 32 = .ok (.getfield 27, 3) := by decide +kernel
theorem dX2_run_35 : decode cX2_run 35 = .ok (.iload 5, 2) := by decide +kernel
theorem dX2_run_37 : decode cX2_run 37 = .ok (.iaload, 1) := by decide +kernel
theorem dX2_run_38 : decode cX2_run 38 = .ok (.aload_n 1, 1) := by decide +kernel
theorem dX2_run_39 : decode cX2_run 39 = .ok (.getfield 30, 3) := by decide +kernel
theorem dX2_run_42 : decode cX2_run 42 = .ok (.iload 5, 2) := by decide +kernel
theorem dX2_run_44 : decode cX2_run 44 = .ok (.iaload, 1) := by decide +kernel
theorem dX2_run_45 : decode cX2_run 45 = .ok (.aload_n 1, 1) := by decide +kernel
theorem dX2_run_46 : decode cX2_run 46 = .ok (.getfield 33, 3) := by decide +kernel
theorem dX2_run_49 : decode cX2_run 49 = .ok (.iload 5, 2) := by decide +kernel
theorem dX2_run_51 : decode cX2_run 51 = .ok (.iaload, 1) := by decide +kernel
theorem dX2_run_52 : decode cX2_run 52 = .ok (.aload_n 2, 1) := by decide +kernel
theorem dX2_run_53 : decode cX2_run 53 = .ok (.aload_n 3, 1) := by decide +kernel
theorem dX2_run_54 : decode cX2_run 54 = .ok (.invokevirtual 36, 3) := by decide +kernel
theorem dX2_run_57 : decode cX2_run 57 = .ok (.istore 4, 2) := by decide +kernel
theorem dX2_run_59 : decode cX2_run 59 = .ok (.iinc 5 1, 3) := by decide +kernel
theorem dX2_run_62 : decode cX2_run 62 = .ok (.goto (-46), 3) := by decide +kernel
theorem dX2_run_65 : decode cX2_run 65 = .ok (.aload_n 0, 1) := by decide +kernel
theorem dX2_run_66 : decode cX2_run 66 = .ok (.iconst 1, 1) := by decide +kernel
theorem dX2_run_67 : decode cX2_run 67 = .ok (.putfield 40, 3) := by decide +kernel
theorem dX2_run_70 : decode cX2_run 70 = .ok (.aload_n 0, 1) := by decide +kernel
theorem dX2_run_71 : decode cX2_run 71 = .ok (.getfield 9, 3) := by decide +kernel
theorem dX2_run_74 : decode cX2_run 74 = .ok (.iconst 0, 1) := by decide +kernel
theorem dX2_run_75 : decode cX2_run 75 = .ok (.iload 4, 2) := by decide +kernel
theorem dX2_run_77 : decode cX2_run 77 = .ok (.iastore, 1) := by decide +kernel
theorem dX2_run_78 : decode cX2_run 78 = .ok (.aload_n 0, 1) := by decide +kernel
theorem dX2_run_79 : decode cX2_run 79 = .ok (.getfield 9, 3) := by decide +kernel
theorem dX2_run_82 : decode cX2_run 82 = .ok (.iconst 1, 1) := by decide +kernel
theorem dX2_run_83 : decode cX2_run 83 = .ok (.aload_n 0, 1) := by decide +kernel
theorem dX2_run_84 : decode cX2_run 84 = .ok (.getfield 15, 3) := by decide +kernel
theorem dX2_run_87 : decode cX2_run 87 = .ok (.iastore, 1) := by decide +kernel
theorem dX2_run_88 : decode cX2_run 88 = .ok (.aload_n 0, 1) := by decide +kernel
theorem dX2_run_89 : decode cX2_run 89 = .ok (.getfield 9, 3) := by decide +kernel
theorem dX2_run_92 : decode cX2_run 92 = .ok (.iconst 2, 1) := by decide +kernel
theorem dX2_run_93 : decode cX2_run 93 = .ok (.aload_n 0, 1) := by decide +kernel
theorem dX2_run_94 : decode cX2_run 94 = .ok (.getfield 19, 3) := by decide +kernel
theorem dX2_run_97 : decode cX2_run 97 = .ok (.iastore, 1) := by decide +kernel
theorem dX2_run_98 : decode cX2_run 98 = .ok (.aload_n 0, 1) := by decide +kernel
theorem dX2_run_99 : decode cX2_run 99 = .ok (.getfield 9, 3) := by decide +kernel
theorem dX2_run_102 : decode cX2_run 102 = .ok (.iconst 3, 1) := by decide +kernel
theorem dX2_run_103 : decode cX2_run 103 = .ok (.aload_n 3, 1) := by decide +kernel
theorem dX2_run_104 : decode cX2_run 104 = .ok (.getfield 44, 3) := by decide +kernel
theorem dX2_run_107 : decode cX2_run 107 = .ok (.getfield 50, 3) := by decide +kernel
theorem dX2_run_110 : decode cX2_run 110 = .ok (.iastore, 1) := by decide +kernel
theorem dX2_run_111 : decode cX2_run 111 = .ok (.aload_n 0, 1) := by decide +kernel
theorem dX2_run_112 : decode cX2_run 112 = .ok (.getfield 9, 3) := by decide +kernel
theorem dX2_run_115 : decode cX2_run 115 = .ok (.iconst 4, 1) := by decide +kernel
theorem dX2_run_116 : decode cX2_run 116 = .ok (.aload_n 3, 1) := by decide +kernel
theorem dX2_run_117 : decode cX2_run 117 = .ok (.getfield 44, 3) := by decide +kernel
theorem dX2_run_120 : decode cX2_run 120 = .ok (.getfield 55, 3) := by decide +kernel
theorem dX2_run_123 : decode cX2_run 123 = .ok (.iastore, 1) := by decide +kernel
theorem dX2_run_124 : decode cX2_run 124 = .ok (.aload_n 0, 1) := by decide +kernel
theorem dX2_run_125 : decode cX2_run 125 = .ok (.getfield 9, 3) := by decide +kernel
theorem dX2_run_128 : decode cX2_run 128 = .ok (.iconst 5, 1) := by decide +kernel
theorem dX2_run_129 : decode cX2_run 129 = .ok (.aload_n 3, 1) := by decide +kernel
theorem dX2_run_130 : decode cX2_run 130 = .ok (.getfield 56, 3) := by decide +kernel
theorem dX2_run_133 : decode cX2_run 133 = .ok (.getfield 60, 3) := by decide +kernel
theorem dX2_run_136 : decode cX2_run 136 = .ok (.iastore, 1) := by decide +kernel
theorem dX2_run_137 : decode cX2_run 137 = .ok (.iload 4, 2) := by decide +kernel
theorem dX2_run_139 : decode cX2_run 139 = .ok (.ifCond .ne 7, 3) := by decide +kernel
theorem dX2_run_142 : decode cX2_run 142 = .ok (.iconst (-1), 1) := by decide +kernel
theorem dX2_run_143 : decode cX2_run 143 = .ok (.goto 7, 3) := by decide +kernel
theorem dX2_run_146 : decode cX2_run 146 = .ok (.iload 5, 2) := by decide +kernel
theorem dX2_run_148 : decode cX2_run 148 = .ok (.iconst 1, 1) := by decide +kernel
theorem dX2_run_149 : decode cX2_run 149 = .ok (.isub, 1) := by decide +kernel
theorem dX2_run_150 : decode cX2_run 150 = .ok (.ireturn, 1) := by decide +kernel
theorem dX2_runRow_0 : decode cX2_runRow 0 = .ok (.iload_n 1, 1) := by decide +kernel
theorem dX2_runRow_1 : decode cX2_runRow 1 = .ok (.tableswitch 96 7 14 #[58, 96, 96, 96, 47, 69, 80, 89], 47) := by decide +kernel
theorem dX2_runRow_48 : decode cX2_runRow 48 = .ok (.aload_n 0, 1) := by decide +kernel
theorem dX2_runRow_49 : decode cX2_runRow 49 = .ok (.iload_n 2, 1) := by decide +kernel
theorem dX2_runRow_50 : decode cX2_runRow 50 = .ok (.iconst 0, 1) := by decide +kernel
theorem dX2_runRow_51 : decode cX2_runRow 51 = .ok (.aload 4, 2) := by decide +kernel
theorem dX2_runRow_53 : decode cX2_runRow 53 = .ok (.aload 5, 2) := by decide +kernel
theorem dX2_runRow_55 : decode cX2_runRow 55 = .ok (.invokevirtual 63, 3) := by decide +kernel
theorem dX2_runRow_58 : decode cX2_runRow 58 = .ok (.ireturn, 1) := by decide +kernel
theorem dX2_runRow_59 : decode cX2_runRow 59 = .ok (.aload_n 0, 1) := by decide +kernel
theorem dX2_runRow_60 : decode cX2_runRow 60 = .ok (.iload_n 2, 1) := by decide +kernel
theorem dX2_runRow_61 : decode cX2_runRow 61 = .ok (.iconst 1, 1) := by decide +kernel
theorem dX2_runRow_62 : decode cX2_runRow 62 = .ok (.aload 4, 2) := by decide +kernel
theorem dX2_runRow_64 : decode cX2_runRow 64 = .ok (.aload 5, 2) := by decide +kernel
theorem dX2_runRow_66 : decode cX2_runRow 66 = .ok (.invokevirtual 63, 3) := by decide +kernel
theorem dX2_runRow_69 : decode cX2_runRow 69 = .ok (.ireturn, 1) := by decide +kernel
theorem dX2_runRow_70 : decode cX2_runRow 70 = .ok (.iload_n 2, 1) := by decide +kernel
theorem dX2_runRow_71 : decode cX2_runRow 71 = .ok (.iload_n 3, 1) := by decide +kernel
theorem dX2_runRow_72 : decode cX2_runRow 72 = .ok (.aload 5, 2) := by decide +kernel
theorem dX2_runRow_74 : decode cX2_runRow 74 = .ok (.getfield 44, 3) := by decide +kernel
theorem dX2_runRow_77 : decode cX2_runRow 77 = .ok (.invokestatic 67, 3) := by decide +kernel
theorem dX2_runRow_80 : decode cX2_runRow 80 = .ok (.ireturn, 1) := by decide +kernel
theorem dX2_runRow_81 : decode cX2_runRow 81 = .ok (.aload 5, 2) := by decide +kernel
theorem dX2_runRow_83 : decode cX2_runRow 83 = .ok (.getfield 44, 3) := by decide +kernel
theorem dX2_runRow_86 : decode cX2_runRow 86 = .ok (.invokestatic 71, 3) := by decide +kernel
theorem dX2_runRow_89 : decode cX2_runRow 89 = .ok (.ireturn, 1) := by decide +kernel
theorem dX2_runRow_90 : decode cX2_runRow 90 = .ok (.iload_n 2, 1) := by decide +kernel
theorem dX2_runRow_91 : decode cX2_runRow 91 = .ok (.aload 5, 2) := by decide +kernel
theorem dX2_runRow_93 : decode cX2_runRow 93 = .ok (.invokestatic 75, 3) := by decide +kernel
theorem dX2_runRow_96 : decode cX2_runRow 96 = .ok (.ireturn, 1) := by decide +kernel
theorem dX2_runRow_97 : decode cX2_runRow 97 = .ok (.aload 5, 2) := by decide +kernel
theorem dX2_runRow_99 : decode cX2_runRow 99 = .ok (.invokestatic 79, 3) := by decide +kernel
theorem dX2_runRow_102 : decode cX2_runRow 102 = .ok (.ireturn, 1) := by decide +kernel
theorem dX2_runMoves_0 : decode cX2_runMoves 0 = .ok (.iconst 0, 1) := by decide +kernel
theorem dX2_runMoves_1 : decode cX2_runMoves 1 = .ok (.istore 5, 2) := by decide +kernel
theorem dX2_runMoves_3 : decode cX2_runMoves 3 = .ok (.iconst 0, 1) := by decide +kernel
theorem dX2_runMoves_4 : decode cX2_runMoves 4 = .ok (.istore 6, 2) := by decide +kernel
theorem dX2_runMoves_6 : decode cX2_runMoves 6 = .ok (.iload 6, 2) := by decide +kernel
theorem dX2_runMoves_8 : decode cX2_runMoves 8 = .ok (.iload_n 1, 1) := by decide +kernel
theorem dX2_runMoves_9 : decode cX2_runMoves 9 = .ok (.if_icmp .ge 56, 3) := by decide +kernel
theorem dX2_runMoves_12 : decode cX2_runMoves 12 = .ok (.iload 5, 2) := by decide +kernel
theorem dX2_runMoves_14 : decode cX2_runMoves 14 = .ok (.ifCond .ne 51, 3) := by decide +kernel
theorem dX2_runMoves_17 : decode cX2_runMoves 17 = .ok (.aload 4, 2) := by decide +kernel
theorem dX2_runMoves_19 : decode cX2_runMoves 19 = .ok (.aload_n 3, 1) := by decide +kernel
theorem dX2_runMoves_20 : decode cX2_runMoves 20 = .ok (.iload_n 2, 1) := by decide +kernel
theorem dX2_runMoves_21 : decode cX2_runMoves 21 = .ok (.invokevirtual 83, 3) := by decide +kernel
theorem dX2_runMoves_24 : decode cX2_runMoves 24 = .ok (.istore 5, 2) := by decide +kernel
theorem dX2_runMoves_26 : decode cX2_runMoves 26 = .ok (.iload 5, 2) := by decide +kernel
theorem dX2_runMoves_28 : decode cX2_runMoves 28 = .ok (.ifCond .ne 31, 3) := by decide +kernel
theorem dX2_runMoves_31 : decode cX2_runMoves 31 = .ok (.aload_n 0, 1) := by decide +kernel
theorem dX2_runMoves_32 : decode cX2_runMoves 32 = .ok (.dup, 1) := by decide +kernel
theorem dX2_runMoves_33 : decode cX2_runMoves 33 = .ok (.getfield 15, 3) := by decide +kernel
theorem dX2_runMoves_36 : decode cX2_runMoves 36 = .ok (.iconst 1, 1) := by decide +kernel
theorem dX2_runMoves_37 : decode cX2_runMoves 37 = .ok (.iadd, 1) := by decide +kernel
theorem dX2_runMoves_38 : decode cX2_runMoves 38 = .ok (.putfield 15, 3) := by decide +kernel
theorem dX2_runMoves_41 : decode cX2_runMoves 41 = .ok (.aload_n 0, 1) := by decide +kernel
theorem dX2_runMoves_42 : decode cX2_runMoves 42 = .ok (.dup, 1) := by decide +kernel
theorem dX2_runMoves_43 : decode cX2_runMoves 43 = .ok (.getfield 19, 3) := by decide +kernel
theorem dX2_runMoves_46 : decode cX2_runMoves 46 = .ok (.iload_n 2, 1) := by decide +kernel
theorem dX2_runMoves_47 : decode cX2_runMoves 47 = .ok (.ifCond .eq 7, 3) := by decide +kernel
theorem dX2_runMoves_50 : decode cX2_runMoves 50 = .ok (.iconst 1, 1) := by decide +kernel
theorem dX2_runMoves_51 : decode cX2_runMoves 51 = .ok (.goto 4, 3) := by decide +kernel
theorem dX2_runMoves_54 : decode cX2_runMoves 54 = .ok (.iconst 0, 1) := by decide +kernel
theorem dX2_runMoves_55 : decode cX2_runMoves 55 = .ok (.iadd, 1) := by decide +kernel
theorem dX2_runMoves_56 : decode cX2_runMoves 56 = .ok (.putfield 19, 3) := by decide +kernel
theorem dX2_runMoves_59 : decode cX2_runMoves 59 = .ok (.iinc 6 1, 3) := by decide +kernel
theorem dX2_runMoves_62 : decode cX2_runMoves 62 = .ok (.goto (-56), 3) := by decide +kernel
theorem dX2_runMoves_65 : decode cX2_runMoves 65 = .ok (.iload 5, 2) := by decide +kernel
theorem dX2_runMoves_67 : decode cX2_runMoves 67 = .ok (.ireturn, 1) := by decide +kernel
theorem dX2_runHelp_0 : decode cX2_runHelp 0 = .ok (.iload_n 0, 1) := by decide +kernel
theorem dX2_runHelp_1 : decode cX2_runHelp 1 = .ok (.aload_n 2, 1) := by decide +kernel
theorem dX2_runHelp_2 : decode cX2_runHelp 2 = .ok (.getfield 55, 3) := by decide +kernel
theorem dX2_runHelp_5 : decode cX2_runHelp 5 = .ok (.if_icmp .lt 5, 3) := by decide +kernel
theorem dX2_runHelp_8 : decode cX2_runHelp 8 = .ok (.iconst 3, 1) := by decide +kernel
theorem dX2_runHelp_9 : decode cX2_runHelp 9 = .ok (.ireturn, 1) := by decide +kernel
theorem dX2_runHelp_10 : decode cX2_runHelp 10 = .ok (.aload_n 2, 1) := by decide +kernel
theorem dX2_runHelp_11 : decode cX2_runHelp 11 = .ok (.invokevirtual 87, 3) := by decide +kernel
theorem dX2_runHelp_14 : decode cX2_runHelp 14 = .ok (.iconst 4, 1) := by decide +kernel
theorem dX2_runHelp_15 : decode cX2_runHelp 15 = .ok (.if_icmp .lt 5, 3) := by decide +kernel
theorem dX2_runHelp_18 : decode cX2_runHelp 18 = .ok (.iconst 5, 1) := by decide +kernel
theorem dX2_runHelp_19 : decode cX2_runHelp 19 = .ok (.ireturn, 1) := by decide +kernel
theorem dX2_runHelp_20 : decode cX2_runHelp 20 = .ok (.aload_n 2, 1) := by decide +kernel
theorem dX2_runHelp_21 : decode cX2_runHelp 21 = .ok (.iload_n 0, 1) := by decide +kernel
theorem dX2_runHelp_22 : decode cX2_runHelp 22 = .ok (.iload_n 1, 1) := by decide +kernel
theorem dX2_runHelp_23 : decode cX2_runHelp 23 = .ok (.invokevirtual 91, 3) := by decide +kernel
theorem dX2_runHelp_26 : decode cX2_runHelp 26 = .ok (.iconst 0, 1) := by decide +kernel
theorem dX2_runHelp_27 : decode cX2_runHelp 27 = .ok (.ireturn, 1) := by decide +kernel
theorem dX2_runOff_0 : decode cX2_runOff 0 = .ok (.aload_n 0, 1) := by decide +kernel
theorem dX2_runOff_1 : decode cX2_runOff 1 = .ok (.invokevirtual 87, 3) := by decide +kernel
theorem dX2_runOff_4 : decode cX2_runOff 4 = .ok (.ifCond .ne 5, 3) := by decide +kernel
theorem dX2_runOff_7 : decode cX2_runOff 7 = .ok (.iconst 4, 1) := by decide +kernel
theorem dX2_runOff_8 : decode cX2_runOff 8 = .ok (.ireturn, 1) := by decide +kernel
theorem dX2_runOff_9 : decode cX2_runOff 9 = .ok (.aload_n 0, 1) := by decide +kernel
theorem dX2_runOff_10 : decode cX2_runOff 10 = .ok (.invokevirtual 95, 3) := by decide +kernel
theorem dX2_runOff_13 : decode cX2_runOff 13 = .ok (.iconst 0, 1) := by decide +kernel
theorem dX2_runOff_14 : decode cX2_runOff 14 = .ok (.ireturn, 1) := by decide +kernel
theorem dX2_runCut_0 : decode cX2_runCut 0 = .ok (.iload_n 0, 1) := by decide +kernel
theorem dX2_runCut_1 : decode cX2_runCut 1 = .ok (.aload_n 1, 1) := by decide +kernel
theorem dX2_runCut_2 : decode cX2_runCut 2 = .ok (.getfield 44, 3) := by decide +kernel
theorem dX2_runCut_5 : decode cX2_runCut 5 = .ok (.getfield 55, 3) := by decide +kernel
theorem dX2_runCut_8 : decode cX2_runCut 8 = .ok (.if_icmp .lt 5, 3) := by decide +kernel
theorem dX2_runCut_11 : decode cX2_runCut 11 = .ok (.iconst 3, 1) := by decide +kernel
theorem dX2_runCut_12 : decode cX2_runCut 12 = .ok (.ireturn, 1) := by decide +kernel
theorem dX2_runCut_13 : decode cX2_runCut 13 = .ok (.aload_n 1, 1) := by decide +kernel
theorem dX2_runCut_14 : decode cX2_runCut 14 = .ok (.iload_n 0, 1) := by decide +kernel
theorem dX2_runCut_15 : decode cX2_runCut 15 = .ok (.invokevirtual 98, 3) := by decide +kernel
theorem dX2_runCut_18 : decode cX2_runCut 18 = .ok (.iconst 0, 1) := by decide +kernel
theorem dX2_runCut_19 : decode cX2_runCut 19 = .ok (.ireturn, 1) := by decide +kernel
theorem dX2_runRest_0 : decode cX2_runRest 0 = .ok (.aload_n 0, 1) := by decide +kernel
theorem dX2_runRest_1 : decode cX2_runRest 1 = .ok (.getfield 102, 3) := by decide +kernel
theorem dX2_runRest_4 : decode cX2_runRest 4 = .ok (.ifCond .ne 6, 3) := by decide +kernel
theorem dX2_runRest_7 : decode cX2_runRest 7 = .ok (.bipush 6, 2) := by decide +kernel
theorem dX2_runRest_9 : decode cX2_runRest 9 = .ok (.ireturn, 1) := by decide +kernel
theorem dX2_runRest_10 : decode cX2_runRest 10 = .ok (.aload_n 0, 1) := by decide +kernel
theorem dX2_runRest_11 : decode cX2_runRest 11 = .ok (.iconst 0, 1) := by decide +kernel
theorem dX2_runRest_12 : decode cX2_runRest 12 = .ok (.putfield 102, 3) := by decide +kernel
theorem dX2_runRest_15 : decode cX2_runRest 15 = .ok (.iconst 0, 1) := by decide +kernel
theorem dX2_runRest_16 : decode cX2_runRest 16 = .ok (.ireturn, 1) := by decide +kernel
theorem dX3_init_0 : decode cX3_init 0 = .ok (.aload_n 0, 1) := by decide +kernel
theorem dX3_init_1 : decode cX3_init 1 = .ok (.invokespecial 3, 3) := by decide +kernel
theorem dX3_init_4 : decode cX3_init 4 = .ok (.aload_n 0, 1) := by decide +kernel
theorem dX3_init_5 : decode cX3_init 5 = .ok (.sipush 400, 3) := by decide +kernel
theorem dX3_init_8 : decode cX3_init 8 = .ok (.newarray .int, 2) := by decide +kernel
theorem dX3_init_10 : decode cX3_init 10 = .ok (.putfield 9, 3) := by decide +kernel
theorem dX3_init_13 : decode cX3_init 13 = .ok (.aload_n 0, 1) := by decide +kernel
theorem dX3_init_14 : decode cX3_init 14 = .ok (.bipush 30, 2) := by decide +kernel
theorem dX3_init_16 : decode cX3_init 16 = .ok (.newarray .int, 2) := by decide +kernel
theorem dX3_init_18 : decode cX3_init 18 = .ok (.putfield 15, 3) := by decide +kernel
theorem dX3_init_21 : decode cX3_init 21 = .ok (.aload_n 0, 1) := by decide +kernel
theorem dX3_init_22 : decode cX3_init 22 = .ok (.bipush 16, 2) := by decide +kernel
theorem dX3_init_24 : decode cX3_init 24 = .ok (.newarray .int, 2) := by decide +kernel
theorem dX3_init_26 : decode cX3_init 26 = .ok (.putfield 18, 3) := by decide +kernel
theorem dX3_init_29 : decode cX3_init 29 = .ok (.aload_n 0, 1) := by decide +kernel
theorem dX3_init_30 : decode cX3_init 30 = .ok (.bipush 18, 2) := by decide +kernel
theorem dX3_init_32 : decode cX3_init 32 = .ok (.newarray .int, 2) := by decide +kernel
theorem dX3_init_34 : decode cX3_init 34 = .ok (.putfield 21, 3) := by decide +kernel
theorem dX3_init_37 : decode cX3_init 37 = .ok (.aload_n 0, 1) := by decide +kernel
theorem dX3_init_38 : decode cX3_init 38 = .ok (.bipush 8, 2) := by decide +kernel
theorem dX3_init_40 : decode cX3_init 40 = .ok (.newarray .int, 2) := by decide +kernel
theorem dX3_init_42 : decode cX3_init 42 = .ok (.putfield 24, 3) := by decide +kernel
theorem dX3_init_45 : decode cX3_init 45 = .ok (.aload_n 0, 1) := by decide +kernel
theorem dX3_init_46 : decode cX3_init 46 = .ok (.invokevirtual 27, 3) := by decide +kernel
theorem dX3_init_49 : decode cX3_init 49 = .ok (.return_, 1) := by decide +kernel
theorem dX3_clear_0 : decode cX3_clear 0 = .ok (.aload_n 0, 1) := by decide +kernel
theorem dX3_clear_1 : decode cX3_clear 1 = .ok (.iconst 0, 1) := by decide +kernel
theorem dX3_clear_2 : decode cX3_clear 2 = .ok (.putfield 30, 3) := by decide +kernel
theorem dX3_clear_5 : decode cX3_clear 5 = .ok (.aload_n 0, 1) := by decide +kernel
theorem dX3_clear_6 : decode cX3_clear 6 = .ok (.iconst 0, 1) := by decide +kernel
theorem dX3_clear_7 : decode cX3_clear 7 = .ok (.putfield 34, 3) := by decide +kernel
theorem dX3_clear_10 : decode cX3_clear 10 = .ok (.aload_n 0, 1) := by decide +kernel
theorem dX3_clear_11 : decode cX3_clear 11 = .ok (.iconst 0, 1) := by decide +kernel
theorem dX3_clear_12 : decode cX3_clear 12 = .ok (.putfield 37, 3) := by decide +kernel
theorem dX3_clear_15 : decode cX3_clear 15 = .ok (.aload_n 0, 1) := by decide +kernel
theorem dX3_clear_16 : decode cX3_clear 16 = .ok (.iconst 0, 1) := by decide +kernel
theorem dX3_clear_17 : decode cX3_clear 17 = .ok (.putfield 40, 3) := by decide +kernel
theorem dX3_clear_20 : decode cX3_clear 20 = .ok (.aload_n 0, 1) := by decide +kernel
theorem dX3_clear_21 : decode cX3_clear 21 = .ok (.iconst 0, 1) := by decide +kernel
theorem dX3_clear_22 : decode cX3_clear 22 = .ok (.putfield 43, 3) := by decide +kernel
theorem dX3_clear_25 : decode cX3_clear 25 = .ok (.aload_n 0, 1) := by decide +kernel
theorem dX3_clear_26 : decode cX3_clear 26 = .ok (.bipush 100, 2) := by decide +kernel
theorem dX3_clear_28 : decode cX3_clear 28 = .ok (.putfield 46, 3) := by decide +kernel
theorem dX3_clear_31 : decode cX3_clear 31 = .ok (.aload_n 0, 1) := by decide +kernel
theorem dX3_clear_32 : decode cX3_clear 32 = .ok (.bipush 10, 2) := by decide +kernel
theorem dX3_clear_34 : decode cX3_clear 34 = .ok (.putfield 49, 3) := by decide +kernel
theorem dX3_clear_37 : decode cX3_clear 37 = .ok (.aload_n 0, 1) := by decide +kernel
theorem dX3_clear_38 : decode cX3_clear 38 = .ok (.iconst 1, 1) := by decide +kernel
theorem dX3_clear_39 : decode cX3_clear 39 = .ok (.putfield 52, 3) := by decide +kernel
theorem dX3_clear_42 : decode cX3_clear 42 = .ok (.aload_n 0, 1) := by decide +kernel
theorem dX3_clear_43 : decode cX3_clear 43 = .ok (.bipush 10, 2) := by decide +kernel
theorem dX3_clear_45 : decode cX3_clear 45 = .ok (.putfield 55, 3) := by decide +kernel
theorem dX3_clear_48 : decode cX3_clear 48 = .ok (.aload_n 0, 1) := by decide +kernel
theorem dX3_clear_49 : decode cX3_clear 49 = .ok (.bipush 10, 2) := by decide +kernel
theorem dX3_clear_51 : decode cX3_clear 51 = .ok (.putfield 58, 3) := by decide +kernel
theorem dX3_clear_54 : decode cX3_clear 54 = .ok (.aload_n 0, 1) := by decide +kernel
theorem dX3_clear_55 : decode cX3_clear 55 = .ok (.iconst 2, 1) := by decide +kernel
theorem dX3_clear_56 : decode cX3_clear 56 = .ok (.putfield 61, 3) := by decide +kernel
theorem dX3_clear_59 : decode cX3_clear 59 = .ok (.return_, 1) := by decide +kernel
theorem dX3_copyFrom_0 : decode cX3_copyFrom 0 = .ok (.aload_n 1, 1) := by decide +kernel
theorem dX3_copyFrom_1 : decode cX3_copyFrom 1 = .ok (.getfield 9, 3) := by decide +kernel
theorem dX3_copyFrom_4 : decode cX3_copyFrom 4 = .ok (.iconst 0, 1) := by decide +kernel
theorem dX3_copyFrom_5 : decode cX3_copyFrom 5 = .ok (.aload_n 0, 1) := by decide +kernel
theorem dX3_copyFrom_6 : decode cX3_copyFrom 6 = .ok (.getfield 9, 3) := by decide +kernel
theorem dX3_copyFrom_9 : decode cX3_copyFrom 9 = .ok (.iconst 0, 1) := by decide +kernel
theorem dX3_copyFrom_10 : decode cX3_copyFrom 10 = .ok (.sipush 400, 3) := by decide +kernel
theorem dX3_copyFrom_13 : decode cX3_copyFrom 13 = .ok (.invokestatic 64, 3) := by decide +kernel
theorem dX3_copyFrom_16 : decode cX3_copyFrom 16 = .ok (.aload_n 1, 1) := by decide +kernel
theorem dX3_copyFrom_17 : decode cX3_copyFrom 17 = .ok (.getfield 15, 3) := by decide +kernel
theorem dX3_copyFrom_20 : decode cX3_copyFrom 20 = .ok (.iconst 0, 1) := by decide +kernel
theorem dX3_copyFrom_21 : decode cX3_copyFrom 21 = .ok (.aload_n 0, 1) := by decide +kernel
theorem dX3_copyFrom_22 : decode cX3_copyFrom 22 = .ok (.getfield 15, 3) := by decide +kernel
theorem dX3_copyFrom_25 : decode cX3_copyFrom 25 = .ok (.iconst 0, 1) := by decide +kernel
theorem dX3_copyFrom_26 : decode cX3_copyFrom 26 = .ok (.bipush 30, 2) := by decide +kernel
theorem dX3_copyFrom_28 : decode cX3_copyFrom 28 = .ok (.invokestatic 64, 3) := by decide +kernel
theorem dX3_copyFrom_31 : decode cX3_copyFrom 31 = .ok (.aload_n 1, 1) := by decide +kernel
theorem dX3_copyFrom_32 : decode cX3_copyFrom 32 = .ok (.getfield 18, 3) := by decide +kernel
theorem dX3_copyFrom_35 : decode cX3_copyFrom 35 = .ok (.iconst 0, 1) := by decide +kernel
theorem dX3_copyFrom_36 : decode cX3_copyFrom 36 = .ok (.aload_n 0, 1) := by decide +kernel
theorem dX3_copyFrom_37 : decode cX3_copyFrom 37 = .ok (.getfield 18, 3) := by decide +kernel
theorem dX3_copyFrom_40 : decode cX3_copyFrom 40 = .ok (.iconst 0, 1) := by decide +kernel
theorem dX3_copyFrom_41 : decode cX3_copyFrom 41 = .ok (.bipush 16, 2) := by decide +kernel
theorem dX3_copyFrom_43 : decode cX3_copyFrom 43 = .ok (.invokestatic 64, 3) := by decide +kernel
theorem dX3_copyFrom_46 : decode cX3_copyFrom 46 = .ok (.aload_n 1, 1) := by decide +kernel
theorem dX3_copyFrom_47 : decode cX3_copyFrom 47 = .ok (.getfield 21, 3) := by decide +kernel
theorem dX3_copyFrom_50 : decode cX3_copyFrom 50 = .ok (.iconst 0, 1) := by decide +kernel
theorem dX3_copyFrom_51 : decode cX3_copyFrom 51 = .ok (.aload_n 0, 1) := by decide +kernel
theorem dX3_copyFrom_52 : decode cX3_copyFrom 52 = .ok (.getfield 21, 3) := by decide +kernel
theorem dX3_copyFrom_55 : decode cX3_copyFrom 55 = .ok (.iconst 0, 1) := by decide +kernel
theorem dX3_copyFrom_56 : decode cX3_copyFrom 56 = .ok (.bipush 18, 2) := by decide +kernel
theorem dX3_copyFrom_58 : decode cX3_copyFrom 58 = .ok (.invokestatic 64, 3) := by decide +kernel
theorem dX3_copyFrom_61 : decode cX3_copyFrom 61 = .ok (.aload_n 1, 1) := by decide +kernel
theorem dX3_copyFrom_62 : decode cX3_copyFrom 62 = .ok (.getfield 24, 3) := by decide +kernel
theorem dX3_copyFrom_65 : decode cX3_copyFrom 65 = .ok (.iconst 0, 1) := by decide +kernel
theorem dX3_copyFrom_66 : decode cX3_copyFrom 66 = .ok (.aload_n 0, 1) := by decide +kernel
theorem dX3_copyFrom_67 : decode cX3_copyFrom 67 = .ok (.getfield 24, 3) := by decide +kernel
theorem dX3_copyFrom_70 : decode cX3_copyFrom 70 = .ok (.iconst 0, 1) := by decide +kernel
theorem dX3_copyFrom_71 : decode cX3_copyFrom 71 = .ok (.bipush 8, 2) := by decide +kernel
theorem dX3_copyFrom_73 : decode cX3_copyFrom 73 = .ok (.invokestatic 64, 3) := by decide +kernel
theorem dX3_copyFrom_76 : decode cX3_copyFrom 76 = .ok (.aload_n 0, 1) := by decide +kernel
theorem dX3_copyFrom_77 : decode cX3_copyFrom 77 = .ok (.aload_n 1, 1) := by decide +kernel
theorem dX3_copyFrom_78 : decode cX3_copyFrom 78 = .ok (.getfield 30, 3) := by decide +kernel
theorem dX3_copyFrom_81 : decode cX3_copyFrom 81 = .ok (.putfield 30, 3) := by decide +kernel
theorem dX3_copyFrom_84 : decode cX3_copyFrom 84 = .ok (.aload_n 0, 1) := by decide +kernel
theorem dX3_copyFrom_85 : decode cX3_copyFrom 85 = .ok (.aload_n 1, 1) := by decide +kernel
theorem dX3_copyFrom_86 : decode cX3_copyFrom 86 = .ok (.getfield 34, 3) := by decide +kernel
theorem dX3_copyFrom_89 : decode cX3_copyFrom 89 = .ok (.putfield 34, 3) := by decide +kernel
theorem dX3_copyFrom_92 : decode cX3_copyFrom 92 = .ok (.aload_n 0, 1) := by decide +kernel
theorem dX3_copyFrom_93 : decode cX3_copyFrom 93 = .ok (.aload_n 1, 1) := by decide +kernel
theorem dX3_copyFrom_94 : decode cX3_copyFrom 94 = .ok (.getfield 37, 3) := by decide +kernel
theorem dX3_copyFrom_97 : decode cX3_copyFrom 97 = .ok (.putfield 37, 3) := by decide +kernel
theorem dX3_copyFrom_100 : decode cX3_copyFrom 100 = .ok (.aload_n 0, 1) := by decide +kernel
theorem dX3_copyFrom_101 : decode cX3_copyFrom 101 = .ok (.aload_n 1, 1) := by decide +kernel
theorem dX3_copyFrom_102 : decode cX3_copyFrom 102 = .ok (.getfield 40, 3) := by decide +kernel
theorem dX3_copyFrom_105 : decode cX3_copyFrom 105 = .ok (.putfield 40, 3) := by decide +kernel
theorem dX3_copyFrom_108 : decode cX3_copyFrom 108 = .ok (.aload_n 0, 1) := by decide +kernel
theorem dX3_copyFrom_109 : decode cX3_copyFrom 109 = .ok (.aload_n 1, 1) := by decide +kernel
theorem dX3_copyFrom_110 : decode cX3_copyFrom 110 = .ok (.getfield 43, 3) := by decide +kernel
theorem dX3_copyFrom_113 : decode cX3_copyFrom 113 = .ok (.putfield 43, 3) := by decide +kernel
theorem dX3_copyFrom_116 : decode cX3_copyFrom 116 = .ok (.aload_n 0, 1) := by decide +kernel
theorem dX3_copyFrom_117 : decode cX3_copyFrom 117 = .ok (.aload_n 1, 1) := by decide +kernel
theorem dX3_copyFrom_118 : decode cX3_copyFrom 118 = .ok (.getfield 46, 3) := by decide +kernel
theorem dX3_copyFrom_121 : decode cX3_copyFrom 121 = .ok (.putfield 46, 3) := by decide +kernel
theorem dX3_copyFrom_124 : decode cX3_copyFrom 124 = .ok (.aload_n 0, 1) := by decide +kernel
theorem dX3_copyFrom_125 : decode cX3_copyFrom 125 = .ok (.aload_n 1, 1) := by decide +kernel
theorem dX3_copyFrom_126 : decode cX3_copyFrom 126 = .ok (.getfield 49, 3) := by decide +kernel
theorem dX3_copyFrom_129 : decode cX3_copyFrom 129 = .ok (.putfield 49, 3) := by decide +kernel
theorem dX3_copyFrom_132 : decode cX3_copyFrom 132 = .ok (.aload_n 0, 1) := by decide +kernel
theorem dX3_copyFrom_133 : decode cX3_copyFrom 133 = .ok (.aload_n 1, 1) := by decide +kernel
theorem dX3_copyFrom_134 : decode cX3_copyFrom 134 = .ok (.getfield 52, 3) := by decide +kernel
theorem dX3_copyFrom_137 : decode cX3_copyFrom 137 = .ok (.putfield 52, 3) := by decide +kernel
theorem dX3_copyFrom_140 : decode cX3_copyFrom 140 = .ok (.aload_n 0, 1) := by decide +kernel
theorem dX3_copyFrom_141 : decode cX3_copyFrom 141 = .ok (.aload_n 1, 1) := by decide +kernel
theorem dX3_copyFrom_142 : decode cX3_copyFrom 142 = .ok (.getfield 55, 3) := by decide +kernel
theorem dX3_copyFrom_145 : decode cX3_copyFrom 145 = .ok (.putfield 55, 3) := by decide +kernel
theorem dX3_copyFrom_148 : decode cX3_copyFrom 148 = .ok (.aload_n 0, 1) := by decide +kernel
theorem dX3_copyFrom_149 : decode cX3_copyFrom 149 = .ok (.aload_n 1, 1) := by decide +kernel
theorem dX3_copyFrom_150 : decode cX3_copyFrom 150 = .ok (.getfield 58, 3) := by decide +kernel
theorem dX3_copyFrom_153 : decode cX3_copyFrom 153 = .ok (.putfield 58, 3) := by decide +kernel
theorem dX3_copyFrom_156 : decode cX3_copyFrom 156 = .ok (.aload_n 0, 1) := by decide +kernel
theorem dX3_copyFrom_157 : decode cX3_copyFrom 157 = .ok (.aload_n 1, 1) := by decide +kernel
theorem dX3_copyFrom_158 : decode cX3_copyFrom 158 = .ok (.getfield 61, 3) := by decide +kernel
theorem dX3_copyFrom_161 : decode cX3_copyFrom 161 = .ok (.putfield 61, 3) := by decide +kernel
theorem dX3_copyFrom_164 : decode cX3_copyFrom 164 = .ok (.return_, 1) := by decide +kernel
theorem dX3_gradeOf_0 : decode cX3_gradeOf 0 = .ok (.iload_n 1, 1) := by decide +kernel
theorem dX3_gradeOf_1 : decode cX3_gradeOf 1 = .ok (.ifCond .lt 11, 3) := by decide +kernel
theorem dX3_gradeOf_4 : decode cX3_gradeOf 4 = .ok (.iload_n 1, 1) := by decide +kernel
theorem dX3_gradeOf_5 : decode cX3_gradeOf 5 = .ok (.aload_n 0, 1) := by decide +kernel
theorem dX3_gradeOf_6 : decode cX3_gradeOf 6 = .ok (.getfield 30, 3) := by decide +kernel
theorem dX3_gradeOf_9 : decode cX3_gradeOf 9 = .ok (.if_icmp .lt 7, 3) := by decide +kernel
theorem dX3_gradeOf_12 : decode cX3_gradeOf 12 = .ok (.iconst 0, 1) := by decide +kernel
theorem dX3_gradeOf_13 : decode cX3_gradeOf 13 = .ok (.goto 9, 3) := by decide +kernel
theorem dX3_gradeOf_16 : decode cX3_gradeOf 16 = .ok (.aload_n 0, 1) := by decide +kernel
theorem dX3_gradeOf_17 : decode cX3_gradeOf 17 = .ok (.getfield 9, 3) := by decide +kernel
theorem dX3_gradeOf_20 : decode cX3_gradeOf 20 = .ok (.iload_n 1, 1) := by decide +kernel
theorem dX3_gradeOf_21 : decode cX3_gradeOf 21 = .ok (.iaload, 1) := by decide +kernel
theorem dX3_gradeOf_22 : decode cX3_gradeOf 22 = .ok (.ireturn, 1) := by decide +kernel
theorem dX3_dragOf_0 : decode cX3_dragOf 0 = .ok (.iload_n 1, 1) := by decide +kernel
theorem dX3_dragOf_1 : decode cX3_dragOf 1 = .ok (.aload_n 0, 1) := by decide +kernel
theorem dX3_dragOf_2 : decode cX3_dragOf 2 = .ok (.iload_n 2, 1) := by decide +kernel
theorem dX3_dragOf_3 : decode cX3_dragOf 3 = .ok (.invokevirtual 70, 3) := by decide +kernel
theorem dX3_dragOf_6 : decode cX3_dragOf 6 = .ok (.aload_n 0, 1) := by decide +kernel
theorem dX3_dragOf_7 : decode cX3_dragOf 7 = .ok (.getfield 52, 3) := by decide +kernel
theorem dX3_dragOf_10 : decode cX3_dragOf 10 = .ok (.iadd, 1) := by decide +kernel
theorem dX3_dragOf_11 : decode cX3_dragOf 11 = .ok (.imul, 1) := by decide +kernel
theorem dX3_dragOf_12 : decode cX3_dragOf 12 = .ok (.ireturn, 1) := by decide +kernel
theorem dX3_haltAt_0 : decode cX3_haltAt 0 = .ok (.aload_n 0, 1) := by decide +kernel
theorem dX3_haltAt_1 : decode cX3_haltAt 1 = .ok (.getfield 15, 3) := by decide +kernel
theorem dX3_haltAt_4 : decode cX3_haltAt 4 = .ok (.iconst 3, 1) := by decide +kernel
theorem dX3_haltAt_5 : decode cX3_haltAt 5 = .ok (.iload_n 1, 1) := by decide +kernel
theorem dX3_haltAt_6 : decode cX3_haltAt 6 = .ok (.imul, 1) := by decide +kernel
theorem dX3_haltAt_7 : decode cX3_haltAt 7 = .ok (.iaload, 1) := by decide +kernel
theorem dX3_haltAt_8 : decode cX3_haltAt 8 = .ok (.ireturn, 1) := by decide +kernel
theorem dX3_haltLong_0 : decode cX3_haltLong 0 = .ok (.aload_n 0, 1) := by decide +kernel
theorem dX3_haltLong_1 : decode cX3_haltLong 1 = .ok (.getfield 15, 3) := by decide +kernel
theorem dX3_haltLong_4 : decode cX3_haltLong 4 = .ok (.iconst 3, 1) := by decide +kernel
theorem dX3_haltLong_5 : decode cX3_haltLong 5 = .ok (.iload_n 1, 1) := by decide +kernel
theorem dX3_haltLong_6 : decode cX3_haltLong 6 = .ok (.imul, 1) := by decide +kernel
theorem dX3_haltLong_7 : decode cX3_haltLong 7 = .ok (.iconst 1, 1) := by decide +kernel
theorem dX3_haltLong_8 : decode cX3_haltLong 8 = .ok (.iadd, 1) := by decide +kernel
theorem dX3_haltLong_9 : decode cX3_haltLong 9 = .ok (.iaload, 1) := by decide +kernel
theorem dX3_haltLong_10 : decode cX3_haltLong 10 = .ok (.ireturn, 1) := by decide +kernel
theorem dX3_haltAdds_0 : decode cX3_haltAdds 0 = .ok (.aload_n 0, 1) := by decide +kernel
theorem dX3_haltAdds_1 : decode cX3_haltAdds 1 = .ok (.getfield 15, 3) := by decide +kernel
theorem dX3_haltAdds_4 : decode cX3_haltAdds 4 = .ok (.iconst 3, 1) := by decide +kernel
theorem dX3_haltAdds_5 : decode cX3_haltAdds 5 = .ok (.iload_n 1, 1) := by decide +kernel
theorem dX3_haltAdds_6 : decode cX3_haltAdds 6 = .ok (.imul, 1) := by decide +kernel
theorem dX3_haltAdds_7 : decode cX3_haltAdds 7 = .ok (.iconst 2, 1) := by decide +kernel
theorem dX3_haltAdds_8 : decode cX3_haltAdds 8 = .ok (.iadd, 1) := by decide +kernel
theorem dX3_haltAdds_9 : decode cX3_haltAdds 9 = .ok (.iaload, 1) := by decide +kernel
theorem dX3_haltAdds_10 : decode cX3_haltAdds 10 = .ok (.ireturn, 1) := by decide +kernel
theorem dX3_longOf_0 : decode cX3_longOf 0 = .ok (.aload_n 0, 1) := by decide +kernel
theorem dX3_longOf_1 : decode cX3_longOf 1 = .ok (.getfield 21, 3) := by decide +kernel
theorem dX3_longOf_4 : decode cX3_longOf 4 = .ok (.iconst 3, 1) := by decide +kernel
theorem dX3_longOf_5 : decode cX3_longOf 5 = .ok (.iload_n 1, 1) := by decide +kernel
theorem dX3_longOf_6 : decode cX3_longOf 6 = .ok (.imul, 1) := by decide +kernel
theorem dX3_longOf_7 : decode cX3_longOf 7 = .ok (.iaload, 1) := by decide +kernel
theorem dX3_longOf_8 : decode cX3_longOf 8 = .ok (.ireturn, 1) := by decide +kernel
theorem dX3_weightOf_0 : decode cX3_weightOf 0 = .ok (.aload_n 0, 1) := by decide +kernel
theorem dX3_weightOf_1 : decode cX3_weightOf 1 = .ok (.getfield 21, 3) := by decide +kernel
theorem dX3_weightOf_4 : decode cX3_weightOf 4 = .ok (.iconst 3, 1) := by decide +kernel
theorem dX3_weightOf_5 : decode cX3_weightOf 5 = .ok (.iload_n 1, 1) := by decide +kernel
theorem dX3_weightOf_6 : decode cX3_weightOf 6 = .ok (.imul, 1) := by decide +kernel
theorem dX3_weightOf_7 : decode cX3_weightOf 7 = .ok (.iconst 1, 1) := by decide +kernel
theorem dX3_weightOf_8 : decode cX3_weightOf 8 = .ok (.iadd, 1) := by decide +kernel
theorem dX3_weightOf_9 : decode cX3_weightOf 9 = .ok (.iaload, 1) := by decide +kernel
theorem dX3_weightOf_10 : decode cX3_weightOf 10 = .ok (.ireturn, 1) := by decide +kernel
theorem dX3_strengthOf_0 : decode cX3_strengthOf 0 = .ok (.aload_n 0, 1) := by decide +kernel
theorem dX3_strengthOf_1 : decode cX3_strengthOf 1 = .ok (.getfield 21, 3) := by decide +kernel
theorem dX3_strengthOf_4 : decode cX3_strengthOf 4 = .ok (.iconst 3, 1) := by decide +kernel
theorem dX3_strengthOf_5 : decode cX3_strengthOf 5 = .ok (.iload_n 1, 1) := by decide +kernel
theorem dX3_strengthOf_6 : decode cX3_strengthOf 6 = .ok (.imul, 1) := by decide +kernel
theorem dX3_strengthOf_7 : decode cX3_strengthOf 7 = .ok (.iconst 2, 1) := by decide +kernel
theorem dX3_strengthOf_8 : decode cX3_strengthOf 8 = .ok (.iadd, 1) := by decide +kernel
theorem dX3_strengthOf_9 : decode cX3_strengthOf 9 = .ok (.iaload, 1) := by decide +kernel
theorem dX3_strengthOf_10 : decode cX3_strengthOf 10 = .ok (.ireturn, 1) := by decide +kernel
theorem dX3_haltBehind_0 : decode cX3_haltBehind 0 = .ok (.iconst 0, 1) := by decide +kernel
theorem dX3_haltBehind_1 : decode cX3_haltBehind 1 = .ok (.istore_n 2, 1) := by decide +kernel
theorem dX3_haltBehind_2 : decode cX3_haltBehind 2 = .ok (.iload_n 2, 1) := by decide +kernel
theorem dX3_haltBehind_3 : decode cX3_haltBehind 3 = .ok (.aload_n 0, 1) := by decide +kernel
theorem dX3_haltBehind_4 : decode cX3_haltBehind 4 = .ok (.getfield 34, 3) := by decide +kernel
theorem dX3_haltBehind_7 : decode cX3_haltBehind 7 = .ok (.if_icmp .ge 20, 3) := by decide +kernel
theorem dX3_haltBehind_10 : decode cX3_haltBehind 10 = .ok (.aload_n 0, 1) := by decide +kernel
theorem dX3_haltBehind_11 : decode cX3_haltBehind 11 = .ok (.iload_n 2, 1) := by decide +kernel
theorem dX3_haltBehind_12 : decode cX3_haltBehind 12 = .ok (.invokevirtual 74, 3) := by decide +kernel
theorem dX3_haltBehind_15 : decode cX3_haltBehind 15 = .ok (.iload_n 1, 1) := by decide +kernel
theorem dX3_haltBehind_16 : decode cX3_haltBehind 16 = .ok (.if_icmp .le 5, 3) := by decide +kernel
theorem dX3_haltBehind_19 : decode cX3_haltBehind 19 = .ok (.iload_n 2, 1) := by decide +kernel
theorem dX3_haltBehind_20 : decode cX3_haltBehind 20 = .ok (.ireturn, 1) := by decide +kernel
theorem dX3_haltBehind_21 : decode cX3_haltBehind 21 = .ok (.iinc 2 1, 3) := by decide +kernel
theorem dX3_haltBehind_24 : decode cX3_haltBehind 24 = .ok (.goto (-22), 3) := by decide +kernel
theorem dX3_haltBehind_27 : decode cX3_haltBehind 27 = .ok (.iconst (-1), 1) := by decide +kernel
theorem dX3_haltBehind_28 : decode cX3_haltBehind 28 = .ok (.ireturn, 1) := by decide +kernel
theorem dX4_init_0 : decode cX4_init 0 = .ok (.aload_n 0, 1) := by decide +kernel
theorem dX4_init_1 : decode cX4_init 1 = .ok (.invokespecial 3, 3) := by decide +kernel
theorem dX4_init_4 : decode cX4_init 4 = .ok (.aload_n 0, 1) := by decide +kernel
theorem dX4_init_5 : decode cX4_init 5 = .ok (.new 9, 3) := by decide +kernel
theorem dX4_init_8 : decode cX4_init 8 = .ok (.dup, 1) := by decide +kernel
theorem dX4_init_9 : decode cX4_init 9 = .ok (.invokespecial 11, 3) := by decide +kernel
theorem dX4_init_12 : decode cX4_init 12 = .ok (.putfield 12, 3) := by decide +kernel
theorem dX4_init_15 : decode cX4_init 15 = .ok (.aload_n 0, 1) := by decide +kernel
theorem dX4_init_16 : decode cX4_init 16 = .ok (.bipush 10, 2) := by decide +kernel
theorem dX4_init_18 : decode cX4_init 18 = .ok (.newarray .long, 2) := by decide +kernel
theorem dX4_init_20 : decode cX4_init 20 = .ok (.putfield 18, 3) := by decide +kernel
theorem dX4_init_23 : decode cX4_init 23 = .ok (.aload_n 0, 1) := by decide +kernel
theorem dX4_init_24 : decode cX4_init 24 = .ok (.bipush 6, 2) := by decide +kernel
theorem dX4_init_26 : decode cX4_init 26 = .ok (.newarray .long, 2) := by decide +kernel
theorem dX4_init_28 : decode cX4_init 28 = .ok (.putfield 22, 3) := by decide +kernel
theorem dX4_init_31 : decode cX4_init 31 = .ok (.return_, 1) := by decide +kernel
theorem dX4_read_0 : decode cX4_read 0 = .ok (.aload_n 0, 1) := by decide +kernel
theorem dX4_read_1 : decode cX4_read 1 = .ok (.getfield 12, 3) := by decide +kernel
theorem dX4_read_4 : decode cX4_read 4 = .ok (.aload_n 1, 1) := by decide +kernel
theorem dX4_read_5 : decode cX4_read 5 = .ok (.iload_n 2, 1) := by decide +kernel
theorem dX4_read_6 : decode cX4_read 6 = .ok (.sipush 900, 3) := by decide +kernel
theorem dX4_read_9 : decode cX4_read 9 = .ok (.invokevirtual 25, 3) := by decide +kernel
theorem dX4_read_12 : decode cX4_read 12 = .ok (.aload_n 0, 1) := by decide +kernel
theorem dX4_read_13 : decode cX4_read 13 = .ok (.aload_n 3, 1) := by decide +kernel
theorem dX4_read_14 : decode cX4_read 14 = .ok (.putfield 29, 3) := by decide +kernel
theorem dX4_read_17 : decode cX4_read 17 = .ok (.aload_n 0, 1) := by decide +kernel
theorem dX4_read_18 : decode cX4_read 18 = .ok (.getfield 29, 3) := by decide +kernel
theorem dX4_read_21 : decode cX4_read 21 = .ok (.invokevirtual 33, 3) := by decide +kernel
theorem dX4_read_24 : decode cX4_read 24 = .ok (.aload_n 0, 1) := by decide +kernel
theorem dX4_read_25 : decode cX4_read 25 = .ok (.iconst 0, 1) := by decide +kernel
theorem dX4_read_26 : decode cX4_read 26 = .ok (.putfield 38, 3) := by decide +kernel
theorem dX4_read_29 : decode cX4_read 29 = .ok (.aload_n 0, 1) := by decide +kernel
theorem dX4_read_30 : decode cX4_read 30 = .ok (.iconst 0, 1) := by decide +kernel
theorem dX4_read_31 : decode cX4_read 31 = .ok (.putfield 42, 3) := by decide +kernel
theorem dX4_read_34 : decode cX4_read 34 = .ok (.iconst 0, 1) := by decide +kernel
theorem dX4_read_35 : decode cX4_read 35 = .ok (.istore 4, 2) := by decide +kernel
theorem dX4_read_37 : decode cX4_read 37 = .ok (.aload_n 0, 1) := by decide +kernel
theorem dX4_read_38 : decode cX4_read 38 = .ok (.getfield 12, 3) := by decide +kernel
theorem dX4_read_41 : decode cX4_read 41 = .ok (.invokevirtual 45, 3) := by decide +kernel
theorem dX4_read_44 : decode cX4_read 44 = .ok (.iload 4, 2) := by decide +kernel
theorem dX4_read_46 : decode cX4_read 46 = .ok (.sipush 900, 3) := by decide +kernel
theorem dX4_read_49 : decode cX4_read 49 = .ok (.if_icmp .ge 40, 3) := by decide +kernel
theorem dX4_read_52 : decode cX4_read 52 = .ok (.aload_n 0, 1) := by decide +kernel
theorem dX4_read_53 : decode cX4_read 53 = .ok (.getfield 12, 3) := by decide +kernel
theorem dX4_read_56 : decode cX4_read 56 = .ok (.invokevirtual 48, 3) := by decide +kernel
theorem dX4_read_59 : decode cX4_read 59 = .ok (.ifCond .ne 30, 3) := by decide +kernel
theorem dX4_read_62 : decode cX4_read 62 = .ok (.aload_n 0, 1) := by decide +kernel
theorem dX4_read_63 : decode cX4_read 63 = .ok (.aload_n 0, 1) := by decide +kernel
theorem dX4_read_64 : decode cX4_read 64 = .ok (.getfield 12, 3) := by decide +kernel
theorem dX4_read_67 : decode cX4_read 67 = .ok (.invokevirtual 52, 3) := by decide +kernel
theorem dX4_read_70 : decode cX4_read 70 = .ok (.invokevirtual 56, 3) := by decide +kernel
theorem dX4_read_73 : decode cX4_read 73 = .ok (.ifCond .eq 16, 3) := by decide +kernel
theorem dX4_read_76 : decode cX4_read 76 = .ok (.iinc 4 1, 3) := by decide +kernel
theorem dX4_read_79 : decode cX4_read 79 = .ok (.aload_n 0, 1) := by decide +kernel
theorem dX4_read_80 : decode cX4_read 80 = .ok (.getfield 12, 3) := by decide +kernel
theorem dX4_read_83 : decode cX4_read 83 = .ok (.invokevirtual 45, 3) := by decide +kernel
theorem dX4_read_86 : decode cX4_read 86 = .ok (.goto (-42), 3) := by decide +kernel
theorem dX4_read_89 : decode cX4_read 89 = .ok (.aload_n 0, 1) := by decide +kernel
theorem dX4_read_90 : decode cX4_read 90 = .ok (.getfield 12, 3) := by decide +kernel
theorem dX4_read_93 : decode cX4_read 93 = .ok (.iload 4, 2) := by decide +kernel
theorem dX4_read_95 : decode cX4_read 95 = .ok (.invokevirtual 60, 3) := by decide +kernel
theorem dX4_read_98 : decode cX4_read 98 = .ok (.ireturn, 1) := by decide +kernel
theorem dX4_readRow_0 : decode cX4_readRow 0 = .ok (.iload_n 1, 1) := by decide +kernel
theorem dX4_readRow_1 : decode cX4_readRow 1 = .ok (.tableswitch 258 0 10 #[59, 82, 105, 128, 151, 174, 205, 205, 205, 205, 237], 59) := by decide +kernel
theorem dX4_readRow_60 : decode cX4_readRow 60 = .ok (.aload_n 0, 1) := by decide +kernel
theorem dX4_readRow_61 : decode cX4_readRow 61 = .ok (.invokevirtual 64, 3) := by decide +kernel
theorem dX4_readRow_64 : decode cX4_readRow 64 = .ok (.ifCond .eq 17, 3) := by decide +kernel
theorem dX4_readRow_67 : decode cX4_readRow 67 = .ok (.aload_n 0, 1) := by decide +kernel
theorem dX4_readRow_68 : decode cX4_readRow 68 = .ok (.getfield 12, 3) := by decide +kernel
theorem dX4_readRow_71 : decode cX4_readRow 71 = .ok (.invokevirtual 67, 3) := by decide +kernel
theorem dX4_readRow_74 : decode cX4_readRow 74 = .ok (.ifCond .eq 7, 3) := by decide +kernel
theorem dX4_readRow_77 : decode cX4_readRow 77 = .ok (.iconst 1, 1) := by decide +kernel
theorem dX4_readRow_78 : decode cX4_readRow 78 = .ok (.goto 4, 3) := by decide +kernel
theorem dX4_readRow_81 : decode cX4_readRow 81 = .ok (.iconst 0, 1) := by decide +kernel
theorem dX4_readRow_82 : decode cX4_readRow 82 = .ok (.ireturn, 1) := by decide +kernel
theorem dX4_readRow_83 : decode cX4_readRow 83 = .ok (.aload_n 0, 1) := by decide +kernel
theorem dX4_readRow_84 : decode cX4_readRow 84 = .ok (.invokevirtual 70, 3) := by decide +kernel
theorem dX4_readRow_87 : decode cX4_readRow 87 = .ok (.ifCond .eq 17, 3) := by decide +kernel
theorem dX4_readRow_90 : decode cX4_readRow 90 = .ok (.aload_n 0, 1) := by decide +kernel
theorem dX4_readRow_91 : decode cX4_readRow 91 = .ok (.getfield 12, 3) := by decide +kernel
theorem dX4_readRow_94 : decode cX4_readRow 94 = .ok (.invokevirtual 67, 3) := by decide +kernel
theorem dX4_readRow_97 : decode cX4_readRow 97 = .ok (.ifCond .eq 7, 3) := by decide +kernel
theorem dX4_readRow_100 : decode cX4_readRow 100 = .ok (.iconst 1, 1) := by decide +kernel
theorem dX4_readRow_101 : decode cX4_readRow 101 = .ok (.goto 4, 3) := by decide +kernel
theorem dX4_readRow_104 : decode cX4_readRow 104 = .ok (.iconst 0, 1) := by decide +kernel
theorem dX4_readRow_105 : decode cX4_readRow 105 = .ok (.ireturn, 1) := by decide +kernel
theorem dX4_readRow_106 : decode cX4_readRow 106 = .ok (.aload_n 0, 1) := by decide +kernel
theorem dX4_readRow_107 : decode cX4_readRow 107 = .ok (.invokevirtual 73, 3) := by decide +kernel
theorem dX4_readRow_110 : decode cX4_readRow 110 = .ok (.ifCond .eq 17, 3) := by decide +kernel
theorem dX4_readRow_113 : decode cX4_readRow 113 = .ok (.aload_n 0, 1) := by decide +kernel
theorem dX4_readRow_114 : decode cX4_readRow 114 = .ok (.getfield 12, 3) := by decide +kernel
theorem dX4_readRow_117 : decode cX4_readRow 117 = .ok (.invokevirtual 67, 3) := by decide +kernel
theorem dX4_readRow_120 : decode cX4_readRow 120 = .ok (.ifCond .eq 7, 3) := by decide +kernel
theorem dX4_readRow_123 : decode cX4_readRow 123 = .ok (.iconst 1, 1) := by decide +kernel
theorem dX4_readRow_124 : decode cX4_readRow 124 = .ok (.goto 4, 3) := by decide +kernel
theorem dX4_readRow_127 : decode cX4_readRow 127 = .ok (.iconst 0, 1) := by decide +kernel
theorem dX4_readRow_128 : decode cX4_readRow 128 = .ok (.ireturn, 1) := by decide +kernel
theorem dX4_readRow_129 : decode cX4_readRow 129 = .ok (.aload_n 0, 1) := by decide +kernel
theorem dX4_readRow_130 : decode cX4_readRow 130 = .ok (.invokevirtual 76, 3) := by decide +kernel
theorem dX4_readRow_133 : decode cX4_readRow 133 = .ok (.ifCond .eq 17, 3) := by decide +kernel
theorem dX4_readRow_136 : decode cX4_readRow 136 = .ok (.aload_n 0, 1) := by decide +kernel
theorem dX4_readRow_137 : decode cX4_readRow 137 = .ok (.getfield 12, 3) := by decide +kernel
theorem dX4_readRow_140 : decode cX4_readRow 140 = .ok (.invokevirtual 67, 3) := by decide +kernel
theorem dX4_readRow_143 : decode cX4_readRow 143 = .ok (.ifCond .eq 7, 3) := by decide +kernel
theorem dX4_readRow_146 : decode cX4_readRow 146 = .ok (.iconst 1, 1) := by decide +kernel
theorem dX4_readRow_147 : decode cX4_readRow 147 = .ok (.goto 4, 3) := by decide +kernel
theorem dX4_readRow_150 : decode cX4_readRow 150 = .ok (.iconst 0, 1) := by decide +kernel
theorem dX4_readRow_151 : decode cX4_readRow 151 = .ok (.ireturn, 1) := by decide +kernel
theorem dX4_readRow_152 : decode cX4_readRow 152 = .ok (.aload_n 0, 1) := by decide +kernel
theorem dX4_readRow_153 : decode cX4_readRow 153 = .ok (.invokevirtual 79, 3) := by decide +kernel
theorem dX4_readRow_156 : decode cX4_readRow 156 = .ok (.ifCond .eq 17, 3) := by decide +kernel
theorem dX4_readRow_159 : decode cX4_readRow 159 = .ok (.aload_n 0, 1) := by decide +kernel
theorem dX4_readRow_160 : decode cX4_readRow 160 = .ok (.getfield 12, 3) := by decide +kernel
theorem dX4_readRow_163 : decode cX4_readRow 163 = .ok (.invokevirtual 67, 3) := by decide +kernel
theorem dX4_readRow_166 : decode cX4_readRow 166 = .ok (.ifCond .eq 7, 3) := by decide +kernel
theorem dX4_readRow_169 : decode cX4_readRow 169 = .ok (.iconst 1, 1) := by decide +kernel
theorem dX4_readRow_170 : decode cX4_readRow 170 = .ok (.goto 4, 3) := by decide +kernel
theorem dX4_readRow_173 : decode cX4_readRow 173 = .ok (.iconst 0, 1) := by decide +kernel
theorem dX4_readRow_174 : decode cX4_readRow 174 = .ok (.ireturn, 1) := by decide +kernel
theorem dX4_readRow_175 : decode cX4_readRow 175 = .ok (.aload_n 0, 1) := by decide +kernel
theorem dX4_readRow_176 : decode cX4_readRow 176 = .ok (.iload_n 1, 1) := by decide +kernel
theorem dX4_readRow_177 : decode cX4_readRow 177 = .ok (.invokevirtual 82, 3) := by decide +kernel
theorem dX4_readRow_180 : decode cX4_readRow 180 = .ok (.ifCond .eq 24, 3) := by decide +kernel
theorem dX4_readRow_183 : decode cX4_readRow 183 = .ok (.aload_n 0, 1) := by decide +kernel
theorem dX4_readRow_184 : decode cX4_readRow 184 = .ok (.invokevirtual 85, 3) := by decide +kernel
theorem dX4_readRow_187 : decode cX4_readRow 187 = .ok (.ifCond .eq 17, 3) := by decide +kernel
theorem dX4_readRow_190 : decode cX4_readRow 190 = .ok (.aload_n 0, 1) := by decide +kernel
theorem dX4_readRow_191 : decode cX4_readRow 191 = .ok (.getfield 12, 3) := by decide +kernel
theorem dX4_readRow_194 : decode cX4_readRow 194 = .ok (.invokevirtual 67, 3) := by decide +kernel
theorem dX4_readRow_197 : decode cX4_readRow 197 = .ok (.ifCond .eq 7, 3) := by decide +kernel
theorem dX4_readRow_200 : decode cX4_readRow 200 = .ok (.iconst 1, 1) := by decide +kernel
theorem dX4_readRow_201 : decode cX4_readRow 201 = .ok (.goto 4, 3) := by decide +kernel
theorem dX4_readRow_204 : decode cX4_readRow 204 = .ok (.iconst 0, 1) := by decide +kernel
theorem dX4_readRow_205 : decode cX4_readRow 205 = .ok (.ireturn, 1) := by decide +kernel
theorem dX4_readRow_206 : decode cX4_readRow 206 = .ok (.aload_n 0, 1) := by decide +kernel
theorem dX4_readRow_207 : decode cX4_readRow 207 = .ok (.iload_n 1, 1) := by decide +kernel
theorem dX4_readRow_208 : decode cX4_readRow 208 = .ok (.invokevirtual 82, 3) := by decide +kernel
theorem dX4_readRow_211 : decode cX4_readRow 211 = .ok (.ifCond .eq 25, 3) := by decide +kernel
theorem dX4_readRow_214 : decode cX4_readRow 214 = .ok (.aload_n 0, 1) := by decide +kernel
theorem dX4_readRow_215 : decode cX4_readRow 215 = .ok (.iload_n 1, 1) := by decide +kernel
theorem dX4_readRow_216 : decode cX4_readRow 216 = .ok (.invokevirtual 88, 3) := by decide +kernel
theorem dX4_readRow_219 : decode cX4_readRow 219 = .ok (.ifCond .eq 17, 3) := by decide +kernel
theorem dX4_readRow_222 : decode cX4_readRow 222 = .ok (.aload_n 0, 1) := by decide +kernel
theorem dX4_readRow_223 : decode cX4_readRow 223 = .ok (.getfield 12, 3) := by decide +kernel
theorem dX4_readRow_226 : decode cX4_readRow 226 = .ok (.invokevirtual 67, 3) := by decide +kernel
theorem dX4_readRow_229 : decode cX4_readRow 229 = .ok (.ifCond .eq 7, 3) := by decide +kernel
theorem dX4_readRow_232 : decode cX4_readRow 232 = .ok (.iconst 1, 1) := by decide +kernel
theorem dX4_readRow_233 : decode cX4_readRow 233 = .ok (.goto 4, 3) := by decide +kernel
theorem dX4_readRow_236 : decode cX4_readRow 236 = .ok (.iconst 0, 1) := by decide +kernel
theorem dX4_readRow_237 : decode cX4_readRow 237 = .ok (.ireturn, 1) := by decide +kernel
theorem dX4_readRow_238 : decode cX4_readRow 238 = .ok (.aload_n 0, 1) := by decide +kernel
theorem dX4_readRow_239 : decode cX4_readRow 239 = .ok (.iload_n 1, 1) := by decide +kernel
theorem dX4_readRow_240 : decode cX4_readRow 240 = .ok (.invokevirtual 82, 3) := by decide +kernel
theorem dX4_readRow_243 : decode cX4_readRow 243 = .ok (.ifCond .eq 14, 3) := by decide +kernel
theorem dX4_readRow_246 : decode cX4_readRow 246 = .ok (.aload_n 0, 1) := by decide +kernel
theorem dX4_readRow_247 : decode cX4_readRow 247 = .ok (.invokevirtual 91, 3) := by decide +kernel
theorem dX4_readRow_250 : decode cX4_readRow 250 = .ok (.ifCond .eq 7, 3) := by decide +kernel
theorem dX4_readRow_253 : decode cX4_readRow 253 = .ok (.iconst 1, 1) := by decide +kernel
theorem dX4_readRow_254 : decode cX4_readRow 254 = .ok (.goto 4, 3) := by decide +kernel
theorem dX4_readRow_257 : decode cX4_readRow 257 = .ok (.iconst 0, 1) := by decide +kernel
theorem dX4_readRow_258 : decode cX4_readRow 258 = .ok (.ireturn, 1) := by decide +kernel
theorem dX4_readRow_259 : decode cX4_readRow 259 = .ok (.aload_n 0, 1) := by decide +kernel
theorem dX4_readRow_260 : decode cX4_readRow 260 = .ok (.getfield 12, 3) := by decide +kernel
theorem dX4_readRow_263 : decode cX4_readRow 263 = .ok (.iconst 1, 1) := by decide +kernel
theorem dX4_readRow_264 : decode cX4_readRow 264 = .ok (.invokevirtual 94, 3) := by decide +kernel
theorem dX4_readRow_267 : decode cX4_readRow 267 = .ok (.ireturn, 1) := by decide +kernel
theorem dX4_tellOnce_0 : decode cX4_tellOnce 0 = .ok (.aload_n 0, 1) := by decide +kernel
theorem dX4_tellOnce_1 : decode cX4_tellOnce 1 = .ok (.getfield 42, 3) := by decide +kernel
theorem dX4_tellOnce_4 : decode cX4_tellOnce 4 = .ok (.iload_n 1, 1) := by decide +kernel
theorem dX4_tellOnce_5 : decode cX4_tellOnce 5 = .ok (.ishr, 1) := by decide +kernel
theorem dX4_tellOnce_6 : decode cX4_tellOnce 6 = .ok (.iconst 1, 1) := by decide +kernel
theorem dX4_tellOnce_7 : decode cX4_tellOnce 7 = .ok (.iand, 1) := by decide +kernel
theorem dX4_tellOnce_8 : decode cX4_tellOnce 8 = .ok (.ifCond .eq 12, 3) := by decide +kernel
theorem dX4_tellOnce_11 : decode cX4_tellOnce 11 = .ok (.aload_n 0, 1) := by decide +kernel
theorem dX4_tellOnce_12 : decode cX4_tellOnce 12 = .ok (.getfield 12, 3) := by decide +kernel
theorem dX4_tellOnce_15 : decode cX4_tellOnce 15 = .ok (.iconst 3, 1) := by decide +kernel
theorem dX4_tellOnce_16 : decode cX4_tellOnce 16 = .ok (.invokevirtual 94, 3) := by decide +kernel
theorem dX4_tellOnce_19 : decode cX4_tellOnce 19 = .ok (.ireturn, 1) := by decide +kernel
theorem dX4_tellOnce_20 : decode cX4_tellOnce 20 = .ok (.aload_n 0, 1) := by decide +kernel
theorem dX4_tellOnce_21 : decode cX4_tellOnce 21 = .ok (.dup, 1) := by decide +kernel
theorem dX4_tellOnce_22 : decode cX4_tellOnce 22 = .ok (.getfield 42, 3) := by decide +kernel
theorem dX4_tellOnce_25 : decode cX4_tellOnce 25 = .ok (.iconst 1, 1) := by decide +kernel
theorem dX4_tellOnce_26 : decode cX4_tellOnce 26 = .ok (.iload_n 1, 1) := by decide +kernel
theorem dX4_tellOnce_27 : decode cX4_tellOnce 27 = .ok (.ishl, 1) := by decide +kernel
theorem dX4_tellOnce_28 : decode cX4_tellOnce 28 = .ok (.ior, 1) := by decide +kernel
theorem dX4_tellOnce_29 : decode cX4_tellOnce 29 = .ok (.putfield 42, 3) := by decide +kernel
theorem dX4_tellOnce_32 : decode cX4_tellOnce 32 = .ok (.iconst 1, 1) := by decide +kernel
theorem dX4_tellOnce_33 : decode cX4_tellOnce 33 = .ok (.ireturn, 1) := by decide +kernel
theorem dX4_readSlope_0 : decode cX4_readSlope 0 = .ok (.aload_n 0, 1) := by decide +kernel
theorem dX4_readSlope_1 : decode cX4_readSlope 1 = .ok (.getfield 38, 3) := by decide +kernel
theorem dX4_readSlope_4 : decode cX4_readSlope 4 = .ok (.bipush 20, 2) := by decide +kernel
theorem dX4_readSlope_6 : decode cX4_readSlope 6 = .ok (.if_icmp .lt 12, 3) := by decide +kernel
theorem dX4_readSlope_9 : decode cX4_readSlope 9 = .ok (.aload_n 0, 1) := by decide +kernel
theorem dX4_readSlope_10 : decode cX4_readSlope 10 = .ok (.getfield 12, 3) := by decide +kernel
theorem dX4_readSlope_13 : decode cX4_readSlope 13 = .ok (.iconst 4, 1) := by decide +kernel
theorem dX4_readSlope_14 : decode cX4_readSlope 14 = .ok (.invokevirtual 94, 3) := by decide +kernel
theorem dX4_readSlope_17 : decode cX4_readSlope 17 = .ok (.ireturn, 1) := by decide +kernel
theorem dX4_readSlope_18 : decode cX4_readSlope 18 = .ok (.aload_n 0, 1) := by decide +kernel
theorem dX4_readSlope_19 : decode cX4_readSlope 19 = .ok (.dup, 1) := by decide +kernel
theorem dX4_readSlope_20 : decode cX4_readSlope 20 = .ok (.getfield 38, 3) := by decide +kernel
theorem dX4_readSlope_23 : decode cX4_readSlope 23 = .ok (.iconst 1, 1) := by decide +kernel
theorem dX4_readSlope_24 : decode cX4_readSlope 24 = .ok (.iadd, 1) := by decide +kernel
theorem dX4_readSlope_25 : decode cX4_readSlope 25 = .ok (.putfield 38, 3) := by decide +kernel
theorem dX4_readSlope_28 : decode cX4_readSlope 28 = .ok (.aload_n 0, 1) := by decide +kernel
theorem dX4_readSlope_29 : decode cX4_readSlope 29 = .ok (.getfield 12, 3) := by decide +kernel
theorem dX4_readSlope_32 : decode cX4_readSlope 32 = .ok (.invokevirtual 45, 3) := by decide +kernel
theorem dX4_readSlope_35 : decode cX4_readSlope 35 = .ok (.aload_n 0, 1) := by decide +kernel
theorem dX4_readSlope_36 : decode cX4_readSlope 36 = .ok (.getfield 12, 3) := by decide +kernel
theorem dX4_readSlope_39 : decode cX4_readSlope 39 = .ok (.getfield 97, 3) := by decide +kernel
theorem dX4_readSlope_42 : decode cX4_readSlope 42 = .ok (.iconst 4, 1) := by decide +kernel
theorem dX4_readSlope_43 : decode cX4_readSlope 43 = .ok (.if_icmp .ne 7, 3) := by decide +kernel
theorem dX4_readSlope_46 : decode cX4_readSlope 46 = .ok (.iconst 1, 1) := by decide +kernel
theorem dX4_readSlope_47 : decode cX4_readSlope 47 = .ok (.goto 4, 3) := by decide +kernel
theorem dX4_readSlope_50 : decode cX4_readSlope 50 = .ok (.iconst 0, 1) := by decide +kernel
theorem dX4_readSlope_51 : decode cX4_readSlope 51 = .ok (.istore_n 1, 1) := by decide +kernel
theorem dX4_readSlope_52 : decode cX4_readSlope 52 = .ok (.iload_n 1, 1) := by decide +kernel
theorem dX4_readSlope_53 : decode cX4_readSlope 53 = .ok (.ifCond .eq 10, 3) := by decide +kernel
theorem dX4_readSlope_56 : decode cX4_readSlope 56 = .ok (.aload_n 0, 1) := by decide +kernel
theorem dX4_readSlope_57 : decode cX4_readSlope 57 = .ok (.getfield 12, 3) := by decide +kernel
theorem dX4_readSlope_60 : decode cX4_readSlope 60 = .ok (.invokevirtual 45, 3) := by decide +kernel
theorem dX4_readSlope_63 : decode cX4_readSlope 63 = .ok (.aload_n 0, 1) := by decide +kernel
theorem dX4_readSlope_64 : decode cX4_readSlope 64 = .ok (.getfield 12, 3) := by decide +kernel
theorem dX4_readSlope_67 : decode cX4_readSlope 67 = .ok (.iconst 0, 1) := by decide +kernel
theorem dX4_readSlope_68 : decode cX4_readSlope 68 = .ok (.bipush 9, 2) := by decide +kernel
theorem dX4_readSlope_70 : decode cX4_readSlope 70 = .ok (.invokevirtual 100, 3) := by decide +kernel
theorem dX4_readSlope_73 : decode cX4_readSlope 73 = .ok (.ifCond .ne 5, 3) := by decide +kernel
theorem dX4_readSlope_76 : decode cX4_readSlope 76 = .ok (.iconst 0, 1) := by decide +kernel
theorem dX4_readSlope_77 : decode cX4_readSlope 77 = .ok (.ireturn, 1) := by decide +kernel
theorem dX4_readSlope_78 : decode cX4_readSlope 78 = .ok (.iload_n 1, 1) := by decide +kernel
theorem dX4_readSlope_79 : decode cX4_readSlope 79 = .ok (.ifCond .eq 14, 3) := by decide +kernel
theorem dX4_readSlope_82 : decode cX4_readSlope 82 = .ok (.aload_n 0, 1) := by decide +kernel
theorem dX4_readSlope_83 : decode cX4_readSlope 83 = .ok (.getfield 12, 3) := by decide +kernel
theorem dX4_readSlope_86 : decode cX4_readSlope 86 = .ok (.getfield 104, 3) := by decide +kernel
theorem dX4_readSlope_89 : decode cX4_readSlope 89 = .ok (.ineg, 1) := by decide +kernel
theorem dX4_readSlope_90 : decode cX4_readSlope 90 = .ok (.goto 10, 3) := by decide +kernel
theorem dX4_readSlope_93 : decode cX4_readSlope 93 = .ok (.aload_n 0, 1) := by decide +kernel
theorem dX4_readSlope_94 : decode cX4_readSlope 94 = .ok (.getfield 12, 3) := by decide +kernel
theorem dX4_readSlope_97 : decode cX4_readSlope 97 = .ok (.getfield 104, 3) := by decide +kernel
theorem dX4_readSlope_100 : decode cX4_readSlope 100 = .ok (.istore_n 2, 1) := by decide +kernel
theorem dX4_readSlope_101 : decode cX4_readSlope 101 = .ok (.aload_n 0, 1) := by decide +kernel
theorem dX4_readSlope_102 : decode cX4_readSlope 102 = .ok (.getfield 12, 3) := by decide +kernel
theorem dX4_readSlope_105 : decode cX4_readSlope 105 = .ok (.iconst 1, 1) := by decide +kernel
theorem dX4_readSlope_106 : decode cX4_readSlope 106 = .ok (.bipush 99, 2) := by decide +kernel
theorem dX4_readSlope_108 : decode cX4_readSlope 108 = .ok (.invokevirtual 107, 3) := by decide +kernel
theorem dX4_readSlope_111 : decode cX4_readSlope 111 = .ok (.ifCond .ne 5, 3) := by decide +kernel
theorem dX4_readSlope_114 : decode cX4_readSlope 114 = .ok (.iconst 0, 1) := by decide +kernel
theorem dX4_readSlope_115 : decode cX4_readSlope 115 = .ok (.ireturn, 1) := by decide +kernel
theorem dX4_readSlope_116 : decode cX4_readSlope 116 = .ok (.aload_n 0, 1) := by decide +kernel
theorem dX4_readSlope_117 : decode cX4_readSlope 117 = .ok (.getfield 29, 3) := by decide +kernel
theorem dX4_readSlope_120 : decode cX4_readSlope 120 = .ok (.getfield 110, 3) := by decide +kernel
theorem dX4_readSlope_123 : decode cX4_readSlope 123 = .ok (.aload_n 0, 1) := by decide +kernel
theorem dX4_readSlope_124 : decode cX4_readSlope 124 = .ok (.getfield 12, 3) := by decide +kernel
theorem dX4_readSlope_127 : decode cX4_readSlope 127 = .ok (.getfield 104, 3) := by decide +kernel
theorem dX4_readSlope_130 : decode cX4_readSlope 130 = .ok (.iadd, 1) := by decide +kernel
theorem dX4_readSlope_131 : decode cX4_readSlope 131 = .ok (.sipush 400, 3) := by decide +kernel
theorem dX4_readSlope_134 : decode cX4_readSlope 134 = .ok (.if_icmp .le 12, 3) := by decide +kernel
theorem dX4_readSlope_137 : decode cX4_readSlope 137 = .ok (.aload_n 0, 1) := by decide +kernel
theorem dX4_readSlope_138 : decode cX4_readSlope 138 = .ok (.getfield 12, 3) := by decide +kernel
theorem dX4_readSlope_141 : decode cX4_readSlope 141 = .ok (.iconst 4, 1) := by decide +kernel
theorem dX4_readSlope_142 : decode cX4_readSlope 142 = .ok (.invokevirtual 94, 3) := by decide +kernel
theorem dX4_readSlope_145 : decode cX4_readSlope 145 = .ok (.ireturn, 1) := by decide +kernel
theorem dX4_readSlope_146 : decode cX4_readSlope 146 = .ok (.iconst 0, 1) := by decide +kernel
theorem dX4_readSlope_147 : decode cX4_readSlope 147 = .ok (.istore_n 3, 1) := by decide +kernel
theorem dX4_readSlope_148 : decode cX4_readSlope 148 = .ok (.iload_n 3, 1) := by decide +kernel
theorem dX4_readSlope_149 : decode cX4_readSlope 149 = .ok (.aload_n 0, 1) := by decide +kernel
theorem dX4_readSlope_150 : decode cX4_readSlope 150 = .ok (.getfield 12, 3) := by decide +kernel
theorem dX4_readSlope_153 : decode cX4_readSlope 153 = .ok (.getfield 104, 3) := by decide +kernel
theorem dX4_readSlope_156 : decode cX4_readSlope 156 = .ok (.if_icmp .ge 27, 3) := by decide +kernel
theorem dX4_readSlope_159 : decode cX4_readSlope 159 = .ok (.aload_n 0, 1) := by decide +kernel
theorem dX4_readSlope_160 : decode cX4_readSlope 160 = .ok (.getfield 29, 3) := by decide +kernel
theorem dX4_readSlope_163 : decode cX4_readSlope 163 = .ok (.getfield 113, 3) := by decide +kernel
theorem dX4_readSlope_166 : decode cX4_readSlope 166 = .ok (.aload_n 0, 1) := by decide +kernel
theorem dX4_readSlope_167 : decode cX4_readSlope 167 = .ok (.getfield 29, 3) := by decide +kernel
theorem dX4_readSlope_170 : decode cX4_readSlope 170 = .ok (.getfield 110, 3) := by decide +kernel
theorem dX4_readSlope_173 : decode cX4_readSlope 173 = .ok (.iload_n 3, 1) := by decide +kernel
theorem dX4_readSlope_174 : decode cX4_readSlope 174 = .ok (.iadd, 1) := by decide +kernel
theorem dX4_readSlope_175 : decode cX4_readSlope 175 = .ok (.iload_n 2, 1) := by decide +kernel
theorem dX4_readSlope_176 : decode cX4_readSlope 176 = .ok (.iastore, 1) := by decide +kernel
theorem dX4_readSlope_177 : decode cX4_readSlope 177 = .ok (.iinc 3 1, 3) := by decide +kernel
theorem dX4_readSlope_180 : decode cX4_readSlope 180 = .ok (.goto (-32), 3) := by decide +kernel
theorem dX4_readSlope_183 : decode cX4_readSlope 183 = .ok (.aload_n 0, 1) := by decide +kernel
theorem dX4_readSlope_184 : decode cX4_readSlope 184 = .ok (.getfield 29, 3) := by decide +kernel
theorem dX4_readSlope_187 : decode cX4_readSlope 187 = .ok (.dup, 1) := by decide +kernel
theorem dX4_readSlope_188 : decode cX4_readSlope 188 = .ok (.getfield 110, 3) := by decide +kernel
theorem dX4_readSlope_191 : decode cX4_readSlope 191 = .ok (.aload_n 0, 1) := by decide +kernel
theorem dX4_readSlope_192 : decode cX4_readSlope 192 = .ok (.getfield 12, 3) := by decide +kernel
theorem dX4_readSlope_195 : decode cX4_readSlope 195 = .ok (.getfield 104, 3) := by decide +kernel
theorem dX4_readSlope_198 : decode cX4_readSlope 198 = .ok (.iadd, 1) := by decide +kernel
theorem dX4_readSlope_199 : decode cX4_readSlope 199 = .ok (.putfield 110, 3) := by decide +kernel
theorem dX4_readSlope_202 : decode cX4_readSlope 202 = .ok (.iconst 1, 1) := by decide +kernel
theorem dX4_readSlope_203 : decode cX4_readSlope 203 = .ok (.ireturn, 1) := by decide +kernel
theorem dX4_readHalt_0 : decode cX4_readHalt 0 = .ok (.aload_n 0, 1) := by decide +kernel
theorem dX4_readHalt_1 : decode cX4_readHalt 1 = .ok (.getfield 29, 3) := by decide +kernel
theorem dX4_readHalt_4 : decode cX4_readHalt 4 = .ok (.getfield 117, 3) := by decide +kernel
theorem dX4_readHalt_7 : decode cX4_readHalt 7 = .ok (.istore_n 1, 1) := by decide +kernel
theorem dX4_readHalt_8 : decode cX4_readHalt 8 = .ok (.iload_n 1, 1) := by decide +kernel
theorem dX4_readHalt_9 : decode cX4_readHalt 9 = .ok (.bipush 10, 2) := by decide +kernel
theorem dX4_readHalt_11 : decode cX4_readHalt 11 = .ok (.if_icmp .lt 12, 3) := by decide +kernel
theorem dX4_readHalt_14 : decode cX4_readHalt 14 = .ok (.aload_n 0, 1) := by decide +kernel
theorem dX4_readHalt_15 : decode cX4_readHalt 15 = .ok (.getfield 12, 3) := by decide +kernel
theorem dX4_readHalt_18 : decode cX4_readHalt 18 = .ok (.iconst 4, 1) := by decide +kernel
theorem dX4_readHalt_19 : decode cX4_readHalt 19 = .ok (.invokevirtual 94, 3) := by decide +kernel
theorem dX4_readHalt_22 : decode cX4_readHalt 22 = .ok (.ireturn, 1) := by decide +kernel
theorem dX4_readHalt_23 : decode cX4_readHalt 23 = .ok (.aload_n 0, 1) := by decide +kernel
theorem dX4_readHalt_24 : decode cX4_readHalt 24 = .ok (.invokevirtual 120, 3) := by decide +kernel
theorem dX4_readHalt_27 : decode cX4_readHalt 27 = .ok (.ifCond .ne 5, 3) := by decide +kernel
theorem dX4_readHalt_30 : decode cX4_readHalt 30 = .ok (.iconst 0, 1) := by decide +kernel
theorem dX4_readHalt_31 : decode cX4_readHalt 31 = .ok (.ireturn, 1) := by decide +kernel
theorem dX4_readHalt_32 : decode cX4_readHalt 32 = .ok (.aload_n 0, 1) := by decide +kernel
theorem dX4_readHalt_33 : decode cX4_readHalt 33 = .ok (.getfield 18, 3) := by decide +kernel
theorem dX4_readHalt_36 : decode cX4_readHalt 36 = .ok (.iload_n 1, 1) := by decide +kernel
theorem dX4_readHalt_37 : decode cX4_readHalt 37 = .ok (.aload_n 0, 1) := by decide +kernel
theorem dX4_readHalt_38 : decode cX4_readHalt 38 = .ok (.getfield 12, 3) := by decide +kernel
theorem dX4_readHalt_41 : decode cX4_readHalt 41 = .ok (.getfield 123, 3) := by decide +kernel
theorem dX4_readHalt_44 : decode cX4_readHalt 44 = .ok (.lastore, 1) := by decide +kernel
theorem dX4_readHalt_45 : decode cX4_readHalt 45 = .ok (.iload_n 1, 1) := by decide +kernel
theorem dX4_readHalt_46 : decode cX4_readHalt 46 = .ok (.ifCond .ne 7, 3) := by decide +kernel
theorem dX4_readHalt_49 : decode cX4_readHalt 49 = .ok (.iconst 0, 1) := by decide +kernel
theorem dX4_readHalt_50 : decode cX4_readHalt 50 = .ok (.goto 15, 3) := by decide +kernel
theorem dX4_readHalt_53 : decode cX4_readHalt 53 = .ok (.aload_n 0, 1) := by decide +kernel
theorem dX4_readHalt_54 : decode cX4_readHalt 54 = .ok (.getfield 29, 3) := by decide +kernel
theorem dX4_readHalt_57 : decode cX4_readHalt 57 = .ok (.iload_n 1, 1) := by decide +kernel
theorem dX4_readHalt_58 : decode cX4_readHalt 58 = .ok (.iconst 1, 1) := by decide +kernel
theorem dX4_readHalt_59 : decode cX4_readHalt 59 = .ok (.isub, 1) := by decide +kernel
theorem dX4_readHalt_60 : decode cX4_readHalt 60 = .ok (.invokevirtual 127, 3) := by decide +kernel
theorem dX4_readHalt_63 : decode cX4_readHalt 63 = .ok (.iconst 1, 1) := by decide +kernel
theorem dX4_readHalt_64 : decode cX4_readHalt 64 = .ok (.iadd, 1) := by decide +kernel
theorem dX4_readHalt_65 : decode cX4_readHalt 65 = .ok (.istore_n 2, 1) := by decide +kernel
theorem dX4_readHalt_66 : decode cX4_readHalt 66 = .ok (.aload_n 0, 1) := by decide +kernel
theorem dX4_readHalt_67 : decode cX4_readHalt 67 = .ok (.getfield 12, 3) := by decide +kernel
theorem dX4_readHalt_70 : decode cX4_readHalt 70 = .ok (.iload_n 2, 1) := by decide +kernel
theorem dX4_readHalt_71 : decode cX4_readHalt 71 = .ok (.aload_n 0, 1) := by decide +kernel
theorem dX4_readHalt_72 : decode cX4_readHalt 72 = .ok (.getfield 29, 3) := by decide +kernel
theorem dX4_readHalt_75 : decode cX4_readHalt 75 = .ok (.getfield 110, 3) := by decide +kernel
theorem dX4_readHalt_78 : decode cX4_readHalt 78 = .ok (.iconst 1, 1) := by decide +kernel
theorem dX4_readHalt_79 : decode cX4_readHalt 79 = .ok (.isub, 1) := by decide +kernel
theorem dX4_readHalt_80 : decode cX4_readHalt 80 = .ok (.invokevirtual 107, 3) := by decide +kernel
theorem dX4_readHalt_83 : decode cX4_readHalt 83 = .ok (.ifCond .ne 5, 3) := by decide +kernel
theorem dX4_readHalt_86 : decode cX4_readHalt 86 = .ok (.iconst 0, 1) := by decide +kernel
theorem dX4_readHalt_87 : decode cX4_readHalt 87 = .ok (.ireturn, 1) := by decide +kernel
theorem dX4_readHalt_88 : decode cX4_readHalt 88 = .ok (.aload_n 0, 1) := by decide +kernel
theorem dX4_readHalt_89 : decode cX4_readHalt 89 = .ok (.getfield 29, 3) := by decide +kernel
theorem dX4_readHalt_92 : decode cX4_readHalt 92 = .ok (.getfield 130, 3) := by decide +kernel
theorem dX4_readHalt_95 : decode cX4_readHalt 95 = .ok (.iconst 3, 1) := by decide +kernel
theorem dX4_readHalt_96 : decode cX4_readHalt 96 = .ok (.iload_n 1, 1) := by decide +kernel
theorem dX4_readHalt_97 : decode cX4_readHalt 97 = .ok (.imul, 1) := by decide +kernel
theorem dX4_readHalt_98 : decode cX4_readHalt 98 = .ok (.aload_n 0, 1) := by decide +kernel
theorem dX4_readHalt_99 : decode cX4_readHalt 99 = .ok (.getfield 12, 3) := by decide +kernel
theorem dX4_readHalt_102 : decode cX4_readHalt 102 = .ok (.getfield 104, 3) := by decide +kernel
theorem dX4_readHalt_105 : decode cX4_readHalt 105 = .ok (.iastore, 1) := by decide +kernel
theorem dX4_readHalt_106 : decode cX4_readHalt 106 = .ok (.aload_n 0, 1) := by decide +kernel
theorem dX4_readHalt_107 : decode cX4_readHalt 107 = .ok (.getfield 12, 3) := by decide +kernel
theorem dX4_readHalt_110 : decode cX4_readHalt 110 = .ok (.iconst 1, 1) := by decide +kernel
theorem dX4_readHalt_111 : decode cX4_readHalt 111 = .ok (.bipush 99, 2) := by decide +kernel
theorem dX4_readHalt_113 : decode cX4_readHalt 113 = .ok (.invokevirtual 107, 3) := by decide +kernel
theorem dX4_readHalt_116 : decode cX4_readHalt 116 = .ok (.ifCond .ne 5, 3) := by decide +kernel
theorem dX4_readHalt_119 : decode cX4_readHalt 119 = .ok (.iconst 0, 1) := by decide +kernel
theorem dX4_readHalt_120 : decode cX4_readHalt 120 = .ok (.ireturn, 1) := by decide +kernel
theorem dX4_readHalt_121 : decode cX4_readHalt 121 = .ok (.aload_n 0, 1) := by decide +kernel
theorem dX4_readHalt_122 : decode cX4_readHalt 122 = .ok (.getfield 29, 3) := by decide +kernel
theorem dX4_readHalt_125 : decode cX4_readHalt 125 = .ok (.getfield 130, 3) := by decide +kernel
theorem dX4_readHalt_128 : decode cX4_readHalt 128 = .ok (.iconst 3, 1) := by decide +kernel
theorem dX4_readHalt_129 : decode cX4_readHalt 129 = .ok (.iload_n 1, 1) := by decide +kernel
theorem dX4_readHalt_130 : decode cX4_readHalt 130 = .ok (.imul, 1) := by decide +kernel
theorem dX4_readHalt_131 : decode cX4_readHalt 131 = .ok (.iconst 1, 1) := by decide +kernel
theorem dX4_readHalt_132 : decode cX4_readHalt 132 = .ok (.iadd, 1) := by decide +kernel
theorem dX4_readHalt_133 : decode cX4_readHalt 133 = .ok (.aload_n 0, 1) := by decide +kernel
theorem dX4_readHalt_134 : decode cX4_readHalt 134 = .ok (.getfield 12, 3) := by decide +kernel
theorem dX4_readHalt_137 : decode cX4_readHalt 137 = .ok (.getfield 104, 3) := by decide +kernel
theorem dX4_readHalt_140 : decode cX4_readHalt 140 = .ok (.iastore, 1) := by decide +kernel
theorem dX4_readHalt_141 : decode cX4_readHalt 141 = .ok (.aload_n 0, 1) := by decide +kernel
theorem dX4_readHalt_142 : decode cX4_readHalt 142 = .ok (.getfield 29, 3) := by decide +kernel
theorem dX4_readHalt_145 : decode cX4_readHalt 145 = .ok (.getfield 130, 3) := by decide +kernel
theorem dX4_readHalt_148 : decode cX4_readHalt 148 = .ok (.iconst 3, 1) := by decide +kernel
theorem dX4_readHalt_149 : decode cX4_readHalt 149 = .ok (.iload_n 1, 1) := by decide +kernel
theorem dX4_readHalt_150 : decode cX4_readHalt 150 = .ok (.imul, 1) := by decide +kernel
theorem dX4_readHalt_151 : decode cX4_readHalt 151 = .ok (.iconst 2, 1) := by decide +kernel
theorem dX4_readHalt_152 : decode cX4_readHalt 152 = .ok (.iadd, 1) := by decide +kernel
theorem dX4_readHalt_153 : decode cX4_readHalt 153 = .ok (.iconst (-1), 1) := by decide +kernel
theorem dX4_readHalt_154 : decode cX4_readHalt 154 = .ok (.iastore, 1) := by decide +kernel
theorem dX4_readHalt_155 : decode cX4_readHalt 155 = .ok (.aload_n 0, 1) := by decide +kernel
theorem dX4_readHalt_156 : decode cX4_readHalt 156 = .ok (.getfield 29, 3) := by decide +kernel
theorem dX4_readHalt_159 : decode cX4_readHalt 159 = .ok (.dup, 1) := by decide +kernel
theorem dX4_readHalt_160 : decode cX4_readHalt 160 = .ok (.getfield 117, 3) := by decide +kernel
theorem dX4_readHalt_163 : decode cX4_readHalt 163 = .ok (.iconst 1, 1) := by decide +kernel
theorem dX4_readHalt_164 : decode cX4_readHalt 164 = .ok (.iadd, 1) := by decide +kernel
theorem dX4_readHalt_165 : decode cX4_readHalt 165 = .ok (.putfield 117, 3) := by decide +kernel
theorem dX4_readHalt_168 : decode cX4_readHalt 168 = .ok (.iconst 1, 1) := by decide +kernel
theorem dX4_readHalt_169 : decode cX4_readHalt 169 = .ok (.ireturn, 1) := by decide +kernel
theorem dX4_readLoop_0 : decode cX4_readLoop 0 = .ok (.aload_n 0, 1) := by decide +kernel
theorem dX4_readLoop_1 : decode cX4_readLoop 1 = .ok (.getfield 29, 3) := by decide +kernel
theorem dX4_readLoop_4 : decode cX4_readLoop 4 = .ok (.getfield 133, 3) := by decide +kernel
theorem dX4_readLoop_7 : decode cX4_readLoop 7 = .ok (.istore_n 1, 1) := by decide +kernel
theorem dX4_readLoop_8 : decode cX4_readLoop 8 = .ok (.iload_n 1, 1) := by decide +kernel
theorem dX4_readLoop_9 : decode cX4_readLoop 9 = .ok (.bipush 8, 2) := by decide +kernel
theorem dX4_readLoop_11 : decode cX4_readLoop 11 = .ok (.if_icmp .lt 12, 3) := by decide +kernel
theorem dX4_readLoop_14 : decode cX4_readLoop 14 = .ok (.aload_n 0, 1) := by decide +kernel
theorem dX4_readLoop_15 : decode cX4_readLoop 15 = .ok (.getfield 12, 3) := by decide +kernel
theorem dX4_readLoop_18 : decode cX4_readLoop 18 = .ok (.iconst 4, 1) := by decide +kernel
theorem dX4_readLoop_19 : decode cX4_readLoop 19 = .ok (.invokevirtual 94, 3) := by decide +kernel
theorem dX4_readLoop_22 : decode cX4_readLoop 22 = .ok (.ireturn, 1) := by decide +kernel
theorem dX4_readLoop_23 : decode cX4_readLoop 23 = .ok (.aload_n 0, 1) := by decide +kernel
theorem dX4_readLoop_24 : decode cX4_readLoop 24 = .ok (.getfield 12, 3) := by decide +kernel
theorem dX4_readLoop_27 : decode cX4_readLoop 27 = .ok (.iconst 0, 1) := by decide +kernel
theorem dX4_readLoop_28 : decode cX4_readLoop 28 = .ok (.aload_n 0, 1) := by decide +kernel
theorem dX4_readLoop_29 : decode cX4_readLoop 29 = .ok (.getfield 29, 3) := by decide +kernel
theorem dX4_readLoop_32 : decode cX4_readLoop 32 = .ok (.getfield 110, 3) := by decide +kernel
theorem dX4_readLoop_35 : decode cX4_readLoop 35 = .ok (.iconst 1, 1) := by decide +kernel
theorem dX4_readLoop_36 : decode cX4_readLoop 36 = .ok (.isub, 1) := by decide +kernel
theorem dX4_readLoop_37 : decode cX4_readLoop 37 = .ok (.invokevirtual 107, 3) := by decide +kernel
theorem dX4_readLoop_40 : decode cX4_readLoop 40 = .ok (.ifCond .ne 5, 3) := by decide +kernel
theorem dX4_readLoop_43 : decode cX4_readLoop 43 = .ok (.iconst 0, 1) := by decide +kernel
theorem dX4_readLoop_44 : decode cX4_readLoop 44 = .ok (.ireturn, 1) := by decide +kernel
theorem dX4_readLoop_45 : decode cX4_readLoop 45 = .ok (.iconst 0, 1) := by decide +kernel
theorem dX4_readLoop_46 : decode cX4_readLoop 46 = .ok (.istore_n 2, 1) := by decide +kernel
theorem dX4_readLoop_47 : decode cX4_readLoop 47 = .ok (.iload_n 2, 1) := by decide +kernel
theorem dX4_readLoop_48 : decode cX4_readLoop 48 = .ok (.iload_n 1, 1) := by decide +kernel
theorem dX4_readLoop_49 : decode cX4_readLoop 49 = .ok (.if_icmp .ge 39, 3) := by decide +kernel
theorem dX4_readLoop_52 : decode cX4_readLoop 52 = .ok (.aload_n 0, 1) := by decide +kernel
theorem dX4_readLoop_53 : decode cX4_readLoop 53 = .ok (.getfield 29, 3) := by decide +kernel
theorem dX4_readLoop_56 : decode cX4_readLoop 56 = .ok (.getfield 136, 3) := by decide +kernel
theorem dX4_readLoop_59 : decode cX4_readLoop 59 = .ok (.iconst 2, 1) := by decide +kernel
theorem dX4_readLoop_60 : decode cX4_readLoop 60 = .ok (.iload_n 2, 1) := by decide +kernel
theorem dX4_readLoop_61 : decode cX4_readLoop 61 = .ok (.imul, 1) := by decide +kernel
theorem dX4_readLoop_62 : decode cX4_readLoop 62 = .ok (.iaload, 1) := by decide +kernel
theorem dX4_readLoop_63 : decode cX4_readLoop 63 = .ok (.aload_n 0, 1) := by decide +kernel
theorem dX4_readLoop_64 : decode cX4_readLoop 64 = .ok (.getfield 12, 3) := by decide +kernel
theorem dX4_readLoop_67 : decode cX4_readLoop 67 = .ok (.getfield 104, 3) := by decide +kernel
theorem dX4_readLoop_70 : decode cX4_readLoop 70 = .ok (.if_icmp .ne 12, 3) := by decide +kernel
theorem dX4_readLoop_73 : decode cX4_readLoop 73 = .ok (.aload_n 0, 1) := by decide +kernel
theorem dX4_readLoop_74 : decode cX4_readLoop 74 = .ok (.getfield 12, 3) := by decide +kernel
theorem dX4_readLoop_77 : decode cX4_readLoop 77 = .ok (.iconst 3, 1) := by decide +kernel
theorem dX4_readLoop_78 : decode cX4_readLoop 78 = .ok (.invokevirtual 94, 3) := by decide +kernel
theorem dX4_readLoop_81 : decode cX4_readLoop 81 = .ok (.ireturn, 1) := by decide +kernel
theorem dX4_readLoop_82 : decode cX4_readLoop 82 = .ok (.iinc 2 1, 3) := by decide +kernel
theorem dX4_readLoop_85 : decode cX4_readLoop 85 = .ok (.goto (-38), 3) := by decide +kernel
theorem dX4_readLoop_88 : decode cX4_readLoop 88 = .ok (.aload_n 0, 1) := by decide +kernel
theorem dX4_readLoop_89 : decode cX4_readLoop 89 = .ok (.getfield 29, 3) := by decide +kernel
theorem dX4_readLoop_92 : decode cX4_readLoop 92 = .ok (.getfield 136, 3) := by decide +kernel
theorem dX4_readLoop_95 : decode cX4_readLoop 95 = .ok (.iconst 2, 1) := by decide +kernel
theorem dX4_readLoop_96 : decode cX4_readLoop 96 = .ok (.iload_n 1, 1) := by decide +kernel
theorem dX4_readLoop_97 : decode cX4_readLoop 97 = .ok (.imul, 1) := by decide +kernel
theorem dX4_readLoop_98 : decode cX4_readLoop 98 = .ok (.aload_n 0, 1) := by decide +kernel
theorem dX4_readLoop_99 : decode cX4_readLoop 99 = .ok (.getfield 12, 3) := by decide +kernel
theorem dX4_readLoop_102 : decode cX4_readLoop 102 = .ok (.getfield 104, 3) := by decide +kernel
theorem dX4_readLoop_105 : decode cX4_readLoop 105 = .ok (.iastore, 1) := by decide +kernel
theorem dX4_readLoop_106 : decode cX4_readLoop 106 = .ok (.aload_n 0, 1) := by decide +kernel
theorem dX4_readLoop_107 : decode cX4_readLoop 107 = .ok (.getfield 12, 3) := by decide +kernel
theorem dX4_readLoop_110 : decode cX4_readLoop 110 = .ok (.iconst 1, 1) := by decide +kernel
theorem dX4_readLoop_111 : decode cX4_readLoop 111 = .ok (.bipush 99, 2) := by decide +kernel
theorem dX4_readLoop_113 : decode cX4_readLoop 113 = .ok (.invokevirtual 107, 3) := by decide +kernel
theorem dX4_readLoop_116 : decode cX4_readLoop 116 = .ok (.ifCond .ne 5, 3) := by decide +kernel
theorem dX4_readLoop_119 : decode cX4_readLoop 119 = .ok (.iconst 0, 1) := by decide +kernel
theorem dX4_readLoop_120 : decode cX4_readLoop 120 = .ok (.ireturn, 1) := by decide +kernel
theorem dX4_readLoop_121 : decode cX4_readLoop 121 = .ok (.aload_n 0, 1) := by decide +kernel
theorem dX4_readLoop_122 : decode cX4_readLoop 122 = .ok (.getfield 29, 3) := by decide +kernel
theorem dX4_readLoop_125 : decode cX4_readLoop 125 = .ok (.getfield 136, 3) := by decide +kernel
theorem dX4_readLoop_128 : decode cX4_readLoop 128 = .ok (.iconst 2, 1) := by decide +kernel
theorem dX4_readLoop_129 : decode cX4_readLoop 129 = .ok (.iload_n 1, 1) := by decide +kernel
theorem dX4_readLoop_130 : decode cX4_readLoop 130 = .ok (.imul, 1) := by decide +kernel
theorem dX4_readLoop_131 : decode cX4_readLoop 131 = .ok (.iconst 1, 1) := by decide +kernel
theorem dX4_readLoop_132 : decode cX4_readLoop 132 = .ok (.iadd, 1) := by decide +kernel
theorem dX4_readLoop_133 : decode cX4_readLoop 133 = .ok (.aload_n 0, 1) := by decide +kernel
theorem dX4_readLoop_134 : decode cX4_readLoop 134 = .ok (.getfield 12, 3) := by decide +kernel
theorem dX4_readLoop_137 : decode cX4_readLoop 137 = .ok (.getfield 104, 3) := by decide +kernel
theorem dX4_readLoop_140 : decode cX4_readLoop 140 = .ok (.iastore, 1) := by decide +kernel
theorem dX4_readLoop_141 : decode cX4_readLoop 141 = .ok (.aload_n 0, 1) := by decide +kernel
theorem dX4_readLoop_142 : decode cX4_readLoop 142 = .ok (.getfield 29, 3) := by decide +kernel
theorem dX4_readLoop_145 : decode cX4_readLoop 145 = .ok (.dup, 1) := by decide +kernel
theorem dX4_readLoop_146 : decode cX4_readLoop 146 = .ok (.getfield 133, 3) := by decide +kernel
theorem dX4_readLoop_149 : decode cX4_readLoop 149 = .ok (.iconst 1, 1) := by decide +kernel
theorem dX4_readLoop_150 : decode cX4_readLoop 150 = .ok (.iadd, 1) := by decide +kernel
theorem dX4_readLoop_151 : decode cX4_readLoop 151 = .ok (.putfield 133, 3) := by decide +kernel
theorem dX4_readLoop_154 : decode cX4_readLoop 154 = .ok (.iconst 1, 1) := by decide +kernel
theorem dX4_readLoop_155 : decode cX4_readLoop 155 = .ok (.ireturn, 1) := by decide +kernel
theorem dX4_readKind_0 : decode cX4_readKind 0 = .ok (.aload_n 0, 1) := by decide +kernel
theorem dX4_readKind_1 : decode cX4_readKind 1 = .ok (.getfield 29, 3) := by decide +kernel
theorem dX4_readKind_4 : decode cX4_readKind 4 = .ok (.getfield 139, 3) := by decide +kernel
theorem dX4_readKind_7 : decode cX4_readKind 7 = .ok (.istore_n 1, 1) := by decide +kernel
theorem dX4_readKind_8 : decode cX4_readKind 8 = .ok (.iload_n 1, 1) := by decide +kernel
theorem dX4_readKind_9 : decode cX4_readKind 9 = .ok (.bipush 6, 2) := by decide +kernel
theorem dX4_readKind_11 : decode cX4_readKind 11 = .ok (.if_icmp .lt 12, 3) := by decide +kernel
theorem dX4_readKind_14 : decode cX4_readKind 14 = .ok (.aload_n 0, 1) := by decide +kernel
theorem dX4_readKind_15 : decode cX4_readKind 15 = .ok (.getfield 12, 3) := by decide +kernel
theorem dX4_readKind_18 : decode cX4_readKind 18 = .ok (.iconst 4, 1) := by decide +kernel
theorem dX4_readKind_19 : decode cX4_readKind 19 = .ok (.invokevirtual 94, 3) := by decide +kernel
theorem dX4_readKind_22 : decode cX4_readKind 22 = .ok (.ireturn, 1) := by decide +kernel
theorem dX4_readKind_23 : decode cX4_readKind 23 = .ok (.aload_n 0, 1) := by decide +kernel
theorem dX4_readKind_24 : decode cX4_readKind 24 = .ok (.invokevirtual 120, 3) := by decide +kernel
theorem dX4_readKind_27 : decode cX4_readKind 27 = .ok (.ifCond .ne 5, 3) := by decide +kernel
theorem dX4_readKind_30 : decode cX4_readKind 30 = .ok (.iconst 0, 1) := by decide +kernel
theorem dX4_readKind_31 : decode cX4_readKind 31 = .ok (.ireturn, 1) := by decide +kernel
theorem dX4_readKind_32 : decode cX4_readKind 32 = .ok (.aload_n 0, 1) := by decide +kernel
theorem dX4_readKind_33 : decode cX4_readKind 33 = .ok (.getfield 22, 3) := by decide +kernel
theorem dX4_readKind_36 : decode cX4_readKind 36 = .ok (.iload_n 1, 1) := by decide +kernel
theorem dX4_readKind_37 : decode cX4_readKind 37 = .ok (.aload_n 0, 1) := by decide +kernel
theorem dX4_readKind_38 : decode cX4_readKind 38 = .ok (.getfield 12, 3) := by decide +kernel
theorem dX4_readKind_41 : decode cX4_readKind 41 = .ok (.getfield 123, 3) := by decide +kernel
theorem dX4_readKind_44 : decode cX4_readKind 44 = .ok (.lastore, 1) := by decide +kernel
theorem dX4_readKind_45 : decode cX4_readKind 45 = .ok (.aload_n 0, 1) := by decide +kernel
theorem dX4_readKind_46 : decode cX4_readKind 46 = .ok (.getfield 12, 3) := by decide +kernel
theorem dX4_readKind_49 : decode cX4_readKind 49 = .ok (.iconst 1, 1) := by decide +kernel
theorem dX4_readKind_50 : decode cX4_readKind 50 = .ok (.bipush 9, 2) := by decide +kernel
theorem dX4_readKind_52 : decode cX4_readKind 52 = .ok (.invokevirtual 107, 3) := by decide +kernel
theorem dX4_readKind_55 : decode cX4_readKind 55 = .ok (.ifCond .ne 5, 3) := by decide +kernel
theorem dX4_readKind_58 : decode cX4_readKind 58 = .ok (.iconst 0, 1) := by decide +kernel
theorem dX4_readKind_59 : decode cX4_readKind 59 = .ok (.ireturn, 1) := by decide +kernel
theorem dX4_readKind_60 : decode cX4_readKind 60 = .ok (.aload_n 0, 1) := by decide +kernel
theorem dX4_readKind_61 : decode cX4_readKind 61 = .ok (.getfield 29, 3) := by decide +kernel
theorem dX4_readKind_64 : decode cX4_readKind 64 = .ok (.getfield 142, 3) := by decide +kernel
theorem dX4_readKind_67 : decode cX4_readKind 67 = .ok (.iconst 3, 1) := by decide +kernel
theorem dX4_readKind_68 : decode cX4_readKind 68 = .ok (.iload_n 1, 1) := by decide +kernel
theorem dX4_readKind_69 : decode cX4_readKind 69 = .ok (.imul, 1) := by decide +kernel
theorem dX4_readKind_70 : decode cX4_readKind 70 = .ok (.aload_n 0, 1) := by decide +kernel
theorem dX4_readKind_71 : decode cX4_readKind 71 = .ok (.getfield 12, 3) := by decide +kernel
theorem dX4_readKind_74 : decode cX4_readKind 74 = .ok (.getfield 104, 3) := by decide +kernel
theorem dX4_readKind_77 : decode cX4_readKind 77 = .ok (.iastore, 1) := by decide +kernel
theorem dX4_readKind_78 : decode cX4_readKind 78 = .ok (.aload_n 0, 1) := by decide +kernel
theorem dX4_readKind_79 : decode cX4_readKind 79 = .ok (.getfield 12, 3) := by decide +kernel
theorem dX4_readKind_82 : decode cX4_readKind 82 = .ok (.iconst 1, 1) := by decide +kernel
theorem dX4_readKind_83 : decode cX4_readKind 83 = .ok (.bipush 99, 2) := by decide +kernel
theorem dX4_readKind_85 : decode cX4_readKind 85 = .ok (.invokevirtual 107, 3) := by decide +kernel
theorem dX4_readKind_88 : decode cX4_readKind 88 = .ok (.ifCond .ne 5, 3) := by decide +kernel
theorem dX4_readKind_91 : decode cX4_readKind 91 = .ok (.iconst 0, 1) := by decide +kernel
theorem dX4_readKind_92 : decode cX4_readKind 92 = .ok (.ireturn, 1) := by decide +kernel
theorem dX4_readKind_93 : decode cX4_readKind 93 = .ok (.aload_n 0, 1) := by decide +kernel
theorem dX4_readKind_94 : decode cX4_readKind 94 = .ok (.getfield 29, 3) := by decide +kernel
theorem dX4_readKind_97 : decode cX4_readKind 97 = .ok (.getfield 142, 3) := by decide +kernel
theorem dX4_readKind_100 : decode cX4_readKind 100 = .ok (.iconst 3, 1) := by decide +kernel
theorem dX4_readKind_101 : decode cX4_readKind 101 = .ok (.iload_n 1, 1) := by decide +kernel
theorem dX4_readKind_102 : decode cX4_readKind 102 = .ok (.imul, 1) := by decide +kernel
theorem dX4_readKind_103 : decode cX4_readKind 103 = .ok (.iconst 1, 1) := by decide +kernel
theorem dX4_readKind_104 : decode cX4_readKind 104 = .ok (.iadd, 1) := by decide +kernel
theorem dX4_readKind_105 : decode cX4_readKind 105 = .ok (.aload_n 0, 1) := by decide +kernel
theorem dX4_readKind_106 : decode cX4_readKind 106 = .ok (.getfield 12, 3) := by decide +kernel
theorem dX4_readKind_109 : decode cX4_readKind 109 = .ok (.getfield 104, 3) := by decide +kernel
theorem dX4_readKind_112 : decode cX4_readKind 112 = .ok (.iastore, 1) := by decide +kernel
theorem dX4_readKind_113 : decode cX4_readKind 113 = .ok (.aload_n 0, 1) := by decide +kernel
theorem dX4_readKind_114 : decode cX4_readKind 114 = .ok (.getfield 12, 3) := by decide +kernel
theorem dX4_readKind_117 : decode cX4_readKind 117 = .ok (.iconst 1, 1) := by decide +kernel
theorem dX4_readKind_118 : decode cX4_readKind 118 = .ok (.sipush 999, 3) := by decide +kernel
theorem dX4_readKind_121 : decode cX4_readKind 121 = .ok (.invokevirtual 107, 3) := by decide +kernel
theorem dX4_readKind_124 : decode cX4_readKind 124 = .ok (.ifCond .ne 5, 3) := by decide +kernel
theorem dX4_readKind_127 : decode cX4_readKind 127 = .ok (.iconst 0, 1) := by decide +kernel
theorem dX4_readKind_128 : decode cX4_readKind 128 = .ok (.ireturn, 1) := by decide +kernel
theorem dX4_readKind_129 : decode cX4_readKind 129 = .ok (.aload_n 0, 1) := by decide +kernel
theorem dX4_readKind_130 : decode cX4_readKind 130 = .ok (.getfield 29, 3) := by decide +kernel
theorem dX4_readKind_133 : decode cX4_readKind 133 = .ok (.getfield 142, 3) := by decide +kernel
theorem dX4_readKind_136 : decode cX4_readKind 136 = .ok (.iconst 3, 1) := by decide +kernel
theorem dX4_readKind_137 : decode cX4_readKind 137 = .ok (.iload_n 1, 1) := by decide +kernel
theorem dX4_readKind_138 : decode cX4_readKind 138 = .ok (.imul, 1) := by decide +kernel
theorem dX4_readKind_139 : decode cX4_readKind 139 = .ok (.iconst 2, 1) := by decide +kernel
theorem dX4_readKind_140 : decode cX4_readKind 140 = .ok (.iadd, 1) := by decide +kernel
theorem dX4_readKind_141 : decode cX4_readKind 141 = .ok (.aload_n 0, 1) := by decide +kernel
theorem dX4_readKind_142 : decode cX4_readKind 142 = .ok (.getfield 12, 3) := by decide +kernel
theorem dX4_readKind_145 : decode cX4_readKind 145 = .ok (.getfield 104, 3) := by decide +kernel
theorem dX4_readKind_148 : decode cX4_readKind 148 = .ok (.iastore, 1) := by decide +kernel
theorem dX4_readKind_149 : decode cX4_readKind 149 = .ok (.aload_n 0, 1) := by decide +kernel
theorem dX4_readKind_150 : decode cX4_readKind 150 = .ok (.getfield 29, 3) := by decide +kernel
theorem dX4_readKind_153 : decode cX4_readKind 153 = .ok (.dup, 1) := by decide +kernel
theorem dX4_readKind_154 : decode cX4_readKind 154 = .ok (.getfield 139, 3) := by decide +kernel
theorem dX4_readKind_157 : decode cX4_readKind 157 = .ok (.iconst 1, 1) := by decide +kernel
theorem dX4_readKind_158 : decode cX4_readKind 158 = .ok (.iadd, 1) := by decide +kernel
theorem dX4_readKind_159 : decode cX4_readKind 159 = .ok (.putfield 139, 3) := by decide +kernel
theorem dX4_readKind_162 : decode cX4_readKind 162 = .ok (.iconst 1, 1) := by decide +kernel
theorem dX4_readKind_163 : decode cX4_readKind 163 = .ok (.ireturn, 1) := by decide +kernel
theorem dX4_readAdds_0 : decode cX4_readAdds 0 = .ok (.aload_n 0, 1) := by decide +kernel
theorem dX4_readAdds_1 : decode cX4_readAdds 1 = .ok (.getfield 12, 3) := by decide +kernel
theorem dX4_readAdds_4 : decode cX4_readAdds 4 = .ok (.invokevirtual 145, 3) := by decide +kernel
theorem dX4_readAdds_7 : decode cX4_readAdds 7 = .ok (.ifCond .ne 5, 3) := by decide +kernel
theorem dX4_readAdds_10 : decode cX4_readAdds 10 = .ok (.iconst 0, 1) := by decide +kernel
theorem dX4_readAdds_11 : decode cX4_readAdds 11 = .ok (.ireturn, 1) := by decide +kernel
theorem dX4_readAdds_12 : decode cX4_readAdds 12 = .ok (.aload_n 0, 1) := by decide +kernel
theorem dX4_readAdds_13 : decode cX4_readAdds 13 = .ok (.aload_n 0, 1) := by decide +kernel
theorem dX4_readAdds_14 : decode cX4_readAdds 14 = .ok (.getfield 12, 3) := by decide +kernel
theorem dX4_readAdds_17 : decode cX4_readAdds 17 = .ok (.getfield 123, 3) := by decide +kernel
theorem dX4_readAdds_20 : decode cX4_readAdds 20 = .ok (.invokevirtual 148, 3) := by decide +kernel
theorem dX4_readAdds_23 : decode cX4_readAdds 23 = .ok (.istore_n 1, 1) := by decide +kernel
theorem dX4_readAdds_24 : decode cX4_readAdds 24 = .ok (.iload_n 1, 1) := by decide +kernel
theorem dX4_readAdds_25 : decode cX4_readAdds 25 = .ok (.iconst (-1), 1) := by decide +kernel
theorem dX4_readAdds_26 : decode cX4_readAdds 26 = .ok (.if_icmp .eq 15, 3) := by decide +kernel
theorem dX4_readAdds_29 : decode cX4_readAdds 29 = .ok (.aload_n 0, 1) := by decide +kernel
theorem dX4_readAdds_30 : decode cX4_readAdds 30 = .ok (.getfield 29, 3) := by decide +kernel
theorem dX4_readAdds_33 : decode cX4_readAdds 33 = .ok (.iload_n 1, 1) := by decide +kernel
theorem dX4_readAdds_34 : decode cX4_readAdds 34 = .ok (.invokevirtual 152, 3) := by decide +kernel
theorem dX4_readAdds_37 : decode cX4_readAdds 37 = .ok (.iconst (-1), 1) := by decide +kernel
theorem dX4_readAdds_38 : decode cX4_readAdds 38 = .ok (.if_icmp .eq 12, 3) := by decide +kernel
theorem dX4_readAdds_41 : decode cX4_readAdds 41 = .ok (.aload_n 0, 1) := by decide +kernel
theorem dX4_readAdds_42 : decode cX4_readAdds 42 = .ok (.getfield 12, 3) := by decide +kernel
theorem dX4_readAdds_45 : decode cX4_readAdds 45 = .ok (.iconst 3, 1) := by decide +kernel
theorem dX4_readAdds_46 : decode cX4_readAdds 46 = .ok (.invokevirtual 94, 3) := by decide +kernel
theorem dX4_readAdds_49 : decode cX4_readAdds 49 = .ok (.ireturn, 1) := by decide +kernel
theorem dX4_readAdds_50 : decode cX4_readAdds 50 = .ok (.aload_n 0, 1) := by decide +kernel
theorem dX4_readAdds_51 : decode cX4_readAdds 51 = .ok (.getfield 12, 3) := by decide +kernel
theorem dX4_readAdds_54 : decode cX4_readAdds 54 = .ok (.invokevirtual 145, 3) := by decide +kernel
theorem dX4_readAdds_57 : decode cX4_readAdds 57 = .ok (.ifCond .ne 5, 3) := by decide +kernel
theorem dX4_readAdds_60 : decode cX4_readAdds 60 = .ok (.iconst 0, 1) := by decide +kernel
theorem dX4_readAdds_61 : decode cX4_readAdds 61 = .ok (.ireturn, 1) := by decide +kernel
theorem dX4_readAdds_62 : decode cX4_readAdds 62 = .ok (.aload_n 0, 1) := by decide +kernel
theorem dX4_readAdds_63 : decode cX4_readAdds 63 = .ok (.aload_n 0, 1) := by decide +kernel
theorem dX4_readAdds_64 : decode cX4_readAdds 64 = .ok (.getfield 12, 3) := by decide +kernel
theorem dX4_readAdds_67 : decode cX4_readAdds 67 = .ok (.getfield 123, 3) := by decide +kernel
theorem dX4_readAdds_70 : decode cX4_readAdds 70 = .ok (.invokevirtual 155, 3) := by decide +kernel
theorem dX4_readAdds_73 : decode cX4_readAdds 73 = .ok (.istore_n 2, 1) := by decide +kernel
theorem dX4_readAdds_74 : decode cX4_readAdds 74 = .ok (.iload_n 2, 1) := by decide +kernel
theorem dX4_readAdds_75 : decode cX4_readAdds 75 = .ok (.iconst (-1), 1) := by decide +kernel
theorem dX4_readAdds_76 : decode cX4_readAdds 76 = .ok (.if_icmp .ne 12, 3) := by decide +kernel
theorem dX4_readAdds_79 : decode cX4_readAdds 79 = .ok (.aload_n 0, 1) := by decide +kernel
theorem dX4_readAdds_80 : decode cX4_readAdds 80 = .ok (.getfield 12, 3) := by decide +kernel
theorem dX4_readAdds_83 : decode cX4_readAdds 83 = .ok (.iconst 3, 1) := by decide +kernel
theorem dX4_readAdds_84 : decode cX4_readAdds 84 = .ok (.invokevirtual 94, 3) := by decide +kernel
theorem dX4_readAdds_87 : decode cX4_readAdds 87 = .ok (.ireturn, 1) := by decide +kernel
theorem dX4_readAdds_88 : decode cX4_readAdds 88 = .ok (.aload_n 0, 1) := by decide +kernel
theorem dX4_readAdds_89 : decode cX4_readAdds 89 = .ok (.getfield 29, 3) := by decide +kernel
theorem dX4_readAdds_92 : decode cX4_readAdds 92 = .ok (.getfield 130, 3) := by decide +kernel
theorem dX4_readAdds_95 : decode cX4_readAdds 95 = .ok (.iconst 3, 1) := by decide +kernel
theorem dX4_readAdds_96 : decode cX4_readAdds 96 = .ok (.iload_n 1, 1) := by decide +kernel
theorem dX4_readAdds_97 : decode cX4_readAdds 97 = .ok (.imul, 1) := by decide +kernel
theorem dX4_readAdds_98 : decode cX4_readAdds 98 = .ok (.iconst 2, 1) := by decide +kernel
theorem dX4_readAdds_99 : decode cX4_readAdds 99 = .ok (.iadd, 1) := by decide +kernel
theorem dX4_readAdds_100 : decode cX4_readAdds 100 = .ok (.iload_n 2, 1) := by decide +kernel
theorem dX4_readAdds_101 : decode cX4_readAdds 101 = .ok (.iastore, 1) := by decide +kernel
theorem dX4_readAdds_102 : decode cX4_readAdds 102 = .ok (.iconst 1, 1) := by decide +kernel
theorem dX4_readAdds_103 : decode cX4_readAdds 103 = .ok (.ireturn, 1) := by decide +kernel
theorem dX4_readEngine_0 : decode cX4_readEngine 0 = .ok (.aload_n 0, 1) := by decide +kernel
theorem dX4_readEngine_1 : decode cX4_readEngine 1 = .ok (.getfield 12, 3) := by decide +kernel
theorem dX4_readEngine_4 : decode cX4_readEngine 4 = .ok (.iconst 1, 1) := by decide +kernel
theorem dX4_readEngine_5 : decode cX4_readEngine 5 = .ok (.sipush 999, 3) := by decide +kernel
theorem dX4_readEngine_8 : decode cX4_readEngine 8 = .ok (.invokevirtual 107, 3) := by decide +kernel
theorem dX4_readEngine_11 : decode cX4_readEngine 11 = .ok (.ifCond .ne 5, 3) := by decide +kernel
theorem dX4_readEngine_14 : decode cX4_readEngine 14 = .ok (.iconst 0, 1) := by decide +kernel
theorem dX4_readEngine_15 : decode cX4_readEngine 15 = .ok (.ireturn, 1) := by decide +kernel
theorem dX4_readEngine_16 : decode cX4_readEngine 16 = .ok (.aload_n 0, 1) := by decide +kernel
theorem dX4_readEngine_17 : decode cX4_readEngine 17 = .ok (.getfield 29, 3) := by decide +kernel
theorem dX4_readEngine_20 : decode cX4_readEngine 20 = .ok (.aload_n 0, 1) := by decide +kernel
theorem dX4_readEngine_21 : decode cX4_readEngine 21 = .ok (.getfield 12, 3) := by decide +kernel
theorem dX4_readEngine_24 : decode cX4_readEngine 24 = .ok (.getfield 104, 3) := by decide +kernel
theorem dX4_readEngine_27 : decode cX4_readEngine 27 = .ok (.putfield 158, 3) := by decide +kernel
theorem dX4_readEngine_30 : decode cX4_readEngine 30 = .ok (.aload_n 0, 1) := by decide +kernel
theorem dX4_readEngine_31 : decode cX4_readEngine 31 = .ok (.getfield 12, 3) := by decide +kernel
theorem dX4_readEngine_34 : decode cX4_readEngine 34 = .ok (.iconst 1, 1) := by decide +kernel
theorem dX4_readEngine_35 : decode cX4_readEngine 35 = .ok (.bipush 99, 2) := by decide +kernel
theorem dX4_readEngine_37 : decode cX4_readEngine 37 = .ok (.invokevirtual 107, 3) := by decide +kernel
theorem dX4_readEngine_40 : decode cX4_readEngine 40 = .ok (.ifCond .ne 5, 3) := by decide +kernel
theorem dX4_readEngine_43 : decode cX4_readEngine 43 = .ok (.iconst 0, 1) := by decide +kernel
theorem dX4_readEngine_44 : decode cX4_readEngine 44 = .ok (.ireturn, 1) := by decide +kernel
theorem dX4_readEngine_45 : decode cX4_readEngine 45 = .ok (.aload_n 0, 1) := by decide +kernel
theorem dX4_readEngine_46 : decode cX4_readEngine 46 = .ok (.getfield 29, 3) := by decide +kernel
theorem dX4_readEngine_49 : decode cX4_readEngine 49 = .ok (.aload_n 0, 1) := by decide +kernel
theorem dX4_readEngine_50 : decode cX4_readEngine 50 = .ok (.getfield 12, 3) := by decide +kernel
theorem dX4_readEngine_53 : decode cX4_readEngine 53 = .ok (.getfield 104, 3) := by decide +kernel
theorem dX4_readEngine_56 : decode cX4_readEngine 56 = .ok (.putfield 161, 3) := by decide +kernel
theorem dX4_readEngine_59 : decode cX4_readEngine 59 = .ok (.iconst 1, 1) := by decide +kernel
theorem dX4_readEngine_60 : decode cX4_readEngine 60 = .ok (.ireturn, 1) := by decide +kernel
theorem dX4_readNumber_0 : decode cX4_readNumber 0 = .ok (.iload_n 1, 1) := by decide +kernel
theorem dX4_readNumber_1 : decode cX4_readNumber 1 = .ok (.bipush 6, 2) := by decide +kernel
theorem dX4_readNumber_3 : decode cX4_readNumber 3 = .ok (.if_icmp .eq 9, 3) := by decide +kernel
theorem dX4_readNumber_6 : decode cX4_readNumber 6 = .ok (.iload_n 1, 1) := by decide +kernel
theorem dX4_readNumber_7 : decode cX4_readNumber 7 = .ok (.bipush 7, 2) := by decide +kernel
theorem dX4_readNumber_9 : decode cX4_readNumber 9 = .ok (.if_icmp .ne 7, 3) := by decide +kernel
theorem dX4_readNumber_12 : decode cX4_readNumber 12 = .ok (.iconst 0, 1) := by decide +kernel
theorem dX4_readNumber_13 : decode cX4_readNumber 13 = .ok (.goto 4, 3) := by decide +kernel
theorem dX4_readNumber_16 : decode cX4_readNumber 16 = .ok (.iconst 1, 1) := by decide +kernel
theorem dX4_readNumber_17 : decode cX4_readNumber 17 = .ok (.istore_n 2, 1) := by decide +kernel
theorem dX4_readNumber_18 : decode cX4_readNumber 18 = .ok (.iload_n 1, 1) := by decide +kernel
theorem dX4_readNumber_19 : decode cX4_readNumber 19 = .ok (.bipush 6, 2) := by decide +kernel
theorem dX4_readNumber_21 : decode cX4_readNumber 21 = .ok (.if_icmp .eq 9, 3) := by decide +kernel
theorem dX4_readNumber_24 : decode cX4_readNumber 24 = .ok (.iload_n 1, 1) := by decide +kernel
theorem dX4_readNumber_25 : decode cX4_readNumber 25 = .ok (.bipush 9, 2) := by decide +kernel
theorem dX4_readNumber_27 : decode cX4_readNumber 27 = .ok (.if_icmp .ne 8, 3) := by decide +kernel
theorem dX4_readNumber_30 : decode cX4_readNumber 30 = .ok (.bipush 9, 2) := by decide +kernel
theorem dX4_readNumber_32 : decode cX4_readNumber 32 = .ok (.goto 5, 3) := by decide +kernel
theorem dX4_readNumber_35 : decode cX4_readNumber 35 = .ok (.bipush 99, 2) := by decide +kernel
theorem dX4_readNumber_37 : decode cX4_readNumber 37 = .ok (.istore_n 3, 1) := by decide +kernel
theorem dX4_readNumber_38 : decode cX4_readNumber 38 = .ok (.aload_n 0, 1) := by decide +kernel
theorem dX4_readNumber_39 : decode cX4_readNumber 39 = .ok (.getfield 12, 3) := by decide +kernel
theorem dX4_readNumber_42 : decode cX4_readNumber 42 = .ok (.iload_n 2, 1) := by decide +kernel
theorem dX4_readNumber_43 : decode cX4_readNumber 43 = .ok (.iload_n 3, 1) := by decide +kernel
theorem dX4_readNumber_44 : decode cX4_readNumber 44 = .ok (.invokevirtual 107, 3) := by decide +kernel
theorem dX4_readNumber_47 : decode cX4_readNumber 47 = .ok (.ifCond .ne 5, 3) := by decide +kernel
theorem dX4_readNumber_50 : decode cX4_readNumber 50 = .ok (.iconst 0, 1) := by decide +kernel
theorem dX4_readNumber_51 : decode cX4_readNumber 51 = .ok (.ireturn, 1) := by decide +kernel
theorem dX4_readNumber_52 : decode cX4_readNumber 52 = .ok (.iload_n 1, 1) := by decide +kernel
theorem dX4_readNumber_53 : decode cX4_readNumber 53 = .ok (.tableswitch 78 6 8 #[27, 44, 61], 27) := by decide +kernel
theorem dX4_readNumber_80 : decode cX4_readNumber 80 = .ok (.aload_n 0, 1) := by decide +kernel
theorem dX4_readNumber_81 : decode cX4_readNumber 81 = .ok (.getfield 29, 3) := by decide +kernel
theorem dX4_readNumber_84 : decode cX4_readNumber 84 = .ok (.aload_n 0, 1) := by decide +kernel
theorem dX4_readNumber_85 : decode cX4_readNumber 85 = .ok (.getfield 12, 3) := by decide +kernel
theorem dX4_readNumber_88 : decode cX4_readNumber 88 = .ok (.getfield 104, 3) := by decide +kernel
theorem dX4_readNumber_91 : decode cX4_readNumber 91 = .ok (.putfield 164, 3) := by decide +kernel
theorem dX4_readNumber_94 : decode cX4_readNumber 94 = .ok (.goto 51, 3) := by decide +kernel
theorem dX4_readNumber_97 : decode cX4_readNumber 97 = .ok (.aload_n 0, 1) := by decide +kernel
theorem dX4_readNumber_98 : decode cX4_readNumber 98 = .ok (.getfield 29, 3) := by decide +kernel
theorem dX4_readNumber_101 : decode cX4_readNumber 101 = .ok (.aload_n 0, 1) := by decide +kernel
theorem dX4_readNumber_102 : decode cX4_readNumber 102 = .ok (.getfield 12, 3) := by decide +kernel
theorem dX4_readNumber_105 : decode cX4_readNumber 105 = .ok (.getfield 104, 3) := by decide +kernel
theorem dX4_readNumber_108 : decode cX4_readNumber 108 = .ok (.putfield 167, 3) := by decide +kernel
theorem dX4_readNumber_111 : decode cX4_readNumber 111 = .ok (.goto 34, 3) := by decide +kernel
theorem dX4_readNumber_114 : decode cX4_readNumber 114 = .ok (.aload_n 0, 1) := by decide +kernel
theorem dX4_readNumber_115 : decode cX4_readNumber 115 = .ok (.getfield 29, 3) := by decide +kernel
theorem dX4_readNumber_118 : decode cX4_readNumber 118 = .ok (.aload_n 0, 1) := by decide +kernel
theorem dX4_readNumber_119 : decode cX4_readNumber 119 = .ok (.getfield 12, 3) := by decide +kernel
theorem dX4_readNumber_122 : decode cX4_readNumber 122 = .ok (.getfield 104, 3) := by decide +kernel
theorem dX4_readNumber_125 : decode cX4_readNumber 125 = .ok (.putfield 170, 3) := by decide +kernel
theorem dX4_readNumber_128 : decode cX4_readNumber 128 = .ok (.goto 17, 3) := by decide +kernel
theorem dX4_readNumber_131 : decode cX4_readNumber 131 = .ok (.aload_n 0, 1) := by decide +kernel
theorem dX4_readNumber_132 : decode cX4_readNumber 132 = .ok (.getfield 29, 3) := by decide +kernel
theorem dX4_readNumber_135 : decode cX4_readNumber 135 = .ok (.aload_n 0, 1) := by decide +kernel
theorem dX4_readNumber_136 : decode cX4_readNumber 136 = .ok (.getfield 12, 3) := by decide +kernel
theorem dX4_readNumber_139 : decode cX4_readNumber 139 = .ok (.getfield 104, 3) := by decide +kernel
theorem dX4_readNumber_142 : decode cX4_readNumber 142 = .ok (.putfield 173, 3) := by decide +kernel
theorem dX4_readNumber_145 : decode cX4_readNumber 145 = .ok (.iconst 1, 1) := by decide +kernel
theorem dX4_readNumber_146 : decode cX4_readNumber 146 = .ok (.ireturn, 1) := by decide +kernel
theorem dX4_readTrain_0 : decode cX4_readTrain 0 = .ok (.aload_n 0, 1) := by decide +kernel
theorem dX4_readTrain_1 : decode cX4_readTrain 1 = .ok (.getfield 12, 3) := by decide +kernel
theorem dX4_readTrain_4 : decode cX4_readTrain 4 = .ok (.invokevirtual 45, 3) := by decide +kernel
theorem dX4_readTrain_7 : decode cX4_readTrain 7 = .ok (.iconst 0, 1) := by decide +kernel
theorem dX4_readTrain_8 : decode cX4_readTrain 8 = .ok (.istore_n 1, 1) := by decide +kernel
theorem dX4_readTrain_9 : decode cX4_readTrain 9 = .ok (.iload_n 1, 1) := by decide +kernel
theorem dX4_readTrain_10 : decode cX4_readTrain 10 = .ok (.bipush 8, 2) := by decide +kernel
theorem dX4_readTrain_12 : decode cX4_readTrain 12 = .ok (.if_icmp .gt 106, 3) := by decide +kernel
theorem dX4_readTrain_15 : decode cX4_readTrain 15 = .ok (.iload_n 1, 1) := by decide +kernel
theorem dX4_readTrain_16 : decode cX4_readTrain 16 = .ok (.ifCond .le 16, 3) := by decide +kernel
theorem dX4_readTrain_19 : decode cX4_readTrain 19 = .ok (.aload_n 0, 1) := by decide +kernel
theorem dX4_readTrain_20 : decode cX4_readTrain 20 = .ok (.getfield 12, 3) := by decide +kernel
theorem dX4_readTrain_23 : decode cX4_readTrain 23 = .ok (.getfield 97, 3) := by decide +kernel
theorem dX4_readTrain_26 : decode cX4_readTrain 26 = .ok (.iconst 3, 1) := by decide +kernel
theorem dX4_readTrain_27 : decode cX4_readTrain 27 = .ok (.if_icmp .ne 5, 3) := by decide +kernel
theorem dX4_readTrain_30 : decode cX4_readTrain 30 = .ok (.iconst 1, 1) := by decide +kernel
theorem dX4_readTrain_31 : decode cX4_readTrain 31 = .ok (.ireturn, 1) := by decide +kernel
theorem dX4_readTrain_32 : decode cX4_readTrain 32 = .ok (.aload_n 0, 1) := by decide +kernel
theorem dX4_readTrain_33 : decode cX4_readTrain 33 = .ok (.getfield 12, 3) := by decide +kernel
theorem dX4_readTrain_36 : decode cX4_readTrain 36 = .ok (.invokevirtual 176, 3) := by decide +kernel
theorem dX4_readTrain_39 : decode cX4_readTrain 39 = .ok (.ifCond .ne 5, 3) := by decide +kernel
theorem dX4_readTrain_42 : decode cX4_readTrain 42 = .ok (.iconst 0, 1) := by decide +kernel
theorem dX4_readTrain_43 : decode cX4_readTrain 43 = .ok (.ireturn, 1) := by decide +kernel
theorem dX4_readTrain_44 : decode cX4_readTrain 44 = .ok (.aload_n 0, 1) := by decide +kernel
theorem dX4_readTrain_45 : decode cX4_readTrain 45 = .ok (.aload_n 0, 1) := by decide +kernel
theorem dX4_readTrain_46 : decode cX4_readTrain 46 = .ok (.getfield 12, 3) := by decide +kernel
theorem dX4_readTrain_49 : decode cX4_readTrain 49 = .ok (.getfield 123, 3) := by decide +kernel
theorem dX4_readTrain_52 : decode cX4_readTrain 52 = .ok (.invokevirtual 155, 3) := by decide +kernel
theorem dX4_readTrain_55 : decode cX4_readTrain 55 = .ok (.istore_n 2, 1) := by decide +kernel
theorem dX4_readTrain_56 : decode cX4_readTrain 56 = .ok (.iload_n 2, 1) := by decide +kernel
theorem dX4_readTrain_57 : decode cX4_readTrain 57 = .ok (.iconst (-1), 1) := by decide +kernel
theorem dX4_readTrain_58 : decode cX4_readTrain 58 = .ok (.if_icmp .ne 12, 3) := by decide +kernel
theorem dX4_readTrain_61 : decode cX4_readTrain 61 = .ok (.aload_n 0, 1) := by decide +kernel
theorem dX4_readTrain_62 : decode cX4_readTrain 62 = .ok (.getfield 12, 3) := by decide +kernel
theorem dX4_readTrain_65 : decode cX4_readTrain 65 = .ok (.iconst 3, 1) := by decide +kernel
theorem dX4_readTrain_66 : decode cX4_readTrain 66 = .ok (.invokevirtual 94, 3) := by decide +kernel
theorem dX4_readTrain_69 : decode cX4_readTrain 69 = .ok (.ireturn, 1) := by decide +kernel
theorem dX4_readTrain_70 : decode cX4_readTrain 70 = .ok (.iload_n 1, 1) := by decide +kernel
theorem dX4_readTrain_71 : decode cX4_readTrain 71 = .ok (.bipush 8, 2) := by decide +kernel
theorem dX4_readTrain_73 : decode cX4_readTrain 73 = .ok (.if_icmp .ne 12, 3) := by decide +kernel
theorem dX4_readTrain_76 : decode cX4_readTrain 76 = .ok (.aload_n 0, 1) := by decide +kernel
theorem dX4_readTrain_77 : decode cX4_readTrain 77 = .ok (.getfield 12, 3) := by decide +kernel
theorem dX4_readTrain_80 : decode cX4_readTrain 80 = .ok (.iconst 4, 1) := by decide +kernel
theorem dX4_readTrain_81 : decode cX4_readTrain 81 = .ok (.invokevirtual 94, 3) := by decide +kernel
theorem dX4_readTrain_84 : decode cX4_readTrain 84 = .ok (.ireturn, 1) := by decide +kernel
theorem dX4_readTrain_85 : decode cX4_readTrain 85 = .ok (.aload_n 0, 1) := by decide +kernel
theorem dX4_readTrain_86 : decode cX4_readTrain 86 = .ok (.getfield 29, 3) := by decide +kernel
theorem dX4_readTrain_89 : decode cX4_readTrain 89 = .ok (.getfield 179, 3) := by decide +kernel
theorem dX4_readTrain_92 : decode cX4_readTrain 92 = .ok (.iload_n 1, 1) := by decide +kernel
theorem dX4_readTrain_93 : decode cX4_readTrain 93 = .ok (.iload_n 2, 1) := by decide +kernel
theorem dX4_readTrain_94 : decode cX4_readTrain 94 = .ok (.iastore, 1) := by decide +kernel
theorem dX4_readTrain_95 : decode cX4_readTrain 95 = .ok (.aload_n 0, 1) := by decide +kernel
theorem dX4_readTrain_96 : decode cX4_readTrain 96 = .ok (.getfield 29, 3) := by decide +kernel
theorem dX4_readTrain_99 : decode cX4_readTrain 99 = .ok (.iload_n 1, 1) := by decide +kernel
theorem dX4_readTrain_100 : decode cX4_readTrain 100 = .ok (.iconst 1, 1) := by decide +kernel
theorem dX4_readTrain_101 : decode cX4_readTrain 101 = .ok (.iadd, 1) := by decide +kernel
theorem dX4_readTrain_102 : decode cX4_readTrain 102 = .ok (.putfield 182, 3) := by decide +kernel
theorem dX4_readTrain_105 : decode cX4_readTrain 105 = .ok (.aload_n 0, 1) := by decide +kernel
theorem dX4_readTrain_106 : decode cX4_readTrain 106 = .ok (.getfield 12, 3) := by decide +kernel
theorem dX4_readTrain_109 : decode cX4_readTrain 109 = .ok (.invokevirtual 45, 3) := by decide +kernel
theorem dX4_readTrain_112 : decode cX4_readTrain 112 = .ok (.iinc 1 1, 3) := by decide +kernel
theorem dX4_readTrain_115 : decode cX4_readTrain 115 = .ok (.goto (-106), 3) := by decide +kernel
theorem dX4_readTrain_118 : decode cX4_readTrain 118 = .ok (.iconst 0, 1) := by decide +kernel
theorem dX4_readTrain_119 : decode cX4_readTrain 119 = .ok (.ireturn, 1) := by decide +kernel
theorem dX4_nextNewName_0 : decode cX4_nextNewName 0 = .ok (.aload_n 0, 1) := by decide +kernel
theorem dX4_nextNewName_1 : decode cX4_nextNewName 1 = .ok (.getfield 12, 3) := by decide +kernel
theorem dX4_nextNewName_4 : decode cX4_nextNewName 4 = .ok (.invokevirtual 45, 3) := by decide +kernel
theorem dX4_nextNewName_7 : decode cX4_nextNewName 7 = .ok (.aload_n 0, 1) := by decide +kernel
theorem dX4_nextNewName_8 : decode cX4_nextNewName 8 = .ok (.getfield 12, 3) := by decide +kernel
theorem dX4_nextNewName_11 : decode cX4_nextNewName 11 = .ok (.invokevirtual 176, 3) := by decide +kernel
theorem dX4_nextNewName_14 : decode cX4_nextNewName 14 = .ok (.ifCond .ne 5, 3) := by decide +kernel
theorem dX4_nextNewName_17 : decode cX4_nextNewName 17 = .ok (.iconst 0, 1) := by decide +kernel
theorem dX4_nextNewName_18 : decode cX4_nextNewName 18 = .ok (.ireturn, 1) := by decide +kernel
theorem dX4_nextNewName_19 : decode cX4_nextNewName 19 = .ok (.aload_n 0, 1) := by decide +kernel
theorem dX4_nextNewName_20 : decode cX4_nextNewName 20 = .ok (.aload_n 0, 1) := by decide +kernel
theorem dX4_nextNewName_21 : decode cX4_nextNewName 21 = .ok (.getfield 12, 3) := by decide +kernel
theorem dX4_nextNewName_24 : decode cX4_nextNewName 24 = .ok (.getfield 123, 3) := by decide +kernel
theorem dX4_nextNewName_27 : decode cX4_nextNewName 27 = .ok (.invokevirtual 148, 3) := by decide +kernel
theorem dX4_nextNewName_30 : decode cX4_nextNewName 30 = .ok (.iconst (-1), 1) := by decide +kernel
theorem dX4_nextNewName_31 : decode cX4_nextNewName 31 = .ok (.if_icmp .ne 18, 3) := by decide +kernel
theorem dX4_nextNewName_34 : decode cX4_nextNewName 34 = .ok (.aload_n 0, 1) := by decide +kernel
theorem dX4_nextNewName_35 : decode cX4_nextNewName 35 = .ok (.aload_n 0, 1) := by decide +kernel
theorem dX4_nextNewName_36 : decode cX4_nextNewName 36 = .ok (.getfield 12, 3) := by decide +kernel
theorem dX4_nextNewName_39 : decode cX4_nextNewName 39 = .ok (.getfield 123, 3) := by decide +kernel
theorem dX4_nextNewName_42 : decode cX4_nextNewName 42 = .ok (.invokevirtual 155, 3) := by decide +kernel
theorem dX4_nextNewName_45 : decode cX4_nextNewName 45 = .ok (.iconst (-1), 1) := by decide +kernel
theorem dX4_nextNewName_46 : decode cX4_nextNewName 46 = .ok (.if_icmp .eq 7, 3) := by decide +kernel
theorem dX4_nextNewName_49 : decode cX4_nextNewName 49 = .ok (.iconst 1, 1) := by decide +kernel
theorem dX4_nextNewName_50 : decode cX4_nextNewName 50 = .ok (.goto 4, 3) := by decide +kernel
theorem dX4_nextNewName_53 : decode cX4_nextNewName 53 = .ok (.iconst 0, 1) := by decide +kernel
theorem dX4_nextNewName_54 : decode cX4_nextNewName 54 = .ok (.istore_n 1, 1) := by decide +kernel
theorem dX4_nextNewName_55 : decode cX4_nextNewName 55 = .ok (.iload_n 1, 1) := by decide +kernel
theorem dX4_nextNewName_56 : decode cX4_nextNewName 56 = .ok (.ifCond .eq 14, 3) := by decide +kernel
theorem dX4_nextNewName_59 : decode cX4_nextNewName 59 = .ok (.aload_n 0, 1) := by decide +kernel
theorem dX4_nextNewName_60 : decode cX4_nextNewName 60 = .ok (.getfield 12, 3) := by decide +kernel
theorem dX4_nextNewName_63 : decode cX4_nextNewName 63 = .ok (.iconst 3, 1) := by decide +kernel
theorem dX4_nextNewName_64 : decode cX4_nextNewName 64 = .ok (.invokevirtual 94, 3) := by decide +kernel
theorem dX4_nextNewName_67 : decode cX4_nextNewName 67 = .ok (.ifCond .eq 7, 3) := by decide +kernel
theorem dX4_nextNewName_70 : decode cX4_nextNewName 70 = .ok (.iconst 1, 1) := by decide +kernel
theorem dX4_nextNewName_71 : decode cX4_nextNewName 71 = .ok (.goto 4, 3) := by decide +kernel
theorem dX4_nextNewName_74 : decode cX4_nextNewName 74 = .ok (.iconst 0, 1) := by decide +kernel
theorem dX4_nextNewName_75 : decode cX4_nextNewName 75 = .ok (.ireturn, 1) := by decide +kernel
theorem dX4_haltNamed_0 : decode cX4_haltNamed 0 = .ok (.lload_n 1, 1) := by decide +kernel
theorem dX4_haltNamed_1 : decode cX4_haltNamed 1 = .ok (.aload_n 0, 1) := by decide +kernel
theorem dX4_haltNamed_2 : decode cX4_haltNamed 2 = .ok (.getfield 18, 3) := by decide +kernel
theorem dX4_haltNamed_5 : decode cX4_haltNamed 5 = .ok (.aload_n 0, 1) := by decide +kernel
theorem dX4_haltNamed_6 : decode cX4_haltNamed 6 = .ok (.getfield 29, 3) := by decide +kernel
theorem dX4_haltNamed_9 : decode cX4_haltNamed 9 = .ok (.getfield 117, 3) := by decide +kernel
theorem dX4_haltNamed_12 : decode cX4_haltNamed 12 = .ok (.invokestatic 185, 3) := by decide +kernel
theorem dX4_haltNamed_15 : decode cX4_haltNamed 15 = .ok (.ireturn, 1) := by decide +kernel
theorem dX4_kindNamed_0 : decode cX4_kindNamed 0 = .ok (.lload_n 1, 1) := by decide +kernel
theorem dX4_kindNamed_1 : decode cX4_kindNamed 1 = .ok (.aload_n 0, 1) := by decide +kernel
theorem dX4_kindNamed_2 : decode cX4_kindNamed 2 = .ok (.getfield 22, 3) := by decide +kernel
theorem dX4_kindNamed_5 : decode cX4_kindNamed 5 = .ok (.aload_n 0, 1) := by decide +kernel
theorem dX4_kindNamed_6 : decode cX4_kindNamed 6 = .ok (.getfield 29, 3) := by decide +kernel
theorem dX4_kindNamed_9 : decode cX4_kindNamed 9 = .ok (.getfield 139, 3) := by decide +kernel
theorem dX4_kindNamed_12 : decode cX4_kindNamed 12 = .ok (.invokestatic 185, 3) := by decide +kernel
theorem dX4_kindNamed_15 : decode cX4_kindNamed 15 = .ok (.ireturn, 1) := by decide +kernel
theorem dX4_indexOf_0 : decode cX4_indexOf 0 = .ok (.iconst 0, 1) := by decide +kernel
theorem dX4_indexOf_1 : decode cX4_indexOf 1 = .ok (.istore 4, 2) := by decide +kernel
theorem dX4_indexOf_3 : decode cX4_indexOf 3 = .ok (.iload 4, 2) := by decide +kernel
theorem dX4_indexOf_5 : decode cX4_indexOf 5 = .ok (.iload_n 3, 1) := by decide +kernel
theorem dX4_indexOf_6 : decode cX4_indexOf 6 = .ok (.if_icmp .ge 21, 3) := by decide +kernel
theorem dX4_indexOf_9 : decode cX4_indexOf 9 = .ok (.aload_n 2, 1) := by decide +kernel
theorem dX4_indexOf_10 : decode cX4_indexOf 10 = .ok (.iload 4, 2) := by decide +kernel
theorem dX4_indexOf_12 : decode cX4_indexOf 12 = .ok (.laload, 1) := by decide +kernel
theorem dX4_indexOf_13 : decode cX4_indexOf 13 = .ok (.lload_n 0, 1) := by decide +kernel
theorem dX4_indexOf_14 : decode cX4_indexOf 14 = .ok (.lcmp, 1) := by decide +kernel
theorem dX4_indexOf_15 : decode cX4_indexOf 15 = .ok (.ifCond .ne 6, 3) := by decide +kernel
theorem dX4_indexOf_18 : decode cX4_indexOf 18 = .ok (.iload 4, 2) := by decide +kernel
theorem dX4_indexOf_20 : decode cX4_indexOf 20 = .ok (.ireturn, 1) := by decide +kernel
theorem dX4_indexOf_21 : decode cX4_indexOf 21 = .ok (.iinc 4 1, 3) := by decide +kernel
theorem dX4_indexOf_24 : decode cX4_indexOf 24 = .ok (.goto (-21), 3) := by decide +kernel
theorem dX4_indexOf_27 : decode cX4_indexOf 27 = .ok (.iconst (-1), 1) := by decide +kernel
theorem dX4_indexOf_28 : decode cX4_indexOf 28 = .ok (.ireturn, 1) := by decide +kernel
theorem dX5_init_0 : decode cX5_init 0 = .ok (.aload_n 0, 1) := by decide +kernel
theorem dX5_init_1 : decode cX5_init 1 = .ok (.invokespecial 3, 3) := by decide +kernel
theorem dX5_init_4 : decode cX5_init 4 = .ok (.aload_n 0, 1) := by decide +kernel
theorem dX5_init_5 : decode cX5_init 5 = .ok (.iconst 5, 1) := by decide +kernel
theorem dX5_init_6 : decode cX5_init 6 = .ok (.anewarray 9, 3) := by decide +kernel
theorem dX5_init_9 : decode cX5_init 9 = .ok (.dup, 1) := by decide +kernel
theorem dX5_init_10 : decode cX5_init 10 = .ok (.iconst 0, 1) := by decide +kernel
theorem dX5_init_11 : decode cX5_init 11 = .ok (.new 9, 3) := by decide +kernel
theorem dX5_init_14 : decode cX5_init 14 = .ok (.dup, 1) := by decide +kernel
theorem dX5_init_15 : decode cX5_init 15 = .ok (.invokespecial 11, 3) := by decide +kernel
theorem dX5_init_18 : decode cX5_init 18 = .ok (.aastore, 1) := by decide +kernel
theorem dX5_init_19 : decode cX5_init 19 = .ok (.dup, 1) := by decide +kernel
theorem dX5_init_20 : decode cX5_init 20 = .ok (.iconst 1, 1) := by decide +kernel
theorem dX5_init_21 : decode cX5_init 21 = .ok (.new 9, 3) := by decide +kernel
theorem dX5_init_24 : decode cX5_init 24 = .ok (.dup, 1) := by decide +kernel
theorem dX5_init_25 : decode cX5_init 25 = .ok (.invokespecial 11, 3) := by decide +kernel
theorem dX5_init_28 : decode cX5_init 28 = .ok (.aastore, 1) := by decide +kernel
theorem dX5_init_29 : decode cX5_init 29 = .ok (.dup, 1) := by decide +kernel
theorem dX5_init_30 : decode cX5_init 30 = .ok (.iconst 2, 1) := by decide +kernel
theorem dX5_init_31 : decode cX5_init 31 = .ok (.new 9, 3) := by decide +kernel
theorem dX5_init_34 : decode cX5_init 34 = .ok (.dup, 1) := by decide +kernel
theorem dX5_init_35 : decode cX5_init 35 = .ok (.invokespecial 11, 3) := by decide +kernel
theorem dX5_init_38 : decode cX5_init 38 = .ok (.aastore, 1) := by decide +kernel
theorem dX5_init_39 : decode cX5_init 39 = .ok (.dup, 1) := by decide +kernel
theorem dX5_init_40 : decode cX5_init 40 = .ok (.iconst 3, 1) := by decide +kernel
theorem dX5_init_41 : decode cX5_init 41 = .ok (.new 9, 3) := by decide +kernel
theorem dX5_init_44 : decode cX5_init 44 = .ok (.dup, 1) := by decide +kernel
theorem dX5_init_45 : decode cX5_init 45 = .ok (.invokespecial 11, 3) := by decide +kernel
theorem dX5_init_48 : decode cX5_init 48 = .ok (.aastore, 1) := by decide +kernel
theorem dX5_init_49 : decode cX5_init 49 = .ok (.dup, 1) := by decide +kernel
theorem dX5_init_50 : decode cX5_init 50 = .ok (.iconst 4, 1) := by decide +kernel
theorem dX5_init_51 : decode cX5_init 51 = .ok (.new 9, 3) := by decide +kernel
theorem dX5_init_54 : decode cX5_init 54 = .ok (.dup, 1) := by decide +kernel
theorem dX5_init_55 : decode cX5_init 55 = .ok (.invokespecial 11, 3) := by decide +kernel
theorem dX5_init_58 : decode cX5_init 58 = .ok (.aastore, 1) := by decide +kernel
theorem dX5_init_59 : decode cX5_init 59 = .ok (.putfield 12, 3) := by decide +kernel
theorem dX5_init_62 : decode cX5_init 62 = .ok (.aload_n 0, 1) := by decide +kernel
theorem dX5_init_63 : decode cX5_init 63 = .ok (.iconst 4, 1) := by decide +kernel
theorem dX5_init_64 : decode cX5_init 64 = .ok (.newarray .int, 2) := by decide +kernel
theorem dX5_init_66 : decode cX5_init 66 = .ok (.putfield 18, 3) := by decide +kernel
theorem dX5_init_69 : decode cX5_init 69 = .ok (.aload_n 0, 1) := by decide +kernel
theorem dX5_init_70 : decode cX5_init 70 = .ok (.iconst 4, 1) := by decide +kernel
theorem dX5_init_71 : decode cX5_init 71 = .ok (.newarray .int, 2) := by decide +kernel
theorem dX5_init_73 : decode cX5_init 73 = .ok (.putfield 22, 3) := by decide +kernel
theorem dX5_init_76 : decode cX5_init 76 = .ok (.aload_n 0, 1) := by decide +kernel
theorem dX5_init_77 : decode cX5_init 77 = .ok (.new 9, 3) := by decide +kernel
theorem dX5_init_80 : decode cX5_init 80 = .ok (.dup, 1) := by decide +kernel
theorem dX5_init_81 : decode cX5_init 81 = .ok (.invokespecial 11, 3) := by decide +kernel
theorem dX5_init_84 : decode cX5_init 84 = .ok (.putfield 25, 3) := by decide +kernel
theorem dX5_init_87 : decode cX5_init 87 = .ok (.aload_n 0, 1) := by decide +kernel
theorem dX5_init_88 : decode cX5_init 88 = .ok (.bipush 20, 2) := by decide +kernel
theorem dX5_init_90 : decode cX5_init 90 = .ok (.newarray .int, 2) := by decide +kernel
theorem dX5_init_92 : decode cX5_init 92 = .ok (.putfield 29, 3) := by decide +kernel
theorem dX5_init_95 : decode cX5_init 95 = .ok (.aload_n 0, 1) := by decide +kernel
theorem dX5_init_96 : decode cX5_init 96 = .ok (.sipush 401, 3) := by decide +kernel
theorem dX5_init_99 : decode cX5_init 99 = .ok (.newarray .int, 2) := by decide +kernel
theorem dX5_init_101 : decode cX5_init 101 = .ok (.putfield 32, 3) := by decide +kernel
theorem dX5_init_104 : decode cX5_init 104 = .ok (.aload_n 0, 1) := by decide +kernel
theorem dX5_init_105 : decode cX5_init 105 = .ok (.bipush 20, 2) := by decide +kernel
theorem dX5_init_107 : decode cX5_init 107 = .ok (.newarray .int, 2) := by decide +kernel
theorem dX5_init_109 : decode cX5_init 109 = .ok (.putfield 35, 3) := by decide +kernel
theorem dX5_init_112 : decode cX5_init 112 = .ok (.return_, 1) := by decide +kernel
theorem dX5_holdsAt_0 : decode cX5_holdsAt 0 = .ok (.aload_n 1, 1) := by decide +kernel
theorem dX5_holdsAt_1 : decode cX5_holdsAt 1 = .ok (.iload_n 0, 1) := by decide +kernel
theorem dX5_holdsAt_2 : decode cX5_holdsAt 2 = .ok (.putfield 38, 3) := by decide +kernel
theorem dX5_holdsAt_5 : decode cX5_holdsAt 5 = .ok (.aload_n 1, 1) := by decide +kernel
theorem dX5_holdsAt_6 : decode cX5_holdsAt 6 = .ok (.aload_n 2, 1) := by decide +kernel
theorem dX5_holdsAt_7 : decode cX5_holdsAt 7 = .ok (.invokevirtual 42, 3) := by decide +kernel
theorem dX5_holdsAt_10 : decode cX5_holdsAt 10 = .ok (.pop, 1) := by decide +kernel
theorem dX5_holdsAt_11 : decode cX5_holdsAt 11 = .ok (.aload_n 1, 1) := by decide +kernel
theorem dX5_holdsAt_12 : decode cX5_holdsAt 12 = .ok (.aload_n 2, 1) := by decide +kernel
theorem dX5_holdsAt_13 : decode cX5_holdsAt 13 = .ok (.getfield 46, 3) := by decide +kernel
theorem dX5_holdsAt_16 : decode cX5_holdsAt 16 = .ok (.invokevirtual 51, 3) := by decide +kernel
theorem dX5_holdsAt_19 : decode cX5_holdsAt 19 = .ok (.iconst (-1), 1) := by decide +kernel
theorem dX5_holdsAt_20 : decode cX5_holdsAt 20 = .ok (.if_icmp .eq 5, 3) := by decide +kernel
theorem dX5_holdsAt_23 : decode cX5_holdsAt 23 = .ok (.iconst 0, 1) := by decide +kernel
theorem dX5_holdsAt_24 : decode cX5_holdsAt 24 = .ok (.ireturn, 1) := by decide +kernel
theorem dX5_holdsAt_25 : decode cX5_holdsAt 25 = .ok (.aload_n 1, 1) := by decide +kernel
theorem dX5_holdsAt_26 : decode cX5_holdsAt 26 = .ok (.aload_n 1, 1) := by decide +kernel
theorem dX5_holdsAt_27 : decode cX5_holdsAt 27 = .ok (.getfield 55, 3) := by decide +kernel
theorem dX5_holdsAt_30 : decode cX5_holdsAt 30 = .ok (.invokevirtual 58, 3) := by decide +kernel
theorem dX5_holdsAt_33 : decode cX5_holdsAt 33 = .ok (.iconst 1, 1) := by decide +kernel
theorem dX5_holdsAt_34 : decode cX5_holdsAt 34 = .ok (.ireturn, 1) := by decide +kernel
theorem dX5_haltsBy_0 : decode cX5_haltsBy 0 = .ok (.aload_n 0, 1) := by decide +kernel
theorem dX5_haltsBy_1 : decode cX5_haltsBy 1 = .ok (.getfield 12, 3) := by decide +kernel
theorem dX5_haltsBy_4 : decode cX5_haltsBy 4 = .ok (.iconst 0, 1) := by decide +kernel
theorem dX5_haltsBy_5 : decode cX5_haltsBy 5 = .ok (.aaload, 1) := by decide +kernel
theorem dX5_haltsBy_6 : decode cX5_haltsBy 6 = .ok (.astore_n 3, 1) := by decide +kernel
theorem dX5_haltsBy_7 : decode cX5_haltsBy 7 = .ok (.aload_n 3, 1) := by decide +kernel
theorem dX5_haltsBy_8 : decode cX5_haltsBy 8 = .ok (.aload_n 2, 1) := by decide +kernel
theorem dX5_haltsBy_9 : decode cX5_haltsBy 9 = .ok (.invokevirtual 62, 3) := by decide +kernel
theorem dX5_haltsBy_12 : decode cX5_haltsBy 12 = .ok (.iconst 0, 1) := by decide +kernel
theorem dX5_haltsBy_13 : decode cX5_haltsBy 13 = .ok (.istore 4, 2) := by decide +kernel
theorem dX5_haltsBy_15 : decode cX5_haltsBy 15 = .ok (.iconst 1, 1) := by decide +kernel
theorem dX5_haltsBy_16 : decode cX5_haltsBy 16 = .ok (.istore 5, 2) := by decide +kernel
theorem dX5_haltsBy_18 : decode cX5_haltsBy 18 = .ok (.iload 5, 2) := by decide +kernel
theorem dX5_haltsBy_20 : decode cX5_haltsBy 20 = .ok (.aload_n 2, 1) := by decide +kernel
theorem dX5_haltsBy_21 : decode cX5_haltsBy 21 = .ok (.getfield 66, 3) := by decide +kernel
theorem dX5_haltsBy_24 : decode cX5_haltsBy 24 = .ok (.if_icmp .ge 53, 3) := by decide +kernel
theorem dX5_haltsBy_27 : decode cX5_haltsBy 27 = .ok (.iload 5, 2) := by decide +kernel
theorem dX5_haltsBy_29 : decode cX5_haltsBy 29 = .ok (.aload_n 3, 1) := by decide +kernel
theorem dX5_haltsBy_30 : decode cX5_haltsBy 30 = .ok (.aload_n 2, 1) := by decide +kernel
theorem dX5_haltsBy_31 : decode cX5_haltsBy 31 = .ok (.invokestatic 69, 3) := by decide +kernel
theorem dX5_haltsBy_34 : decode cX5_haltsBy 34 = .ok (.ifCond .eq 43, 3) := by decide +kernel
theorem dX5_haltsBy_37 : decode cX5_haltsBy 37 = .ok (.aload_n 3, 1) := by decide +kernel
theorem dX5_haltsBy_38 : decode cX5_haltsBy 38 = .ok (.aload_n 2, 1) := by decide +kernel
theorem dX5_haltsBy_39 : decode cX5_haltsBy 39 = .ok (.invokevirtual 73, 3) := by decide +kernel
theorem dX5_haltsBy_42 : decode cX5_haltsBy 42 = .ok (.istore 6, 2) := by decide +kernel
theorem dX5_haltsBy_44 : decode cX5_haltsBy 44 = .ok (.iload 6, 2) := by decide +kernel
theorem dX5_haltsBy_46 : decode cX5_haltsBy 46 = .ok (.iconst (-1), 1) := by decide +kernel
theorem dX5_haltsBy_47 : decode cX5_haltsBy 47 = .ok (.if_icmp .eq 24, 3) := by decide +kernel
theorem dX5_haltsBy_50 : decode cX5_haltsBy 50 = .ok (.iinc 4 1, 3) := by decide +kernel
theorem dX5_haltsBy_53 : decode cX5_haltsBy 53 = .ok (.aload_n 3, 1) := by decide +kernel
theorem dX5_haltsBy_54 : decode cX5_haltsBy 54 = .ok (.iload_n 1, 1) := by decide +kernel
theorem dX5_haltsBy_55 : decode cX5_haltsBy 55 = .ok (.aload_n 3, 1) := by decide +kernel
theorem dX5_haltsBy_56 : decode cX5_haltsBy 56 = .ok (.aload_n 2, 1) := by decide +kernel
theorem dX5_haltsBy_57 : decode cX5_haltsBy 57 = .ok (.iload 6, 2) := by decide +kernel
theorem dX5_haltsBy_59 : decode cX5_haltsBy 59 = .ok (.invokevirtual 76, 3) := by decide +kernel
theorem dX5_haltsBy_62 : decode cX5_haltsBy 62 = .ok (.invokestatic 79, 3) := by decide +kernel
theorem dX5_haltsBy_65 : decode cX5_haltsBy 65 = .ok (.iload 6, 2) := by decide +kernel
theorem dX5_haltsBy_67 : decode cX5_haltsBy 67 = .ok (.aload_n 2, 1) := by decide +kernel
theorem dX5_haltsBy_68 : decode cX5_haltsBy 68 = .ok (.invokevirtual 83, 3) := by decide +kernel
theorem dX5_haltsBy_71 : decode cX5_haltsBy 71 = .ok (.iinc 5 1, 3) := by decide +kernel
theorem dX5_haltsBy_74 : decode cX5_haltsBy 74 = .ok (.goto (-56), 3) := by decide +kernel
theorem dX5_haltsBy_77 : decode cX5_haltsBy 77 = .ok (.iload 4, 2) := by decide +kernel
theorem dX5_haltsBy_79 : decode cX5_haltsBy 79 = .ok (.ireturn, 1) := by decide +kernel
theorem dX5_placeBy_0 : decode cX5_placeBy 0 = .ok (.iload_n 0, 1) := by decide +kernel
theorem dX5_placeBy_1 : decode cX5_placeBy 1 = .ok (.iconst 1, 1) := by decide +kernel
theorem dX5_placeBy_2 : decode cX5_placeBy 2 = .ok (.if_icmp .ne 5, 3) := by decide +kernel
theorem dX5_placeBy_5 : decode cX5_placeBy 5 = .ok (.iconst 0, 1) := by decide +kernel
theorem dX5_placeBy_6 : decode cX5_placeBy 6 = .ok (.ireturn, 1) := by decide +kernel
theorem dX5_placeBy_7 : decode cX5_placeBy 7 = .ok (.iload_n 0, 1) := by decide +kernel
theorem dX5_placeBy_8 : decode cX5_placeBy 8 = .ok (.iconst 2, 1) := by decide +kernel
theorem dX5_placeBy_9 : decode cX5_placeBy 9 = .ok (.if_icmp .ne 7, 3) := by decide +kernel
theorem dX5_placeBy_12 : decode cX5_placeBy 12 = .ok (.iconst 0, 1) := by decide +kernel
theorem dX5_placeBy_13 : decode cX5_placeBy 13 = .ok (.goto 7, 3) := by decide +kernel
theorem dX5_placeBy_16 : decode cX5_placeBy 16 = .ok (.aload_n 1, 1) := by decide +kernel
theorem dX5_placeBy_17 : decode cX5_placeBy 17 = .ok (.getfield 55, 3) := by decide +kernel
theorem dX5_placeBy_20 : decode cX5_placeBy 20 = .ok (.istore_n 3, 1) := by decide +kernel
theorem dX5_placeBy_21 : decode cX5_placeBy 21 = .ok (.iload_n 3, 1) := by decide +kernel
theorem dX5_placeBy_22 : decode cX5_placeBy 22 = .ok (.aload_n 1, 1) := by decide +kernel
theorem dX5_placeBy_23 : decode cX5_placeBy 23 = .ok (.getfield 55, 3) := by decide +kernel
theorem dX5_placeBy_26 : decode cX5_placeBy 26 = .ok (.if_icmp .ge 19, 3) := by decide +kernel
theorem dX5_placeBy_29 : decode cX5_placeBy 29 = .ok (.aload_n 1, 1) := by decide +kernel
theorem dX5_placeBy_30 : decode cX5_placeBy 30 = .ok (.getfield 87, 3) := by decide +kernel
theorem dX5_placeBy_33 : decode cX5_placeBy 33 = .ok (.iload_n 3, 1) := by decide +kernel
theorem dX5_placeBy_34 : decode cX5_placeBy 34 = .ok (.iaload, 1) := by decide +kernel
theorem dX5_placeBy_35 : decode cX5_placeBy 35 = .ok (.iload_n 2, 1) := by decide +kernel
theorem dX5_placeBy_36 : decode cX5_placeBy 36 = .ok (.if_icmp .lt 9, 3) := by decide +kernel
theorem dX5_placeBy_39 : decode cX5_placeBy 39 = .ok (.iinc 3 1, 3) := by decide +kernel
theorem dX5_placeBy_42 : decode cX5_placeBy 42 = .ok (.goto (-21), 3) := by decide +kernel
theorem dX5_placeBy_45 : decode cX5_placeBy 45 = .ok (.iload_n 3, 1) := by decide +kernel
theorem dX5_placeBy_46 : decode cX5_placeBy 46 = .ok (.ireturn, 1) := by decide +kernel
theorem dX5_findPlaces_0 : decode cX5_findPlaces 0 = .ok (.aload_n 0, 1) := by decide +kernel
theorem dX5_findPlaces_1 : decode cX5_findPlaces 1 = .ok (.iconst 0, 1) := by decide +kernel
theorem dX5_findPlaces_2 : decode cX5_findPlaces 2 = .ok (.putfield 90, 3) := by decide +kernel
theorem dX5_findPlaces_5 : decode cX5_findPlaces 5 = .ok (.iconst 0, 1) := by decide +kernel
theorem dX5_findPlaces_6 : decode cX5_findPlaces 6 = .ok (.istore_n 2, 1) := by decide +kernel
theorem dX5_findPlaces_7 : decode cX5_findPlaces 7 = .ok (.iload_n 2, 1) := by decide +kernel
theorem dX5_findPlaces_8 : decode cX5_findPlaces 8 = .ok (.aload_n 1, 1) := by decide +kernel
theorem dX5_findPlaces_9 : decode cX5_findPlaces 9 = .ok (.getfield 93, 3) := by decide +kernel
theorem dX5_findPlaces_12 : decode cX5_findPlaces 12 = .ok (.if_icmp .ge 36, 3) := by decide +kernel
theorem dX5_findPlaces_15 : decode cX5_findPlaces 15 = .ok (.aload_n 1, 1) := by decide +kernel
theorem dX5_findPlaces_16 : decode cX5_findPlaces 16 = .ok (.iload_n 2, 1) := by decide +kernel
theorem dX5_findPlaces_17 : decode cX5_findPlaces 17 = .ok (.invokevirtual 96, 3) := by decide +kernel
theorem dX5_findPlaces_20 : decode cX5_findPlaces 20 = .ok (.ifCond .le 22, 3) := by decide +kernel
theorem dX5_findPlaces_23 : decode cX5_findPlaces 23 = .ok (.aload_n 1, 1) := by decide +kernel
theorem dX5_findPlaces_24 : decode cX5_findPlaces 24 = .ok (.iload_n 2, 1) := by decide +kernel
theorem dX5_findPlaces_25 : decode cX5_findPlaces 25 = .ok (.invokevirtual 99, 3) := by decide +kernel
theorem dX5_findPlaces_28 : decode cX5_findPlaces 28 = .ok (.iconst (-1), 1) := by decide +kernel
theorem dX5_findPlaces_29 : decode cX5_findPlaces 29 = .ok (.if_icmp .eq 13, 3) := by decide +kernel
theorem dX5_findPlaces_32 : decode cX5_findPlaces 32 = .ok (.aload_n 0, 1) := by decide +kernel
theorem dX5_findPlaces_33 : decode cX5_findPlaces 33 = .ok (.dup, 1) := by decide +kernel
theorem dX5_findPlaces_34 : decode cX5_findPlaces 34 = .ok (.getfield 90, 3) := by decide +kernel
theorem dX5_findPlaces_37 : decode cX5_findPlaces 37 = .ok (.iconst 1, 1) := by decide +kernel
theorem dX5_findPlaces_38 : decode cX5_findPlaces 38 = .ok (.iadd, 1) := by decide +kernel
theorem dX5_findPlaces_39 : decode cX5_findPlaces 39 = .ok (.putfield 90, 3) := by decide +kernel
theorem dX5_findPlaces_42 : decode cX5_findPlaces 42 = .ok (.iinc 2 1, 3) := by decide +kernel
theorem dX5_findPlaces_45 : decode cX5_findPlaces 45 = .ok (.goto (-38), 3) := by decide +kernel
theorem dX5_findPlaces_48 : decode cX5_findPlaces 48 = .ok (.iconst 0, 1) := by decide +kernel
theorem dX5_findPlaces_49 : decode cX5_findPlaces 49 = .ok (.istore_n 2, 1) := by decide +kernel
theorem dX5_findPlaces_50 : decode cX5_findPlaces 50 = .ok (.iload_n 2, 1) := by decide +kernel
theorem dX5_findPlaces_51 : decode cX5_findPlaces 51 = .ok (.aload_n 1, 1) := by decide +kernel
theorem dX5_findPlaces_52 : decode cX5_findPlaces 52 = .ok (.getfield 66, 3) := by decide +kernel
theorem dX5_findPlaces_55 : decode cX5_findPlaces 55 = .ok (.if_icmp .ge 29, 3) := by decide +kernel
theorem dX5_findPlaces_58 : decode cX5_findPlaces 58 = .ok (.aload_n 0, 1) := by decide +kernel
theorem dX5_findPlaces_59 : decode cX5_findPlaces 59 = .ok (.getfield 32, 3) := by decide +kernel
theorem dX5_findPlaces_62 : decode cX5_findPlaces 62 = .ok (.iload_n 2, 1) := by decide +kernel
theorem dX5_findPlaces_63 : decode cX5_findPlaces 63 = .ok (.iconst 1, 1) := by decide +kernel
theorem dX5_findPlaces_64 : decode cX5_findPlaces 64 = .ok (.iadd, 1) := by decide +kernel
theorem dX5_findPlaces_65 : decode cX5_findPlaces 65 = .ok (.aload_n 0, 1) := by decide +kernel
theorem dX5_findPlaces_66 : decode cX5_findPlaces 66 = .ok (.getfield 32, 3) := by decide +kernel
theorem dX5_findPlaces_69 : decode cX5_findPlaces 69 = .ok (.iload_n 2, 1) := by decide +kernel
theorem dX5_findPlaces_70 : decode cX5_findPlaces 70 = .ok (.iaload, 1) := by decide +kernel
theorem dX5_findPlaces_71 : decode cX5_findPlaces 71 = .ok (.aload_n 1, 1) := by decide +kernel
theorem dX5_findPlaces_72 : decode cX5_findPlaces 72 = .ok (.iload_n 2, 1) := by decide +kernel
theorem dX5_findPlaces_73 : decode cX5_findPlaces 73 = .ok (.invokevirtual 102, 3) := by decide +kernel
theorem dX5_findPlaces_76 : decode cX5_findPlaces 76 = .ok (.iadd, 1) := by decide +kernel
theorem dX5_findPlaces_77 : decode cX5_findPlaces 77 = .ok (.iastore, 1) := by decide +kernel
theorem dX5_findPlaces_78 : decode cX5_findPlaces 78 = .ok (.iinc 2 1, 3) := by decide +kernel
theorem dX5_findPlaces_81 : decode cX5_findPlaces 81 = .ok (.goto (-31), 3) := by decide +kernel
theorem dX5_findPlaces_84 : decode cX5_findPlaces 84 = .ok (.aload_n 0, 1) := by decide +kernel
theorem dX5_findPlaces_85 : decode cX5_findPlaces 85 = .ok (.iconst (-1), 1) := by decide +kernel
theorem dX5_findPlaces_86 : decode cX5_findPlaces 86 = .ok (.putfield 105, 3) := by decide +kernel
theorem dX5_findPlaces_89 : decode cX5_findPlaces 89 = .ok (.aload_n 0, 1) := by decide +kernel
theorem dX5_findPlaces_90 : decode cX5_findPlaces 90 = .ok (.iconst 0, 1) := by decide +kernel
theorem dX5_findPlaces_91 : decode cX5_findPlaces 91 = .ok (.putfield 108, 3) := by decide +kernel
theorem dX5_findPlaces_94 : decode cX5_findPlaces 94 = .ok (.aload_n 0, 1) := by decide +kernel
theorem dX5_findPlaces_95 : decode cX5_findPlaces 95 = .ok (.iconst (-1), 1) := by decide +kernel
theorem dX5_findPlaces_96 : decode cX5_findPlaces 96 = .ok (.putfield 111, 3) := by decide +kernel
theorem dX5_findPlaces_99 : decode cX5_findPlaces 99 = .ok (.aload_n 0, 1) := by decide +kernel
theorem dX5_findPlaces_100 : decode cX5_findPlaces 100 = .ok (.getfield 12, 3) := by decide +kernel
theorem dX5_findPlaces_103 : decode cX5_findPlaces 103 = .ok (.iconst 0, 1) := by decide +kernel
theorem dX5_findPlaces_104 : decode cX5_findPlaces 104 = .ok (.aaload, 1) := by decide +kernel
theorem dX5_findPlaces_105 : decode cX5_findPlaces 105 = .ok (.aload_n 1, 1) := by decide +kernel
theorem dX5_findPlaces_106 : decode cX5_findPlaces 106 = .ok (.invokevirtual 62, 3) := by decide +kernel
theorem dX5_findPlaces_109 : decode cX5_findPlaces 109 = .ok (.aload_n 0, 1) := by decide +kernel
theorem dX5_findPlaces_110 : decode cX5_findPlaces 110 = .ok (.aload_n 1, 1) := by decide +kernel
theorem dX5_findPlaces_111 : decode cX5_findPlaces 111 = .ok (.iconst 0, 1) := by decide +kernel
theorem dX5_findPlaces_112 : decode cX5_findPlaces 112 = .ok (.iconst 0, 1) := by decide +kernel
theorem dX5_findPlaces_113 : decode cX5_findPlaces 113 = .ok (.invokevirtual 114, 3) := by decide +kernel
theorem dX5_findPlaces_116 : decode cX5_findPlaces 116 = .ok (.aload_n 0, 1) := by decide +kernel
theorem dX5_findPlaces_117 : decode cX5_findPlaces 117 = .ok (.getfield 105, 3) := by decide +kernel
theorem dX5_findPlaces_120 : decode cX5_findPlaces 120 = .ok (.ireturn, 1) := by decide +kernel
theorem dX5_search_0 : decode cX5_search 0 = .ok (.aload_n 0, 1) := by decide +kernel
theorem dX5_search_1 : decode cX5_search 1 = .ok (.getfield 12, 3) := by decide +kernel
theorem dX5_search_4 : decode cX5_search 4 = .ok (.iload_n 2, 1) := by decide +kernel
theorem dX5_search_5 : decode cX5_search 5 = .ok (.aaload, 1) := by decide +kernel
theorem dX5_search_6 : decode cX5_search 6 = .ok (.astore 4, 2) := by decide +kernel
theorem dX5_search_8 : decode cX5_search 8 = .ok (.iload_n 3, 1) := by decide +kernel
theorem dX5_search_9 : decode cX5_search 9 = .ok (.istore 5, 2) := by decide +kernel
theorem dX5_search_11 : decode cX5_search 11 = .ok (.iload 5, 2) := by decide +kernel
theorem dX5_search_13 : decode cX5_search 13 = .ok (.aload_n 0, 1) := by decide +kernel
theorem dX5_search_14 : decode cX5_search 14 = .ok (.getfield 105, 3) := by decide +kernel
theorem dX5_search_17 : decode cX5_search 17 = .ok (.if_icmp .gt 17, 3) := by decide +kernel
theorem dX5_search_20 : decode cX5_search 20 = .ok (.aload_n 0, 1) := by decide +kernel
theorem dX5_search_21 : decode cX5_search 21 = .ok (.aload 4, 2) := by decide +kernel
theorem dX5_search_23 : decode cX5_search 23 = .ok (.aload_n 1, 1) := by decide +kernel
theorem dX5_search_24 : decode cX5_search 24 = .ok (.iload_n 2, 1) := by decide +kernel
theorem dX5_search_25 : decode cX5_search 25 = .ok (.iload 5, 2) := by decide +kernel
theorem dX5_search_27 : decode cX5_search 27 = .ok (.invokevirtual 118, 3) := by decide +kernel
theorem dX5_search_30 : decode cX5_search 30 = .ok (.ifCond .ne 4, 3) := by decide +kernel
theorem dX5_search_33 : decode cX5_search 33 = .ok (.return_, 1) := by decide +kernel
theorem dX5_search_34 : decode cX5_search 34 = .ok (.aload 4, 2) := by decide +kernel
theorem dX5_search_36 : decode cX5_search 36 = .ok (.getfield 38, 3) := by decide +kernel
theorem dX5_search_39 : decode cX5_search 39 = .ok (.iconst 1, 1) := by decide +kernel
theorem dX5_search_40 : decode cX5_search 40 = .ok (.iadd, 1) := by decide +kernel
theorem dX5_search_41 : decode cX5_search 41 = .ok (.istore 6, 2) := by decide +kernel
theorem dX5_search_43 : decode cX5_search 43 = .ok (.iload 6, 2) := by decide +kernel
theorem dX5_search_45 : decode cX5_search 45 = .ok (.aload_n 1, 1) := by decide +kernel
theorem dX5_search_46 : decode cX5_search 46 = .ok (.getfield 66, 3) := by decide +kernel
theorem dX5_search_49 : decode cX5_search 49 = .ok (.if_icmp .ge 75, 3) := by decide +kernel
theorem dX5_search_52 : decode cX5_search 52 = .ok (.iload 6, 2) := by decide +kernel
theorem dX5_search_54 : decode cX5_search 54 = .ok (.aload 4, 2) := by decide +kernel
theorem dX5_search_56 : decode cX5_search 56 = .ok (.aload_n 1, 1) := by decide +kernel
theorem dX5_search_57 : decode cX5_search 57 = .ok (.invokestatic 69, 3) := by decide +kernel
theorem dX5_search_60 : decode cX5_search 60 = .ok (.ifCond .ne 12, 3) := by decide +kernel
theorem dX5_search_63 : decode cX5_search 63 = .ok (.aload_n 0, 1) := by decide +kernel
theorem dX5_search_64 : decode cX5_search 64 = .ok (.iload 6, 2) := by decide +kernel
theorem dX5_search_66 : decode cX5_search 66 = .ok (.putfield 111, 3) := by decide +kernel
theorem dX5_search_69 : decode cX5_search 69 = .ok (.goto 55, 3) := by decide +kernel
theorem dX5_search_72 : decode cX5_search 72 = .ok (.aload 4, 2) := by decide +kernel
theorem dX5_search_74 : decode cX5_search 74 = .ok (.aload_n 1, 1) := by decide +kernel
theorem dX5_search_75 : decode cX5_search 75 = .ok (.invokevirtual 73, 3) := by decide +kernel
theorem dX5_search_78 : decode cX5_search 78 = .ok (.istore 7, 2) := by decide +kernel
theorem dX5_search_80 : decode cX5_search 80 = .ok (.iload 7, 2) := by decide +kernel
theorem dX5_search_82 : decode cX5_search 82 = .ok (.iconst (-1), 1) := by decide +kernel
theorem dX5_search_83 : decode cX5_search 83 = .ok (.if_icmp .eq 35, 3) := by decide +kernel
theorem dX5_search_86 : decode cX5_search 86 = .ok (.iinc 5 1, 3) := by decide +kernel
theorem dX5_search_89 : decode cX5_search 89 = .ok (.iload_n 2, 1) := by decide +kernel
theorem dX5_search_90 : decode cX5_search 90 = .ok (.iconst 4, 1) := by decide +kernel
theorem dX5_search_91 : decode cX5_search 91 = .ok (.if_icmp .ge 14, 3) := by decide +kernel
theorem dX5_search_94 : decode cX5_search 94 = .ok (.aload_n 0, 1) := by decide +kernel
theorem dX5_search_95 : decode cX5_search 95 = .ok (.aload_n 1, 1) := by decide +kernel
theorem dX5_search_96 : decode cX5_search 96 = .ok (.iload_n 2, 1) := by decide +kernel
theorem dX5_search_97 : decode cX5_search 97 = .ok (.iload 5, 2) := by decide +kernel
theorem dX5_search_99 : decode cX5_search 99 = .ok (.iload 7, 2) := by decide +kernel
theorem dX5_search_101 : decode cX5_search 101 = .ok (.invokevirtual 122, 3) := by decide +kernel
theorem dX5_search_104 : decode cX5_search 104 = .ok (.return_, 1) := by decide +kernel
theorem dX5_search_105 : decode cX5_search 105 = .ok (.aload 4, 2) := by decide +kernel
theorem dX5_search_107 : decode cX5_search 107 = .ok (.aload 4, 2) := by decide +kernel
theorem dX5_search_109 : decode cX5_search 109 = .ok (.getfield 55, 3) := by decide +kernel
theorem dX5_search_112 : decode cX5_search 112 = .ok (.iload 7, 2) := by decide +kernel
theorem dX5_search_114 : decode cX5_search 114 = .ok (.aload_n 1, 1) := by decide +kernel
theorem dX5_search_115 : decode cX5_search 115 = .ok (.invokevirtual 83, 3) := by decide +kernel
theorem dX5_search_118 : decode cX5_search 118 = .ok (.iinc 6 1, 3) := by decide +kernel
theorem dX5_search_121 : decode cX5_search 121 = .ok (.goto (-78), 3) := by decide +kernel
theorem dX5_search_124 : decode cX5_search 124 = .ok (.iload 5, 2) := by decide +kernel
theorem dX5_search_126 : decode cX5_search 126 = .ok (.aload_n 0, 1) := by decide +kernel
theorem dX5_search_127 : decode cX5_search 127 = .ok (.getfield 105, 3) := by decide +kernel
theorem dX5_search_130 : decode cX5_search 130 = .ok (.if_icmp .le 28, 3) := by decide +kernel
theorem dX5_search_133 : decode cX5_search 133 = .ok (.aload_n 0, 1) := by decide +kernel
theorem dX5_search_134 : decode cX5_search 134 = .ok (.iload 5, 2) := by decide +kernel
theorem dX5_search_136 : decode cX5_search 136 = .ok (.putfield 105, 3) := by decide +kernel
theorem dX5_search_139 : decode cX5_search 139 = .ok (.aload_n 0, 1) := by decide +kernel
theorem dX5_search_140 : decode cX5_search 140 = .ok (.iload_n 2, 1) := by decide +kernel
theorem dX5_search_141 : decode cX5_search 141 = .ok (.putfield 108, 3) := by decide +kernel
theorem dX5_search_144 : decode cX5_search 144 = .ok (.aload_n 0, 1) := by decide +kernel
theorem dX5_search_145 : decode cX5_search 145 = .ok (.getfield 18, 3) := by decide +kernel
theorem dX5_search_148 : decode cX5_search 148 = .ok (.iconst 0, 1) := by decide +kernel
theorem dX5_search_149 : decode cX5_search 149 = .ok (.aload_n 0, 1) := by decide +kernel
theorem dX5_search_150 : decode cX5_search 150 = .ok (.getfield 22, 3) := by decide +kernel
theorem dX5_search_153 : decode cX5_search 153 = .ok (.iconst 0, 1) := by decide +kernel
theorem dX5_search_154 : decode cX5_search 154 = .ok (.iload_n 2, 1) := by decide +kernel
theorem dX5_search_155 : decode cX5_search 155 = .ok (.invokestatic 126, 3) := by decide +kernel
theorem dX5_search_158 : decode cX5_search 158 = .ok (.return_, 1) := by decide +kernel
theorem dX5_mayBeBetter_0 : decode cX5_mayBeBetter 0 = .ok (.aload_n 0, 1) := by decide +kernel
theorem dX5_mayBeBetter_1 : decode cX5_mayBeBetter 1 = .ok (.getfield 25, 3) := by decide +kernel
theorem dX5_mayBeBetter_4 : decode cX5_mayBeBetter 4 = .ok (.aload_n 1, 1) := by decide +kernel
theorem dX5_mayBeBetter_5 : decode cX5_mayBeBetter 5 = .ok (.invokevirtual 132, 3) := by decide +kernel
theorem dX5_mayBeBetter_8 : decode cX5_mayBeBetter 8 = .ok (.iconst 0, 1) := by decide +kernel
theorem dX5_mayBeBetter_9 : decode cX5_mayBeBetter 9 = .ok (.istore 5, 2) := by decide +kernel
theorem dX5_mayBeBetter_11 : decode cX5_mayBeBetter 11 = .ok (.iload 5, 2) := by decide +kernel
theorem dX5_mayBeBetter_13 : decode cX5_mayBeBetter 13 = .ok (.aload_n 1, 1) := by decide +kernel
theorem dX5_mayBeBetter_14 : decode cX5_mayBeBetter 14 = .ok (.getfield 55, 3) := by decide +kernel
theorem dX5_mayBeBetter_17 : decode cX5_mayBeBetter 17 = .ok (.if_icmp .ge 20, 3) := by decide +kernel
theorem dX5_mayBeBetter_20 : decode cX5_mayBeBetter 20 = .ok (.aload_n 0, 1) := by decide +kernel
theorem dX5_mayBeBetter_21 : decode cX5_mayBeBetter 21 = .ok (.getfield 29, 3) := by decide +kernel
theorem dX5_mayBeBetter_24 : decode cX5_mayBeBetter 24 = .ok (.iload 5, 2) := by decide +kernel
theorem dX5_mayBeBetter_26 : decode cX5_mayBeBetter 26 = .ok (.aload_n 1, 1) := by decide +kernel
theorem dX5_mayBeBetter_27 : decode cX5_mayBeBetter 27 = .ok (.getfield 38, 3) := by decide +kernel
theorem dX5_mayBeBetter_30 : decode cX5_mayBeBetter 30 = .ok (.iastore, 1) := by decide +kernel
theorem dX5_mayBeBetter_31 : decode cX5_mayBeBetter 31 = .ok (.iinc 5 1, 3) := by decide +kernel
theorem dX5_mayBeBetter_34 : decode cX5_mayBeBetter 34 = .ok (.goto (-23), 3) := by decide +kernel
theorem dX5_mayBeBetter_37 : decode cX5_mayBeBetter 37 = .ok (.aload_n 0, 1) := by decide +kernel
theorem dX5_mayBeBetter_38 : decode cX5_mayBeBetter 38 = .ok (.getfield 105, 3) := by decide +kernel
theorem dX5_mayBeBetter_41 : decode cX5_mayBeBetter 41 = .ok (.iconst 1, 1) := by decide +kernel
theorem dX5_mayBeBetter_42 : decode cX5_mayBeBetter 42 = .ok (.iadd, 1) := by decide +kernel
theorem dX5_mayBeBetter_43 : decode cX5_mayBeBetter 43 = .ok (.iload 4, 2) := by decide +kernel
theorem dX5_mayBeBetter_45 : decode cX5_mayBeBetter 45 = .ok (.isub, 1) := by decide +kernel
theorem dX5_mayBeBetter_46 : decode cX5_mayBeBetter 46 = .ok (.istore 5, 2) := by decide +kernel
theorem dX5_mayBeBetter_48 : decode cX5_mayBeBetter 48 = .ok (.aload_n 1, 1) := by decide +kernel
theorem dX5_mayBeBetter_49 : decode cX5_mayBeBetter 49 = .ok (.getfield 136, 3) := by decide +kernel
theorem dX5_mayBeBetter_52 : decode cX5_mayBeBetter 52 = .ok (.istore 6, 2) := by decide +kernel
theorem dX5_mayBeBetter_54 : decode cX5_mayBeBetter 54 = .ok (.iload 6, 2) := by decide +kernel
theorem dX5_mayBeBetter_56 : decode cX5_mayBeBetter 56 = .ok (.aload_n 2, 1) := by decide +kernel
theorem dX5_mayBeBetter_57 : decode cX5_mayBeBetter 57 = .ok (.getfield 93, 3) := by decide +kernel
theorem dX5_mayBeBetter_60 : decode cX5_mayBeBetter 60 = .ok (.if_icmp .ge 120, 3) := by decide +kernel
theorem dX5_mayBeBetter_63 : decode cX5_mayBeBetter 63 = .ok (.aload_n 2, 1) := by decide +kernel
theorem dX5_mayBeBetter_64 : decode cX5_mayBeBetter 64 = .ok (.iload 6, 2) := by decide +kernel
theorem dX5_mayBeBetter_66 : decode cX5_mayBeBetter 66 = .ok (.invokevirtual 99, 3) := by decide +kernel
theorem dX5_mayBeBetter_69 : decode cX5_mayBeBetter 69 = .ok (.istore 7, 2) := by decide +kernel
theorem dX5_mayBeBetter_71 : decode cX5_mayBeBetter 71 = .ok (.iload 7, 2) := by decide +kernel
theorem dX5_mayBeBetter_73 : decode cX5_mayBeBetter 73 = .ok (.iconst (-1), 1) := by decide +kernel
theorem dX5_mayBeBetter_74 : decode cX5_mayBeBetter 74 = .ok (.if_icmp .ne 6, 3) := by decide +kernel
theorem dX5_mayBeBetter_77 : decode cX5_mayBeBetter 77 = .ok (.goto 97, 3) := by decide +kernel
theorem dX5_mayBeBetter_80 : decode cX5_mayBeBetter 80 = .ok (.iinc 5 (-1), 3) := by decide +kernel
theorem dX5_mayBeBetter_83 : decode cX5_mayBeBetter 83 = .ok (.iload 5, 2) := by decide +kernel
theorem dX5_mayBeBetter_85 : decode cX5_mayBeBetter 85 = .ok (.ifCond .le 20, 3) := by decide +kernel
theorem dX5_mayBeBetter_88 : decode cX5_mayBeBetter 88 = .ok (.iload_n 3, 1) := by decide +kernel
theorem dX5_mayBeBetter_89 : decode cX5_mayBeBetter 89 = .ok (.iconst 4, 1) := by decide +kernel
theorem dX5_mayBeBetter_90 : decode cX5_mayBeBetter 90 = .ok (.if_icmp .lt 15, 3) := by decide +kernel
theorem dX5_mayBeBetter_93 : decode cX5_mayBeBetter 93 = .ok (.aload_n 0, 1) := by decide +kernel
theorem dX5_mayBeBetter_94 : decode cX5_mayBeBetter 94 = .ok (.getfield 25, 3) := by decide +kernel
theorem dX5_mayBeBetter_97 : decode cX5_mayBeBetter 97 = .ok (.getfield 55, 3) := by decide +kernel
theorem dX5_mayBeBetter_100 : decode cX5_mayBeBetter 100 = .ok (.bipush 20, 2) := by decide +kernel
theorem dX5_mayBeBetter_102 : decode cX5_mayBeBetter 102 = .ok (.if_icmp .lt 37, 3) := by decide +kernel
theorem dX5_mayBeBetter_105 : decode cX5_mayBeBetter 105 = .ok (.aload_n 0, 1) := by decide +kernel
theorem dX5_mayBeBetter_106 : decode cX5_mayBeBetter 106 = .ok (.aload_n 2, 1) := by decide +kernel
theorem dX5_mayBeBetter_107 : decode cX5_mayBeBetter 107 = .ok (.iload 6, 2) := by decide +kernel
theorem dX5_mayBeBetter_109 : decode cX5_mayBeBetter 109 = .ok (.invokevirtual 96, 3) := by decide +kernel
theorem dX5_mayBeBetter_112 : decode cX5_mayBeBetter 112 = .ok (.aload_n 2, 1) := by decide +kernel
theorem dX5_mayBeBetter_113 : decode cX5_mayBeBetter 113 = .ok (.invokevirtual 139, 3) := by decide +kernel
theorem dX5_mayBeBetter_116 : decode cX5_mayBeBetter 116 = .ok (.ifCond .ne 21, 3) := by decide +kernel
theorem dX5_mayBeBetter_119 : decode cX5_mayBeBetter 119 = .ok (.aload_n 0, 1) := by decide +kernel
theorem dX5_mayBeBetter_120 : decode cX5_mayBeBetter 120 = .ok (.aload_n 2, 1) := by decide +kernel
theorem dX5_mayBeBetter_121 : decode cX5_mayBeBetter 121 = .ok (.iload 6, 2) := by decide +kernel
theorem dX5_mayBeBetter_123 : decode cX5_mayBeBetter 123 = .ok (.invokevirtual 96, 3) := by decide +kernel
theorem dX5_mayBeBetter_126 : decode cX5_mayBeBetter 126 = .ok (.aload_n 2, 1) := by decide +kernel
theorem dX5_mayBeBetter_127 : decode cX5_mayBeBetter 127 = .ok (.invokevirtual 143, 3) := by decide +kernel
theorem dX5_mayBeBetter_130 : decode cX5_mayBeBetter 130 = .ok (.ifCond .ne 7, 3) := by decide +kernel
theorem dX5_mayBeBetter_133 : decode cX5_mayBeBetter 133 = .ok (.iconst 1, 1) := by decide +kernel
theorem dX5_mayBeBetter_134 : decode cX5_mayBeBetter 134 = .ok (.goto 4, 3) := by decide +kernel
theorem dX5_mayBeBetter_137 : decode cX5_mayBeBetter 137 = .ok (.iconst 0, 1) := by decide +kernel
theorem dX5_mayBeBetter_138 : decode cX5_mayBeBetter 138 = .ok (.ireturn, 1) := by decide +kernel
theorem dX5_mayBeBetter_139 : decode cX5_mayBeBetter 139 = .ok (.aload_n 0, 1) := by decide +kernel
theorem dX5_mayBeBetter_140 : decode cX5_mayBeBetter 140 = .ok (.getfield 29, 3) := by decide +kernel
theorem dX5_mayBeBetter_143 : decode cX5_mayBeBetter 143 = .ok (.aload_n 0, 1) := by decide +kernel
theorem dX5_mayBeBetter_144 : decode cX5_mayBeBetter 144 = .ok (.getfield 25, 3) := by decide +kernel
theorem dX5_mayBeBetter_147 : decode cX5_mayBeBetter 147 = .ok (.getfield 55, 3) := by decide +kernel
theorem dX5_mayBeBetter_150 : decode cX5_mayBeBetter 150 = .ok (.aload_n 2, 1) := by decide +kernel
theorem dX5_mayBeBetter_151 : decode cX5_mayBeBetter 151 = .ok (.iload 6, 2) := by decide +kernel
theorem dX5_mayBeBetter_153 : decode cX5_mayBeBetter 153 = .ok (.invokevirtual 96, 3) := by decide +kernel
theorem dX5_mayBeBetter_156 : decode cX5_mayBeBetter 156 = .ok (.iastore, 1) := by decide +kernel
theorem dX5_mayBeBetter_157 : decode cX5_mayBeBetter 157 = .ok (.aload_n 0, 1) := by decide +kernel
theorem dX5_mayBeBetter_158 : decode cX5_mayBeBetter 158 = .ok (.getfield 25, 3) := by decide +kernel
theorem dX5_mayBeBetter_161 : decode cX5_mayBeBetter 161 = .ok (.aload_n 0, 1) := by decide +kernel
theorem dX5_mayBeBetter_162 : decode cX5_mayBeBetter 162 = .ok (.getfield 25, 3) := by decide +kernel
theorem dX5_mayBeBetter_165 : decode cX5_mayBeBetter 165 = .ok (.getfield 55, 3) := by decide +kernel
theorem dX5_mayBeBetter_168 : decode cX5_mayBeBetter 168 = .ok (.iload 7, 2) := by decide +kernel
theorem dX5_mayBeBetter_170 : decode cX5_mayBeBetter 170 = .ok (.aload_n 2, 1) := by decide +kernel
theorem dX5_mayBeBetter_171 : decode cX5_mayBeBetter 171 = .ok (.invokevirtual 83, 3) := by decide +kernel
theorem dX5_mayBeBetter_174 : decode cX5_mayBeBetter 174 = .ok (.iinc 6 1, 3) := by decide +kernel
theorem dX5_mayBeBetter_177 : decode cX5_mayBeBetter 177 = .ok (.goto (-123), 3) := by decide +kernel
theorem dX5_mayBeBetter_180 : decode cX5_mayBeBetter 180 = .ok (.iconst 0, 1) := by decide +kernel
theorem dX5_mayBeBetter_181 : decode cX5_mayBeBetter 181 = .ok (.ireturn, 1) := by decide +kernel
theorem dX5_isWornBy_0 : decode cX5_isWornBy 0 = .ok (.aload_n 0, 1) := by decide +kernel
theorem dX5_isWornBy_1 : decode cX5_isWornBy 1 = .ok (.getfield 25, 3) := by decide +kernel
theorem dX5_isWornBy_4 : decode cX5_isWornBy 4 = .ok (.getfield 146, 3) := by decide +kernel
theorem dX5_isWornBy_7 : decode cX5_isWornBy 7 = .ok (.istore_n 3, 1) := by decide +kernel
theorem dX5_isWornBy_8 : decode cX5_isWornBy 8 = .ok (.iconst 0, 1) := by decide +kernel
theorem dX5_isWornBy_9 : decode cX5_isWornBy 9 = .ok (.istore 4, 2) := by decide +kernel
theorem dX5_isWornBy_11 : decode cX5_isWornBy 11 = .ok (.aload_n 0, 1) := by decide +kernel
theorem dX5_isWornBy_12 : decode cX5_isWornBy 12 = .ok (.getfield 25, 3) := by decide +kernel
theorem dX5_isWornBy_15 : decode cX5_isWornBy 15 = .ok (.getfield 55, 3) := by decide +kernel
theorem dX5_isWornBy_18 : decode cX5_isWornBy 18 = .ok (.iconst 1, 1) := by decide +kernel
theorem dX5_isWornBy_19 : decode cX5_isWornBy 19 = .ok (.isub, 1) := by decide +kernel
theorem dX5_isWornBy_20 : decode cX5_isWornBy 20 = .ok (.istore 5, 2) := by decide +kernel
theorem dX5_isWornBy_22 : decode cX5_isWornBy 22 = .ok (.iload 5, 2) := by decide +kernel
theorem dX5_isWornBy_24 : decode cX5_isWornBy 24 = .ok (.ifCond .lt 119, 3) := by decide +kernel
theorem dX5_isWornBy_27 : decode cX5_isWornBy 27 = .ok (.iload_n 3, 1) := by decide +kernel
theorem dX5_isWornBy_28 : decode cX5_isWornBy 28 = .ok (.aload_n 0, 1) := by decide +kernel
theorem dX5_isWornBy_29 : decode cX5_isWornBy 29 = .ok (.getfield 25, 3) := by decide +kernel
theorem dX5_isWornBy_32 : decode cX5_isWornBy 32 = .ok (.getfield 149, 3) := by decide +kernel
theorem dX5_isWornBy_35 : decode cX5_isWornBy 35 = .ok (.iload 5, 2) := by decide +kernel
theorem dX5_isWornBy_37 : decode cX5_isWornBy 37 = .ok (.iaload, 1) := by decide +kernel
theorem dX5_isWornBy_38 : decode cX5_isWornBy 38 = .ok (.isub, 1) := by decide +kernel
theorem dX5_isWornBy_39 : decode cX5_isWornBy 39 = .ok (.istore_n 3, 1) := by decide +kernel
theorem dX5_isWornBy_40 : decode cX5_isWornBy 40 = .ok (.aload_n 0, 1) := by decide +kernel
theorem dX5_isWornBy_41 : decode cX5_isWornBy 41 = .ok (.iload_n 1, 1) := by decide +kernel
theorem dX5_isWornBy_42 : decode cX5_isWornBy 42 = .ok (.iconst 2, 1) := by decide +kernel
theorem dX5_isWornBy_43 : decode cX5_isWornBy 43 = .ok (.isub, 1) := by decide +kernel
theorem dX5_isWornBy_44 : decode cX5_isWornBy 44 = .ok (.iload_n 3, 1) := by decide +kernel
theorem dX5_isWornBy_45 : decode cX5_isWornBy 45 = .ok (.isub, 1) := by decide +kernel
theorem dX5_isWornBy_46 : decode cX5_isWornBy 46 = .ok (.aload_n 2, 1) := by decide +kernel
theorem dX5_isWornBy_47 : decode cX5_isWornBy 47 = .ok (.invokevirtual 152, 3) := by decide +kernel
theorem dX5_isWornBy_50 : decode cX5_isWornBy 50 = .ok (.aload_n 0, 1) := by decide +kernel
theorem dX5_isWornBy_51 : decode cX5_isWornBy 51 = .ok (.aload_n 0, 1) := by decide +kernel
theorem dX5_isWornBy_52 : decode cX5_isWornBy 52 = .ok (.getfield 29, 3) := by decide +kernel
theorem dX5_isWornBy_55 : decode cX5_isWornBy 55 = .ok (.iload 5, 2) := by decide +kernel
theorem dX5_isWornBy_57 : decode cX5_isWornBy 57 = .ok (.iaload, 1) := by decide +kernel
theorem dX5_isWornBy_58 : decode cX5_isWornBy 58 = .ok (.iconst 1, 1) := by decide +kernel
theorem dX5_isWornBy_59 : decode cX5_isWornBy 59 = .ok (.isub, 1) := by decide +kernel
theorem dX5_isWornBy_60 : decode cX5_isWornBy 60 = .ok (.iload_n 3, 1) := by decide +kernel
theorem dX5_isWornBy_61 : decode cX5_isWornBy 61 = .ok (.isub, 1) := by decide +kernel
theorem dX5_isWornBy_62 : decode cX5_isWornBy 62 = .ok (.aload_n 2, 1) := by decide +kernel
theorem dX5_isWornBy_63 : decode cX5_isWornBy 63 = .ok (.invokevirtual 152, 3) := by decide +kernel
theorem dX5_isWornBy_66 : decode cX5_isWornBy 66 = .ok (.isub, 1) := by decide +kernel
theorem dX5_isWornBy_67 : decode cX5_isWornBy 67 = .ok (.istore 6, 2) := by decide +kernel
theorem dX5_isWornBy_69 : decode cX5_isWornBy 69 = .ok (.iload 4, 2) := by decide +kernel
theorem dX5_isWornBy_71 : decode cX5_isWornBy 71 = .ok (.aload_n 0, 1) := by decide +kernel
theorem dX5_isWornBy_72 : decode cX5_isWornBy 72 = .ok (.getfield 25, 3) := by decide +kernel
theorem dX5_isWornBy_75 : decode cX5_isWornBy 75 = .ok (.getfield 156, 3) := by decide +kernel
theorem dX5_isWornBy_78 : decode cX5_isWornBy 78 = .ok (.iload 5, 2) := by decide +kernel
theorem dX5_isWornBy_80 : decode cX5_isWornBy 80 = .ok (.iaload, 1) := by decide +kernel
theorem dX5_isWornBy_81 : decode cX5_isWornBy 81 = .ok (.iload 6, 2) := by decide +kernel
theorem dX5_isWornBy_83 : decode cX5_isWornBy 83 = .ok (.iload_n 1, 1) := by decide +kernel
theorem dX5_isWornBy_84 : decode cX5_isWornBy 84 = .ok (.iconst 1, 1) := by decide +kernel
theorem dX5_isWornBy_85 : decode cX5_isWornBy 85 = .ok (.isub, 1) := by decide +kernel
theorem dX5_isWornBy_86 : decode cX5_isWornBy 86 = .ok (.aload_n 0, 1) := by decide +kernel
theorem dX5_isWornBy_87 : decode cX5_isWornBy 87 = .ok (.getfield 29, 3) := by decide +kernel
theorem dX5_isWornBy_90 : decode cX5_isWornBy 90 = .ok (.iload 5, 2) := by decide +kernel
theorem dX5_isWornBy_92 : decode cX5_isWornBy 92 = .ok (.iaload, 1) := by decide +kernel
theorem dX5_isWornBy_93 : decode cX5_isWornBy 93 = .ok (.isub, 1) := by decide +kernel
theorem dX5_isWornBy_94 : decode cX5_isWornBy 94 = .ok (.aload_n 2, 1) := by decide +kernel
theorem dX5_isWornBy_95 : decode cX5_isWornBy 95 = .ok (.getfield 159, 3) := by decide +kernel
theorem dX5_isWornBy_98 : decode cX5_isWornBy 98 = .ok (.imul, 1) := by decide +kernel
theorem dX5_isWornBy_99 : decode cX5_isWornBy 99 = .ok (.iadd, 1) := by decide +kernel
theorem dX5_isWornBy_100 : decode cX5_isWornBy 100 = .ok (.imul, 1) := by decide +kernel
theorem dX5_isWornBy_101 : decode cX5_isWornBy 101 = .ok (.iadd, 1) := by decide +kernel
theorem dX5_isWornBy_102 : decode cX5_isWornBy 102 = .ok (.istore 4, 2) := by decide +kernel
theorem dX5_isWornBy_104 : decode cX5_isWornBy 104 = .ok (.aload_n 0, 1) := by decide +kernel
theorem dX5_isWornBy_105 : decode cX5_isWornBy 105 = .ok (.getfield 25, 3) := by decide +kernel
theorem dX5_isWornBy_108 : decode cX5_isWornBy 108 = .ok (.getfield 162, 3) := by decide +kernel
theorem dX5_isWornBy_111 : decode cX5_isWornBy 111 = .ok (.iload 5, 2) := by decide +kernel
theorem dX5_isWornBy_113 : decode cX5_isWornBy 113 = .ok (.iaload, 1) := by decide +kernel
theorem dX5_isWornBy_114 : decode cX5_isWornBy 114 = .ok (.iload 4, 2) := by decide +kernel
theorem dX5_isWornBy_116 : decode cX5_isWornBy 116 = .ok (.iadd, 1) := by decide +kernel
theorem dX5_isWornBy_117 : decode cX5_isWornBy 117 = .ok (.aload_n 2, 1) := by decide +kernel
theorem dX5_isWornBy_118 : decode cX5_isWornBy 118 = .ok (.getfield 46, 3) := by decide +kernel
theorem dX5_isWornBy_121 : decode cX5_isWornBy 121 = .ok (.aload_n 0, 1) := by decide +kernel
theorem dX5_isWornBy_122 : decode cX5_isWornBy 122 = .ok (.getfield 25, 3) := by decide +kernel
theorem dX5_isWornBy_125 : decode cX5_isWornBy 125 = .ok (.getfield 87, 3) := by decide +kernel
theorem dX5_isWornBy_128 : decode cX5_isWornBy 128 = .ok (.iload 5, 2) := by decide +kernel
theorem dX5_isWornBy_130 : decode cX5_isWornBy 130 = .ok (.iaload, 1) := by decide +kernel
theorem dX5_isWornBy_131 : decode cX5_isWornBy 131 = .ok (.imul, 1) := by decide +kernel
theorem dX5_isWornBy_132 : decode cX5_isWornBy 132 = .ok (.if_icmp .le 5, 3) := by decide +kernel
theorem dX5_isWornBy_135 : decode cX5_isWornBy 135 = .ok (.iconst 1, 1) := by decide +kernel
theorem dX5_isWornBy_136 : decode cX5_isWornBy 136 = .ok (.ireturn, 1) := by decide +kernel
theorem dX5_isWornBy_137 : decode cX5_isWornBy 137 = .ok (.iinc 5 (-1), 3) := by decide +kernel
theorem dX5_isWornBy_140 : decode cX5_isWornBy 140 = .ok (.goto (-118), 3) := by decide +kernel
theorem dX5_isWornBy_143 : decode cX5_isWornBy 143 = .ok (.iconst 0, 1) := by decide +kernel
theorem dX5_isWornBy_144 : decode cX5_isWornBy 144 = .ok (.ireturn, 1) := by decide +kernel
theorem dX5_isOverborneBy_0 : decode cX5_isOverborneBy 0 = .ok (.aload_n 0, 1) := by decide +kernel
theorem dX5_isOverborneBy_1 : decode cX5_isOverborneBy 1 = .ok (.getfield 111, 3) := by decide +kernel
theorem dX5_isOverborneBy_4 : decode cX5_isOverborneBy 4 = .ok (.aload_n 0, 1) := by decide +kernel
theorem dX5_isOverborneBy_5 : decode cX5_isOverborneBy 5 = .ok (.getfield 25, 3) := by decide +kernel
theorem dX5_isOverborneBy_8 : decode cX5_isOverborneBy 8 = .ok (.getfield 38, 3) := by decide +kernel
theorem dX5_isOverborneBy_11 : decode cX5_isOverborneBy 11 = .ok (.if_icmp .le 11, 3) := by decide +kernel
theorem dX5_isOverborneBy_14 : decode cX5_isOverborneBy 14 = .ok (.aload_n 0, 1) := by decide +kernel
theorem dX5_isOverborneBy_15 : decode cX5_isOverborneBy 15 = .ok (.getfield 111, 3) := by decide +kernel
theorem dX5_isOverborneBy_18 : decode cX5_isOverborneBy 18 = .ok (.iload_n 1, 1) := by decide +kernel
theorem dX5_isOverborneBy_19 : decode cX5_isOverborneBy 19 = .ok (.if_icmp .le 5, 3) := by decide +kernel
theorem dX5_isOverborneBy_22 : decode cX5_isOverborneBy 22 = .ok (.iconst 0, 1) := by decide +kernel
theorem dX5_isOverborneBy_23 : decode cX5_isOverborneBy 23 = .ok (.ireturn, 1) := by decide +kernel
theorem dX5_isOverborneBy_24 : decode cX5_isOverborneBy 24 = .ok (.aload_n 0, 1) := by decide +kernel
theorem dX5_isOverborneBy_25 : decode cX5_isOverborneBy 25 = .ok (.getfield 25, 3) := by decide +kernel
theorem dX5_isOverborneBy_28 : decode cX5_isOverborneBy 28 = .ok (.getfield 55, 3) := by decide +kernel
theorem dX5_isOverborneBy_31 : decode cX5_isOverborneBy 31 = .ok (.istore_n 3, 1) := by decide +kernel
theorem dX5_isOverborneBy_32 : decode cX5_isOverborneBy 32 = .ok (.iload_n 3, 1) := by decide +kernel
theorem dX5_isOverborneBy_33 : decode cX5_isOverborneBy 33 = .ok (.ifCond .le 24, 3) := by decide +kernel
theorem dX5_isOverborneBy_36 : decode cX5_isOverborneBy 36 = .ok (.aload_n 0, 1) := by decide +kernel
theorem dX5_isOverborneBy_37 : decode cX5_isOverborneBy 37 = .ok (.getfield 29, 3) := by decide +kernel
theorem dX5_isOverborneBy_40 : decode cX5_isOverborneBy 40 = .ok (.iload_n 3, 1) := by decide +kernel
theorem dX5_isOverborneBy_41 : decode cX5_isOverborneBy 41 = .ok (.iconst 1, 1) := by decide +kernel
theorem dX5_isOverborneBy_42 : decode cX5_isOverborneBy 42 = .ok (.isub, 1) := by decide +kernel
theorem dX5_isOverborneBy_43 : decode cX5_isOverborneBy 43 = .ok (.iaload, 1) := by decide +kernel
theorem dX5_isOverborneBy_44 : decode cX5_isOverborneBy 44 = .ok (.aload_n 0, 1) := by decide +kernel
theorem dX5_isOverborneBy_45 : decode cX5_isOverborneBy 45 = .ok (.getfield 111, 3) := by decide +kernel
theorem dX5_isOverborneBy_48 : decode cX5_isOverborneBy 48 = .ok (.if_icmp .lt 9, 3) := by decide +kernel
theorem dX5_isOverborneBy_51 : decode cX5_isOverborneBy 51 = .ok (.iinc 3 (-1), 3) := by decide +kernel
theorem dX5_isOverborneBy_54 : decode cX5_isOverborneBy 54 = .ok (.goto (-22), 3) := by decide +kernel
theorem dX5_isOverborneBy_57 : decode cX5_isOverborneBy 57 = .ok (.aload_n 0, 1) := by decide +kernel
theorem dX5_isOverborneBy_58 : decode cX5_isOverborneBy 58 = .ok (.getfield 25, 3) := by decide +kernel
theorem dX5_isOverborneBy_61 : decode cX5_isOverborneBy 61 = .ok (.iload_n 3, 1) := by decide +kernel
theorem dX5_isOverborneBy_62 : decode cX5_isOverborneBy 62 = .ok (.invokevirtual 165, 3) := by decide +kernel
theorem dX5_isOverborneBy_65 : decode cX5_isOverborneBy 65 = .ok (.aload_n 0, 1) := by decide +kernel
theorem dX5_isOverborneBy_66 : decode cX5_isOverborneBy 66 = .ok (.getfield 25, 3) := by decide +kernel
theorem dX5_isOverborneBy_69 : decode cX5_isOverborneBy 69 = .ok (.aload_n 0, 1) := by decide +kernel
theorem dX5_isOverborneBy_70 : decode cX5_isOverborneBy 70 = .ok (.getfield 111, 3) := by decide +kernel
theorem dX5_isOverborneBy_73 : decode cX5_isOverborneBy 73 = .ok (.putfield 38, 3) := by decide +kernel
theorem dX5_isOverborneBy_76 : decode cX5_isOverborneBy 76 = .ok (.aload_n 0, 1) := by decide +kernel
theorem dX5_isOverborneBy_77 : decode cX5_isOverborneBy 77 = .ok (.getfield 25, 3) := by decide +kernel
theorem dX5_isOverborneBy_80 : decode cX5_isOverborneBy 80 = .ok (.aload_n 2, 1) := by decide +kernel
theorem dX5_isOverborneBy_81 : decode cX5_isOverborneBy 81 = .ok (.invokevirtual 42, 3) := by decide +kernel
theorem dX5_isOverborneBy_84 : decode cX5_isOverborneBy 84 = .ok (.pop, 1) := by decide +kernel
theorem dX5_isOverborneBy_85 : decode cX5_isOverborneBy 85 = .ok (.aload_n 0, 1) := by decide +kernel
theorem dX5_isOverborneBy_86 : decode cX5_isOverborneBy 86 = .ok (.getfield 25, 3) := by decide +kernel
theorem dX5_isOverborneBy_89 : decode cX5_isOverborneBy 89 = .ok (.invokevirtual 168, 3) := by decide +kernel
theorem dX5_isOverborneBy_92 : decode cX5_isOverborneBy 92 = .ok (.ireturn, 1) := by decide +kernel
theorem dX5_gradesTo_0 : decode cX5_gradesTo 0 = .ok (.iload_n 1, 1) := by decide +kernel
theorem dX5_gradesTo_1 : decode cX5_gradesTo 1 = .ok (.ifCond .ge 7, 3) := by decide +kernel
theorem dX5_gradesTo_4 : decode cX5_gradesTo 4 = .ok (.iconst 0, 1) := by decide +kernel
theorem dX5_gradesTo_5 : decode cX5_gradesTo 5 = .ok (.goto 18, 3) := by decide +kernel
theorem dX5_gradesTo_8 : decode cX5_gradesTo 8 = .ok (.aload_n 0, 1) := by decide +kernel
theorem dX5_gradesTo_9 : decode cX5_gradesTo 9 = .ok (.getfield 32, 3) := by decide +kernel
theorem dX5_gradesTo_12 : decode cX5_gradesTo 12 = .ok (.iload_n 1, 1) := by decide +kernel
theorem dX5_gradesTo_13 : decode cX5_gradesTo 13 = .ok (.iconst 1, 1) := by decide +kernel
theorem dX5_gradesTo_14 : decode cX5_gradesTo 14 = .ok (.iadd, 1) := by decide +kernel
theorem dX5_gradesTo_15 : decode cX5_gradesTo 15 = .ok (.aload_n 2, 1) := by decide +kernel
theorem dX5_gradesTo_16 : decode cX5_gradesTo 16 = .ok (.getfield 66, 3) := by decide +kernel
theorem dX5_gradesTo_19 : decode cX5_gradesTo 19 = .ok (.invokestatic 172, 3) := by decide +kernel
theorem dX5_gradesTo_22 : decode cX5_gradesTo 22 = .ok (.iaload, 1) := by decide +kernel
theorem dX5_gradesTo_23 : decode cX5_gradesTo 23 = .ok (.ireturn, 1) := by decide +kernel
theorem dX5_branch_0 : decode cX5_branch 0 = .ok (.iload_n 2, 1) := by decide +kernel
theorem dX5_branch_1 : decode cX5_branch 1 = .ok (.ifCond .lt 8, 3) := by decide +kernel
theorem dX5_branch_4 : decode cX5_branch 4 = .ok (.iload_n 2, 1) := by decide +kernel
theorem dX5_branch_5 : decode cX5_branch 5 = .ok (.iconst 4, 1) := by decide +kernel
theorem dX5_branch_6 : decode cX5_branch 6 = .ok (.if_icmp .lt 4, 3) := by decide +kernel
theorem dX5_branch_9 : decode cX5_branch 9 = .ok (.return_, 1) := by decide +kernel
theorem dX5_branch_10 : decode cX5_branch 10 = .ok (.iconst 0, 1) := by decide +kernel
theorem dX5_branch_11 : decode cX5_branch 11 = .ok (.istore 5, 2) := by decide +kernel
theorem dX5_branch_13 : decode cX5_branch 13 = .ok (.iload 5, 2) := by decide +kernel
theorem dX5_branch_15 : decode cX5_branch 15 = .ok (.aload_n 0, 1) := by decide +kernel
theorem dX5_branch_16 : decode cX5_branch 16 = .ok (.getfield 12, 3) := by decide +kernel
theorem dX5_branch_19 : decode cX5_branch 19 = .ok (.iload_n 2, 1) := by decide +kernel
theorem dX5_branch_20 : decode cX5_branch 20 = .ok (.aaload, 1) := by decide +kernel
theorem dX5_branch_21 : decode cX5_branch 21 = .ok (.getfield 55, 3) := by decide +kernel
theorem dX5_branch_24 : decode cX5_branch 24 = .ok (.if_icmp .gt 70, 3) := by decide +kernel
theorem dX5_branch_27 : decode cX5_branch 27 = .ok (.aload_n 0, 1) := by decide +kernel
theorem dX5_branch_28 : decode cX5_branch 28 = .ok (.getfield 105, 3) := by decide +kernel
theorem dX5_branch_31 : decode cX5_branch 31 = .ok (.aload_n 0, 1) := by decide +kernel
theorem dX5_branch_32 : decode cX5_branch 32 = .ok (.getfield 90, 3) := by decide +kernel
theorem dX5_branch_35 : decode cX5_branch 35 = .ok (.if_icmp .ge 59, 3) := by decide +kernel
theorem dX5_branch_38 : decode cX5_branch 38 = .ok (.aload_n 0, 1) := by decide +kernel
theorem dX5_branch_39 : decode cX5_branch 39 = .ok (.getfield 18, 3) := by decide +kernel
theorem dX5_branch_42 : decode cX5_branch 42 = .ok (.iload_n 2, 1) := by decide +kernel
theorem dX5_branch_43 : decode cX5_branch 43 = .ok (.iload 5, 2) := by decide +kernel
theorem dX5_branch_45 : decode cX5_branch 45 = .ok (.iastore, 1) := by decide +kernel
theorem dX5_branch_46 : decode cX5_branch 46 = .ok (.aload_n 0, 1) := by decide +kernel
theorem dX5_branch_47 : decode cX5_branch 47 = .ok (.getfield 12, 3) := by decide +kernel
theorem dX5_branch_50 : decode cX5_branch 50 = .ok (.iload_n 2, 1) := by decide +kernel
theorem dX5_branch_51 : decode cX5_branch 51 = .ok (.iconst 1, 1) := by decide +kernel
theorem dX5_branch_52 : decode cX5_branch 52 = .ok (.iadd, 1) := by decide +kernel
theorem dX5_branch_53 : decode cX5_branch 53 = .ok (.aaload, 1) := by decide +kernel
theorem dX5_branch_54 : decode cX5_branch 54 = .ok (.aload_n 0, 1) := by decide +kernel
theorem dX5_branch_55 : decode cX5_branch 55 = .ok (.getfield 12, 3) := by decide +kernel
theorem dX5_branch_58 : decode cX5_branch 58 = .ok (.iload_n 2, 1) := by decide +kernel
theorem dX5_branch_59 : decode cX5_branch 59 = .ok (.aaload, 1) := by decide +kernel
theorem dX5_branch_60 : decode cX5_branch 60 = .ok (.invokevirtual 132, 3) := by decide +kernel
theorem dX5_branch_63 : decode cX5_branch 63 = .ok (.aload_n 0, 1) := by decide +kernel
theorem dX5_branch_64 : decode cX5_branch 64 = .ok (.getfield 12, 3) := by decide +kernel
theorem dX5_branch_67 : decode cX5_branch 67 = .ok (.iload_n 2, 1) := by decide +kernel
theorem dX5_branch_68 : decode cX5_branch 68 = .ok (.iconst 1, 1) := by decide +kernel
theorem dX5_branch_69 : decode cX5_branch 69 = .ok (.iadd, 1) := by decide +kernel
theorem dX5_branch_70 : decode cX5_branch 70 = .ok (.aaload, 1) := by decide +kernel
theorem dX5_branch_71 : decode cX5_branch 71 = .ok (.iload 5, 2) := by decide +kernel
theorem dX5_branch_73 : decode cX5_branch 73 = .ok (.iload 4, 2) := by decide +kernel
theorem dX5_branch_75 : decode cX5_branch 75 = .ok (.aload_n 1, 1) := by decide +kernel
theorem dX5_branch_76 : decode cX5_branch 76 = .ok (.invokevirtual 83, 3) := by decide +kernel
theorem dX5_branch_79 : decode cX5_branch 79 = .ok (.aload_n 0, 1) := by decide +kernel
theorem dX5_branch_80 : decode cX5_branch 80 = .ok (.aload_n 1, 1) := by decide +kernel
theorem dX5_branch_81 : decode cX5_branch 81 = .ok (.iload_n 2, 1) := by decide +kernel
theorem dX5_branch_82 : decode cX5_branch 82 = .ok (.iconst 1, 1) := by decide +kernel
theorem dX5_branch_83 : decode cX5_branch 83 = .ok (.iadd, 1) := by decide +kernel
theorem dX5_branch_84 : decode cX5_branch 84 = .ok (.iload_n 3, 1) := by decide +kernel
theorem dX5_branch_85 : decode cX5_branch 85 = .ok (.invokevirtual 114, 3) := by decide +kernel
theorem dX5_branch_88 : decode cX5_branch 88 = .ok (.iinc 5 1, 3) := by decide +kernel
theorem dX5_branch_91 : decode cX5_branch 91 = .ok (.goto (-78), 3) := by decide +kernel
theorem dX5_branch_94 : decode cX5_branch 94 = .ok (.return_, 1) := by decide +kernel
theorem dX5_draw_0 : decode cX5_draw 0 = .ok (.aload_n 0, 1) := by decide +kernel
theorem dX5_draw_1 : decode cX5_draw 1 = .ok (.aload_n 0, 1) := by decide +kernel
theorem dX5_draw_2 : decode cX5_draw 2 = .ok (.getfield 178, 3) := by decide +kernel
theorem dX5_draw_5 : decode cX5_draw 5 = .ok (.ldc 181, 2) := by decide +kernel
theorem dX5_draw_7 : decode cX5_draw 7 = .ok (.imul, 1) := by decide +kernel
theorem dX5_draw_8 : decode cX5_draw 8 = .ok (.sipush 12345, 3) := by decide +kernel
theorem dX5_draw_11 : decode cX5_draw 11 = .ok (.iadd, 1) := by decide +kernel
theorem dX5_draw_12 : decode cX5_draw 12 = .ok (.putfield 178, 3) := by decide +kernel
theorem dX5_draw_15 : decode cX5_draw 15 = .ok (.iload_n 1, 1) := by decide +kernel
theorem dX5_draw_16 : decode cX5_draw 16 = .ok (.ifCond .gt 7, 3) := by decide +kernel
theorem dX5_draw_19 : decode cX5_draw 19 = .ok (.iconst 0, 1) := by decide +kernel
theorem dX5_draw_20 : decode cX5_draw 20 = .ok (.goto 12, 3) := by decide +kernel
theorem dX5_draw_23 : decode cX5_draw 23 = .ok (.aload_n 0, 1) := by decide +kernel
theorem dX5_draw_24 : decode cX5_draw 24 = .ok (.getfield 178, 3) := by decide +kernel
theorem dX5_draw_27 : decode cX5_draw 27 = .ok (.bipush 8, 2) := by decide +kernel
theorem dX5_draw_29 : decode cX5_draw 29 = .ok (.iushr, 1) := by decide +kernel
theorem dX5_draw_30 : decode cX5_draw 30 = .ok (.iload_n 1, 1) := by decide +kernel
theorem dX5_draw_31 : decode cX5_draw 31 = .ok (.irem, 1) := by decide +kernel
theorem dX5_draw_32 : decode cX5_draw 32 = .ok (.ireturn, 1) := by decide +kernel
theorem dX5_drawnStrength_0 : decode cX5_drawnStrength 0 = .ok (.iload_n 1, 1) := by decide +kernel
theorem dX5_drawnStrength_1 : decode cX5_drawnStrength 1 = .ok (.aload_n 0, 1) := by decide +kernel
theorem dX5_drawnStrength_2 : decode cX5_drawnStrength 2 = .ok (.iload_n 1, 1) := by decide +kernel
theorem dX5_drawnStrength_3 : decode cX5_drawnStrength 3 = .ok (.iconst 4, 1) := by decide +kernel
theorem dX5_drawnStrength_4 : decode cX5_drawnStrength 4 = .ok (.idiv, 1) := by decide +kernel
theorem dX5_drawnStrength_5 : decode cX5_drawnStrength 5 = .ok (.iconst 1, 1) := by decide +kernel
theorem dX5_drawnStrength_6 : decode cX5_drawnStrength 6 = .ok (.iadd, 1) := by decide +kernel
theorem dX5_drawnStrength_7 : decode cX5_drawnStrength 7 = .ok (.invokevirtual 182, 3) := by decide +kernel
theorem dX5_drawnStrength_10 : decode cX5_drawnStrength 10 = .ok (.isub, 1) := by decide +kernel
theorem dX5_drawnStrength_11 : decode cX5_drawnStrength 11 = .ok (.ireturn, 1) := by decide +kernel
theorem dX5_betHead_0 : decode cX5_betHead 0 = .ok (.aload_n 0, 1) := by decide +kernel
theorem dX5_betHead_1 : decode cX5_betHead 1 = .ok (.getfield 12, 3) := by decide +kernel
theorem dX5_betHead_4 : decode cX5_betHead 4 = .ok (.iconst 0, 1) := by decide +kernel
theorem dX5_betHead_5 : decode cX5_betHead 5 = .ok (.aaload, 1) := by decide +kernel
theorem dX5_betHead_6 : decode cX5_betHead 6 = .ok (.astore_n 3, 1) := by decide +kernel
theorem dX5_betHead_7 : decode cX5_betHead 7 = .ok (.aload_n 3, 1) := by decide +kernel
theorem dX5_betHead_8 : decode cX5_betHead 8 = .ok (.aload_n 1, 1) := by decide +kernel
theorem dX5_betHead_9 : decode cX5_betHead 9 = .ok (.invokevirtual 62, 3) := by decide +kernel
theorem dX5_betHead_12 : decode cX5_betHead 12 = .ok (.aload_n 0, 1) := by decide +kernel
theorem dX5_betHead_13 : decode cX5_betHead 13 = .ok (.iload_n 2, 1) := by decide +kernel
theorem dX5_betHead_14 : decode cX5_betHead 14 = .ok (.putfield 178, 3) := by decide +kernel
theorem dX5_betHead_17 : decode cX5_betHead 17 = .ok (.iconst 0, 1) := by decide +kernel
theorem dX5_betHead_18 : decode cX5_betHead 18 = .ok (.istore 4, 2) := by decide +kernel
theorem dX5_betHead_20 : decode cX5_betHead 20 = .ok (.iload 4, 2) := by decide +kernel
theorem dX5_betHead_22 : decode cX5_betHead 22 = .ok (.aload_n 3, 1) := by decide +kernel
theorem dX5_betHead_23 : decode cX5_betHead 23 = .ok (.getfield 55, 3) := by decide +kernel
theorem dX5_betHead_26 : decode cX5_betHead 26 = .ok (.if_icmp .ge 27, 3) := by decide +kernel
theorem dX5_betHead_29 : decode cX5_betHead 29 = .ok (.aload_n 3, 1) := by decide +kernel
theorem dX5_betHead_30 : decode cX5_betHead 30 = .ok (.getfield 87, 3) := by decide +kernel
theorem dX5_betHead_33 : decode cX5_betHead 33 = .ok (.iload 4, 2) := by decide +kernel
theorem dX5_betHead_35 : decode cX5_betHead 35 = .ok (.aload_n 0, 1) := by decide +kernel
theorem dX5_betHead_36 : decode cX5_betHead 36 = .ok (.aload_n 3, 1) := by decide +kernel
theorem dX5_betHead_37 : decode cX5_betHead 37 = .ok (.getfield 87, 3) := by decide +kernel
theorem dX5_betHead_40 : decode cX5_betHead 40 = .ok (.iload 4, 2) := by decide +kernel
theorem dX5_betHead_42 : decode cX5_betHead 42 = .ok (.iaload, 1) := by decide +kernel
theorem dX5_betHead_43 : decode cX5_betHead 43 = .ok (.invokevirtual 185, 3) := by decide +kernel
theorem dX5_betHead_46 : decode cX5_betHead 46 = .ok (.iastore, 1) := by decide +kernel
theorem dX5_betHead_47 : decode cX5_betHead 47 = .ok (.iinc 4 1, 3) := by decide +kernel
theorem dX5_betHead_50 : decode cX5_betHead 50 = .ok (.goto (-30), 3) := by decide +kernel
theorem dX5_betHead_53 : decode cX5_betHead 53 = .ok (.iconst 1, 1) := by decide +kernel
theorem dX5_betHead_54 : decode cX5_betHead 54 = .ok (.istore 4, 2) := by decide +kernel
theorem dX5_betHead_56 : decode cX5_betHead 56 = .ok (.iload 4, 2) := by decide +kernel
theorem dX5_betHead_58 : decode cX5_betHead 58 = .ok (.aload_n 1, 1) := by decide +kernel
theorem dX5_betHead_59 : decode cX5_betHead 59 = .ok (.getfield 66, 3) := by decide +kernel
theorem dX5_betHead_62 : decode cX5_betHead 62 = .ok (.if_icmp .ge 60, 3) := by decide +kernel
theorem dX5_betHead_65 : decode cX5_betHead 65 = .ok (.iload 4, 2) := by decide +kernel
theorem dX5_betHead_67 : decode cX5_betHead 67 = .ok (.aload_n 3, 1) := by decide +kernel
theorem dX5_betHead_68 : decode cX5_betHead 68 = .ok (.aload_n 1, 1) := by decide +kernel
theorem dX5_betHead_69 : decode cX5_betHead 69 = .ok (.invokestatic 69, 3) := by decide +kernel
theorem dX5_betHead_72 : decode cX5_betHead 72 = .ok (.ifCond .ne 6, 3) := by decide +kernel
theorem dX5_betHead_75 : decode cX5_betHead 75 = .ok (.iload 4, 2) := by decide +kernel
theorem dX5_betHead_77 : decode cX5_betHead 77 = .ok (.ireturn, 1) := by decide +kernel
theorem dX5_betHead_78 : decode cX5_betHead 78 = .ok (.aload_n 3, 1) := by decide +kernel
theorem dX5_betHead_79 : decode cX5_betHead 79 = .ok (.getfield 55, 3) := by decide +kernel
theorem dX5_betHead_82 : decode cX5_betHead 82 = .ok (.istore 5, 2) := by decide +kernel
theorem dX5_betHead_84 : decode cX5_betHead 84 = .ok (.aload_n 3, 1) := by decide +kernel
theorem dX5_betHead_85 : decode cX5_betHead 85 = .ok (.aload_n 1, 1) := by decide +kernel
theorem dX5_betHead_86 : decode cX5_betHead 86 = .ok (.invokevirtual 188, 3) := by decide +kernel
theorem dX5_betHead_89 : decode cX5_betHead 89 = .ok (.aload_n 3, 1) := by decide +kernel
theorem dX5_betHead_90 : decode cX5_betHead 90 = .ok (.getfield 55, 3) := by decide +kernel
theorem dX5_betHead_93 : decode cX5_betHead 93 = .ok (.iload 5, 2) := by decide +kernel
theorem dX5_betHead_95 : decode cX5_betHead 95 = .ok (.if_icmp .le 21, 3) := by decide +kernel
theorem dX5_betHead_98 : decode cX5_betHead 98 = .ok (.aload_n 3, 1) := by decide +kernel
theorem dX5_betHead_99 : decode cX5_betHead 99 = .ok (.getfield 87, 3) := by decide +kernel
theorem dX5_betHead_102 : decode cX5_betHead 102 = .ok (.iload 5, 2) := by decide +kernel
theorem dX5_betHead_104 : decode cX5_betHead 104 = .ok (.aload_n 0, 1) := by decide +kernel
theorem dX5_betHead_105 : decode cX5_betHead 105 = .ok (.aload_n 3, 1) := by decide +kernel
theorem dX5_betHead_106 : decode cX5_betHead 106 = .ok (.getfield 87, 3) := by decide +kernel
theorem dX5_betHead_109 : decode cX5_betHead 109 = .ok (.iload 5, 2) := by decide +kernel
theorem dX5_betHead_111 : decode cX5_betHead 111 = .ok (.iaload, 1) := by decide +kernel
theorem dX5_betHead_112 : decode cX5_betHead 112 = .ok (.invokevirtual 185, 3) := by decide +kernel
theorem dX5_betHead_115 : decode cX5_betHead 115 = .ok (.iastore, 1) := by decide +kernel
theorem dX5_betHead_116 : decode cX5_betHead 116 = .ok (.iinc 4 1, 3) := by decide +kernel
theorem dX5_betHead_119 : decode cX5_betHead 119 = .ok (.goto (-63), 3) := by decide +kernel
theorem dX5_betHead_122 : decode cX5_betHead 122 = .ok (.iconst (-1), 1) := by decide +kernel
theorem dX5_betHead_123 : decode cX5_betHead 123 = .ok (.ireturn, 1) := by decide +kernel
theorem dX5_betsPartedBy_0 : decode cX5_betsPartedBy 0 = .ok (.aload_n 0, 1) := by decide +kernel
theorem dX5_betsPartedBy_1 : decode cX5_betsPartedBy 1 = .ok (.aload_n 1, 1) := by decide +kernel
theorem dX5_betsPartedBy_2 : decode cX5_betsPartedBy 2 = .ok (.iload 4, 2) := by decide +kernel
theorem dX5_betsPartedBy_4 : decode cX5_betsPartedBy 4 = .ok (.invokevirtual 191, 3) := by decide +kernel
theorem dX5_betsPartedBy_7 : decode cX5_betsPartedBy 7 = .ok (.iconst 0, 1) := by decide +kernel
theorem dX5_betsPartedBy_8 : decode cX5_betsPartedBy 8 = .ok (.istore 5, 2) := by decide +kernel
theorem dX5_betsPartedBy_10 : decode cX5_betsPartedBy 10 = .ok (.iconst 0, 1) := by decide +kernel
theorem dX5_betsPartedBy_11 : decode cX5_betsPartedBy 11 = .ok (.istore 6, 2) := by decide +kernel
theorem dX5_betsPartedBy_13 : decode cX5_betsPartedBy 13 = .ok (.iload 6, 2) := by decide +kernel
theorem dX5_betsPartedBy_15 : decode cX5_betsPartedBy 15 = .ok (.iload_n 2, 1) := by decide +kernel
theorem dX5_betsPartedBy_16 : decode cX5_betsPartedBy 16 = .ok (.if_icmp .ge 33, 3) := by decide +kernel
theorem dX5_betsPartedBy_19 : decode cX5_betsPartedBy 19 = .ok (.aload_n 0, 1) := by decide +kernel
theorem dX5_betsPartedBy_20 : decode cX5_betsPartedBy 20 = .ok (.iload_n 3, 1) := by decide +kernel
theorem dX5_betsPartedBy_21 : decode cX5_betsPartedBy 21 = .ok (.iload 6, 2) := by decide +kernel
theorem dX5_betsPartedBy_23 : decode cX5_betsPartedBy 23 = .ok (.iadd, 1) := by decide +kernel
theorem dX5_betsPartedBy_24 : decode cX5_betsPartedBy 24 = .ok (.putfield 178, 3) := by decide +kernel
theorem dX5_betsPartedBy_27 : decode cX5_betsPartedBy 27 = .ok (.aload_n 0, 1) := by decide +kernel
theorem dX5_betsPartedBy_28 : decode cX5_betsPartedBy 28 = .ok (.aload_n 0, 1) := by decide +kernel
theorem dX5_betsPartedBy_29 : decode cX5_betsPartedBy 29 = .ok (.getfield 12, 3) := by decide +kernel
theorem dX5_betsPartedBy_32 : decode cX5_betsPartedBy 32 = .ok (.iconst 0, 1) := by decide +kernel
theorem dX5_betsPartedBy_33 : decode cX5_betsPartedBy 33 = .ok (.aaload, 1) := by decide +kernel
theorem dX5_betsPartedBy_34 : decode cX5_betsPartedBy 34 = .ok (.invokevirtual 195, 3) := by decide +kernel
theorem dX5_betsPartedBy_37 : decode cX5_betsPartedBy 37 = .ok (.ifCond .eq 6, 3) := by decide +kernel
theorem dX5_betsPartedBy_40 : decode cX5_betsPartedBy 40 = .ok (.iinc 5 1, 3) := by decide +kernel
theorem dX5_betsPartedBy_43 : decode cX5_betsPartedBy 43 = .ok (.iinc 6 1, 3) := by decide +kernel
theorem dX5_betsPartedBy_46 : decode cX5_betsPartedBy 46 = .ok (.goto (-33), 3) := by decide +kernel
theorem dX5_betsPartedBy_49 : decode cX5_betsPartedBy 49 = .ok (.iload 5, 2) := by decide +kernel
theorem dX5_betsPartedBy_51 : decode cX5_betsPartedBy 51 = .ok (.ireturn, 1) := by decide +kernel
theorem dX5_findLeasts_0 : decode cX5_findLeasts 0 = .ok (.aload_n 0, 1) := by decide +kernel
theorem dX5_findLeasts_1 : decode cX5_findLeasts 1 = .ok (.getfield 12, 3) := by decide +kernel
theorem dX5_findLeasts_4 : decode cX5_findLeasts 4 = .ok (.iconst 0, 1) := by decide +kernel
theorem dX5_findLeasts_5 : decode cX5_findLeasts 5 = .ok (.aaload, 1) := by decide +kernel
theorem dX5_findLeasts_6 : decode cX5_findLeasts 6 = .ok (.astore_n 3, 1) := by decide +kernel
theorem dX5_findLeasts_7 : decode cX5_findLeasts 7 = .ok (.aload_n 3, 1) := by decide +kernel
theorem dX5_findLeasts_8 : decode cX5_findLeasts 8 = .ok (.aload_n 1, 1) := by decide +kernel
theorem dX5_findLeasts_9 : decode cX5_findLeasts 9 = .ok (.invokevirtual 62, 3) := by decide +kernel
theorem dX5_findLeasts_12 : decode cX5_findLeasts 12 = .ok (.iconst 0, 1) := by decide +kernel
theorem dX5_findLeasts_13 : decode cX5_findLeasts 13 = .ok (.istore 4, 2) := by decide +kernel
theorem dX5_findLeasts_15 : decode cX5_findLeasts 15 = .ok (.iload 4, 2) := by decide +kernel
theorem dX5_findLeasts_17 : decode cX5_findLeasts 17 = .ok (.bipush 20, 2) := by decide +kernel
theorem dX5_findLeasts_19 : decode cX5_findLeasts 19 = .ok (.if_icmp .ge 17, 3) := by decide +kernel
theorem dX5_findLeasts_22 : decode cX5_findLeasts 22 = .ok (.aload_n 0, 1) := by decide +kernel
theorem dX5_findLeasts_23 : decode cX5_findLeasts 23 = .ok (.getfield 35, 3) := by decide +kernel
theorem dX5_findLeasts_26 : decode cX5_findLeasts 26 = .ok (.iload 4, 2) := by decide +kernel
theorem dX5_findLeasts_28 : decode cX5_findLeasts 28 = .ok (.iconst 0, 1) := by decide +kernel
theorem dX5_findLeasts_29 : decode cX5_findLeasts 29 = .ok (.iastore, 1) := by decide +kernel
theorem dX5_findLeasts_30 : decode cX5_findLeasts 30 = .ok (.iinc 4 1, 3) := by decide +kernel
theorem dX5_findLeasts_33 : decode cX5_findLeasts 33 = .ok (.goto (-18), 3) := by decide +kernel
theorem dX5_findLeasts_36 : decode cX5_findLeasts 36 = .ok (.iconst 1, 1) := by decide +kernel
theorem dX5_findLeasts_37 : decode cX5_findLeasts 37 = .ok (.istore 4, 2) := by decide +kernel
theorem dX5_findLeasts_39 : decode cX5_findLeasts 39 = .ok (.iload 4, 2) := by decide +kernel
theorem dX5_findLeasts_41 : decode cX5_findLeasts 41 = .ok (.iload_n 2, 1) := by decide +kernel
theorem dX5_findLeasts_42 : decode cX5_findLeasts 42 = .ok (.if_icmp .gt 113, 3) := by decide +kernel
theorem dX5_findLeasts_45 : decode cX5_findLeasts 45 = .ok (.aload_n 3, 1) := by decide +kernel
theorem dX5_findLeasts_46 : decode cX5_findLeasts 46 = .ok (.iload 4, 2) := by decide +kernel
theorem dX5_findLeasts_48 : decode cX5_findLeasts 48 = .ok (.putfield 38, 3) := by decide +kernel
theorem dX5_findLeasts_51 : decode cX5_findLeasts 51 = .ok (.aload_n 3, 1) := by decide +kernel
theorem dX5_findLeasts_52 : decode cX5_findLeasts 52 = .ok (.aload_n 1, 1) := by decide +kernel
theorem dX5_findLeasts_53 : decode cX5_findLeasts 53 = .ok (.invokevirtual 42, 3) := by decide +kernel
theorem dX5_findLeasts_56 : decode cX5_findLeasts 56 = .ok (.pop, 1) := by decide +kernel
theorem dX5_findLeasts_57 : decode cX5_findLeasts 57 = .ok (.iconst 0, 1) := by decide +kernel
theorem dX5_findLeasts_58 : decode cX5_findLeasts 58 = .ok (.istore 5, 2) := by decide +kernel
theorem dX5_findLeasts_60 : decode cX5_findLeasts 60 = .ok (.iload 5, 2) := by decide +kernel
theorem dX5_findLeasts_62 : decode cX5_findLeasts 62 = .ok (.aload_n 3, 1) := by decide +kernel
theorem dX5_findLeasts_63 : decode cX5_findLeasts 63 = .ok (.getfield 55, 3) := by decide +kernel
theorem dX5_findLeasts_66 : decode cX5_findLeasts 66 = .ok (.if_icmp .ge 70, 3) := by decide +kernel
theorem dX5_findLeasts_69 : decode cX5_findLeasts 69 = .ok (.aload_n 1, 1) := by decide +kernel
theorem dX5_findLeasts_70 : decode cX5_findLeasts 70 = .ok (.getfield 46, 3) := by decide +kernel
theorem dX5_findLeasts_73 : decode cX5_findLeasts 73 = .ok (.ifCond .gt 7, 3) := by decide +kernel
theorem dX5_findLeasts_76 : decode cX5_findLeasts 76 = .ok (.iconst 0, 1) := by decide +kernel
theorem dX5_findLeasts_77 : decode cX5_findLeasts 77 = .ok (.goto 22, 3) := by decide +kernel
theorem dX5_findLeasts_80 : decode cX5_findLeasts 80 = .ok (.aload_n 3, 1) := by decide +kernel
theorem dX5_findLeasts_81 : decode cX5_findLeasts 81 = .ok (.getfield 162, 3) := by decide +kernel
theorem dX5_findLeasts_84 : decode cX5_findLeasts 84 = .ok (.iload 5, 2) := by decide +kernel
theorem dX5_findLeasts_86 : decode cX5_findLeasts 86 = .ok (.iaload, 1) := by decide +kernel
theorem dX5_findLeasts_87 : decode cX5_findLeasts 87 = .ok (.aload_n 1, 1) := by decide +kernel
theorem dX5_findLeasts_88 : decode cX5_findLeasts 88 = .ok (.getfield 46, 3) := by decide +kernel
theorem dX5_findLeasts_91 : decode cX5_findLeasts 91 = .ok (.iadd, 1) := by decide +kernel
theorem dX5_findLeasts_92 : decode cX5_findLeasts 92 = .ok (.iconst 1, 1) := by decide +kernel
theorem dX5_findLeasts_93 : decode cX5_findLeasts 93 = .ok (.isub, 1) := by decide +kernel
theorem dX5_findLeasts_94 : decode cX5_findLeasts 94 = .ok (.aload_n 1, 1) := by decide +kernel
theorem dX5_findLeasts_95 : decode cX5_findLeasts 95 = .ok (.getfield 46, 3) := by decide +kernel
theorem dX5_findLeasts_98 : decode cX5_findLeasts 98 = .ok (.idiv, 1) := by decide +kernel
theorem dX5_findLeasts_99 : decode cX5_findLeasts 99 = .ok (.istore 6, 2) := by decide +kernel
theorem dX5_findLeasts_101 : decode cX5_findLeasts 101 = .ok (.aload_n 0, 1) := by decide +kernel
theorem dX5_findLeasts_102 : decode cX5_findLeasts 102 = .ok (.getfield 35, 3) := by decide +kernel
theorem dX5_findLeasts_105 : decode cX5_findLeasts 105 = .ok (.iload 5, 2) := by decide +kernel
theorem dX5_findLeasts_107 : decode cX5_findLeasts 107 = .ok (.aload_n 0, 1) := by decide +kernel
theorem dX5_findLeasts_108 : decode cX5_findLeasts 108 = .ok (.getfield 35, 3) := by decide +kernel
theorem dX5_findLeasts_111 : decode cX5_findLeasts 111 = .ok (.iload 5, 2) := by decide +kernel
theorem dX5_findLeasts_113 : decode cX5_findLeasts 113 = .ok (.iaload, 1) := by decide +kernel
theorem dX5_findLeasts_114 : decode cX5_findLeasts 114 = .ok (.aload_n 3, 1) := by decide +kernel
theorem dX5_findLeasts_115 : decode cX5_findLeasts 115 = .ok (.getfield 199, 3) := by decide +kernel
theorem dX5_findLeasts_118 : decode cX5_findLeasts 118 = .ok (.iload 5, 2) := by decide +kernel
theorem dX5_findLeasts_120 : decode cX5_findLeasts 120 = .ok (.iaload, 1) := by decide +kernel
theorem dX5_findLeasts_121 : decode cX5_findLeasts 121 = .ok (.iload 6, 2) := by decide +kernel
theorem dX5_findLeasts_123 : decode cX5_findLeasts 123 = .ok (.invokestatic 202, 3) := by decide +kernel
theorem dX5_findLeasts_126 : decode cX5_findLeasts 126 = .ok (.invokestatic 202, 3) := by decide +kernel
theorem dX5_findLeasts_129 : decode cX5_findLeasts 129 = .ok (.iastore, 1) := by decide +kernel
theorem dX5_findLeasts_130 : decode cX5_findLeasts 130 = .ok (.iinc 5 1, 3) := by decide +kernel
theorem dX5_findLeasts_133 : decode cX5_findLeasts 133 = .ok (.goto (-73), 3) := by decide +kernel
theorem dX5_findLeasts_136 : decode cX5_findLeasts 136 = .ok (.aload_n 3, 1) := by decide +kernel
theorem dX5_findLeasts_137 : decode cX5_findLeasts 137 = .ok (.aload_n 3, 1) := by decide +kernel
theorem dX5_findLeasts_138 : decode cX5_findLeasts 138 = .ok (.getfield 55, 3) := by decide +kernel
theorem dX5_findLeasts_141 : decode cX5_findLeasts 141 = .ok (.invokevirtual 58, 3) := by decide +kernel
theorem dX5_findLeasts_144 : decode cX5_findLeasts 144 = .ok (.aload_n 3, 1) := by decide +kernel
theorem dX5_findLeasts_145 : decode cX5_findLeasts 145 = .ok (.aload_n 1, 1) := by decide +kernel
theorem dX5_findLeasts_146 : decode cX5_findLeasts 146 = .ok (.invokevirtual 188, 3) := by decide +kernel
theorem dX5_findLeasts_149 : decode cX5_findLeasts 149 = .ok (.iinc 4 1, 3) := by decide +kernel
theorem dX5_findLeasts_152 : decode cX5_findLeasts 152 = .ok (.goto (-113), 3) := by decide +kernel
theorem dX5_findLeasts_155 : decode cX5_findLeasts 155 = .ok (.return_, 1) := by decide +kernel
theorem dX5_isParted_0 : decode cX5_isParted 0 = .ok (.iconst 0, 1) := by decide +kernel
theorem dX5_isParted_1 : decode cX5_isParted 1 = .ok (.istore_n 2, 1) := by decide +kernel
theorem dX5_isParted_2 : decode cX5_isParted 2 = .ok (.iload_n 2, 1) := by decide +kernel
theorem dX5_isParted_3 : decode cX5_isParted 3 = .ok (.aload_n 1, 1) := by decide +kernel
theorem dX5_isParted_4 : decode cX5_isParted 4 = .ok (.getfield 55, 3) := by decide +kernel
theorem dX5_isParted_7 : decode cX5_isParted 7 = .ok (.if_icmp .ge 30, 3) := by decide +kernel
theorem dX5_isParted_10 : decode cX5_isParted 10 = .ok (.aload_n 0, 1) := by decide +kernel
theorem dX5_isParted_11 : decode cX5_isParted 11 = .ok (.aload_n 1, 1) := by decide +kernel
theorem dX5_isParted_12 : decode cX5_isParted 12 = .ok (.getfield 87, 3) := by decide +kernel
theorem dX5_isParted_15 : decode cX5_isParted 15 = .ok (.iload_n 2, 1) := by decide +kernel
theorem dX5_isParted_16 : decode cX5_isParted 16 = .ok (.iaload, 1) := by decide +kernel
theorem dX5_isParted_17 : decode cX5_isParted 17 = .ok (.invokevirtual 185, 3) := by decide +kernel
theorem dX5_isParted_20 : decode cX5_isParted 20 = .ok (.aload_n 0, 1) := by decide +kernel
theorem dX5_isParted_21 : decode cX5_isParted 21 = .ok (.getfield 35, 3) := by decide +kernel
theorem dX5_isParted_24 : decode cX5_isParted 24 = .ok (.iload_n 2, 1) := by decide +kernel
theorem dX5_isParted_25 : decode cX5_isParted 25 = .ok (.iaload, 1) := by decide +kernel
theorem dX5_isParted_26 : decode cX5_isParted 26 = .ok (.if_icmp .ge 5, 3) := by decide +kernel
theorem dX5_isParted_29 : decode cX5_isParted 29 = .ok (.iconst 1, 1) := by decide +kernel
theorem dX5_isParted_30 : decode cX5_isParted 30 = .ok (.ireturn, 1) := by decide +kernel
theorem dX5_isParted_31 : decode cX5_isParted 31 = .ok (.iinc 2 1, 3) := by decide +kernel
theorem dX5_isParted_34 : decode cX5_isParted 34 = .ok (.goto (-32), 3) := by decide +kernel
theorem dX5_isParted_37 : decode cX5_isParted 37 = .ok (.iconst 0, 1) := by decide +kernel
theorem dX5_isParted_38 : decode cX5_isParted 38 = .ok (.ireturn, 1) := by decide +kernel
theorem dX6_init_0 : decode cX6_init 0 = .ok (.aload_n 0, 1) := by decide +kernel
theorem dX6_init_1 : decode cX6_init 1 = .ok (.invokespecial 3, 3) := by decide +kernel
theorem dX6_init_4 : decode cX6_init 4 = .ok (.aload_n 0, 1) := by decide +kernel
theorem dX6_init_5 : decode cX6_init 5 = .ok (.bipush 30, 2) := by decide +kernel
theorem dX6_init_7 : decode cX6_init 7 = .ok (.newarray .int, 2) := by decide +kernel
theorem dX6_init_9 : decode cX6_init 9 = .ok (.putfield 11, 3) := by decide +kernel
theorem dX6_init_12 : decode cX6_init 12 = .ok (.aload_n 0, 1) := by decide +kernel
theorem dX6_init_13 : decode cX6_init 13 = .ok (.bipush 30, 2) := by decide +kernel
theorem dX6_init_15 : decode cX6_init 15 = .ok (.newarray .int, 2) := by decide +kernel
theorem dX6_init_17 : decode cX6_init 17 = .ok (.putfield 15, 3) := by decide +kernel
theorem dX6_init_20 : decode cX6_init 20 = .ok (.aload_n 0, 1) := by decide +kernel
theorem dX6_init_21 : decode cX6_init 21 = .ok (.bipush 30, 2) := by decide +kernel
theorem dX6_init_23 : decode cX6_init 23 = .ok (.newarray .int, 2) := by decide +kernel
theorem dX6_init_25 : decode cX6_init 25 = .ok (.putfield 18, 3) := by decide +kernel
theorem dX6_init_28 : decode cX6_init 28 = .ok (.return_, 1) := by decide +kernel
theorem dX6_clear_0 : decode cX6_clear 0 = .ok (.aload_n 0, 1) := by decide +kernel
theorem dX6_clear_1 : decode cX6_clear 1 = .ok (.iconst 0, 1) := by decide +kernel
theorem dX6_clear_2 : decode cX6_clear 2 = .ok (.putfield 21, 3) := by decide +kernel
theorem dX6_clear_5 : decode cX6_clear 5 = .ok (.return_, 1) := by decide +kernel
theorem dX6_copyFrom_0 : decode cX6_copyFrom 0 = .ok (.aload_n 1, 1) := by decide +kernel
theorem dX6_copyFrom_1 : decode cX6_copyFrom 1 = .ok (.getfield 11, 3) := by decide +kernel
theorem dX6_copyFrom_4 : decode cX6_copyFrom 4 = .ok (.iconst 0, 1) := by decide +kernel
theorem dX6_copyFrom_5 : decode cX6_copyFrom 5 = .ok (.aload_n 0, 1) := by decide +kernel
theorem dX6_copyFrom_6 : decode cX6_copyFrom 6 = .ok (.getfield 11, 3) := by decide +kernel
theorem dX6_copyFrom_9 : decode cX6_copyFrom 9 = .ok (.iconst 0, 1) := by decide +kernel
theorem dX6_copyFrom_10 : decode cX6_copyFrom 10 = .ok (.bipush 30, 2) := by decide +kernel
theorem dX6_copyFrom_12 : decode cX6_copyFrom 12 = .ok (.invokestatic 25, 3) := by decide +kernel
theorem dX6_copyFrom_15 : decode cX6_copyFrom 15 = .ok (.aload_n 1, 1) := by decide +kernel
theorem dX6_copyFrom_16 : decode cX6_copyFrom 16 = .ok (.getfield 15, 3) := by decide +kernel
theorem dX6_copyFrom_19 : decode cX6_copyFrom 19 = .ok (.iconst 0, 1) := by decide +kernel
theorem dX6_copyFrom_20 : decode cX6_copyFrom 20 = .ok (.aload_n 0, 1) := by decide +kernel
theorem dX6_copyFrom_21 : decode cX6_copyFrom 21 = .ok (.getfield 15, 3) := by decide +kernel
theorem dX6_copyFrom_24 : decode cX6_copyFrom 24 = .ok (.iconst 0, 1) := by decide +kernel
theorem dX6_copyFrom_25 : decode cX6_copyFrom 25 = .ok (.bipush 30, 2) := by decide +kernel
theorem dX6_copyFrom_27 : decode cX6_copyFrom 27 = .ok (.invokestatic 25, 3) := by decide +kernel
theorem dX6_copyFrom_30 : decode cX6_copyFrom 30 = .ok (.aload_n 1, 1) := by decide +kernel
theorem dX6_copyFrom_31 : decode cX6_copyFrom 31 = .ok (.getfield 18, 3) := by decide +kernel
theorem dX6_copyFrom_34 : decode cX6_copyFrom 34 = .ok (.iconst 0, 1) := by decide +kernel
theorem dX6_copyFrom_35 : decode cX6_copyFrom 35 = .ok (.aload_n 0, 1) := by decide +kernel
theorem dX6_copyFrom_36 : decode cX6_copyFrom 36 = .ok (.getfield 18, 3) := by decide +kernel
theorem dX6_copyFrom_39 : decode cX6_copyFrom 39 = .ok (.iconst 0, 1) := by decide +kernel
theorem dX6_copyFrom_40 : decode cX6_copyFrom 40 = .ok (.bipush 30, 2) := by decide +kernel
theorem dX6_copyFrom_42 : decode cX6_copyFrom 42 = .ok (.invokestatic 25, 3) := by decide +kernel
theorem dX6_copyFrom_45 : decode cX6_copyFrom 45 = .ok (.aload_n 0, 1) := by decide +kernel
theorem dX6_copyFrom_46 : decode cX6_copyFrom 46 = .ok (.aload_n 1, 1) := by decide +kernel
theorem dX6_copyFrom_47 : decode cX6_copyFrom 47 = .ok (.getfield 21, 3) := by decide +kernel
theorem dX6_copyFrom_50 : decode cX6_copyFrom 50 = .ok (.putfield 21, 3) := by decide +kernel
theorem dX6_copyFrom_53 : decode cX6_copyFrom 53 = .ok (.return_, 1) := by decide +kernel
theorem dX6_read_0 : decode cX6_read 0 = .ok (.aload_n 1, 1) := by decide +kernel
theorem dX6_read_1 : decode cX6_read 1 = .ok (.aload_n 2, 1) := by decide +kernel
theorem dX6_read_2 : decode cX6_read 2 = .ok (.iload_n 3, 1) := by decide +kernel
theorem dX6_read_3 : decode cX6_read 3 = .ok (.sipush 400, 3) := by decide +kernel
theorem dX6_read_6 : decode cX6_read 6 = .ok (.invokevirtual 31, 3) := by decide +kernel
theorem dX6_read_9 : decode cX6_read 9 = .ok (.aload_n 0, 1) := by decide +kernel
theorem dX6_read_10 : decode cX6_read 10 = .ok (.invokevirtual 37, 3) := by decide +kernel
theorem dX6_read_13 : decode cX6_read 13 = .ok (.aload_n 1, 1) := by decide +kernel
theorem dX6_read_14 : decode cX6_read 14 = .ok (.invokevirtual 40, 3) := by decide +kernel
theorem dX6_read_17 : decode cX6_read 17 = .ok (.iconst 0, 1) := by decide +kernel
theorem dX6_read_18 : decode cX6_read 18 = .ok (.istore 4, 2) := by decide +kernel
theorem dX6_read_20 : decode cX6_read 20 = .ok (.iload 4, 2) := by decide +kernel
theorem dX6_read_22 : decode cX6_read 22 = .ok (.bipush 30, 2) := by decide +kernel
theorem dX6_read_24 : decode cX6_read 24 = .ok (.if_icmp .gt 35, 3) := by decide +kernel
theorem dX6_read_27 : decode cX6_read 27 = .ok (.aload_n 1, 1) := by decide +kernel
theorem dX6_read_28 : decode cX6_read 28 = .ok (.invokevirtual 43, 3) := by decide +kernel
theorem dX6_read_31 : decode cX6_read 31 = .ok (.ifCond .ne 28, 3) := by decide +kernel
theorem dX6_read_34 : decode cX6_read 34 = .ok (.aload_n 0, 1) := by decide +kernel
theorem dX6_read_35 : decode cX6_read 35 = .ok (.aload_n 1, 1) := by decide +kernel
theorem dX6_read_36 : decode cX6_read 36 = .ok (.aload_n 1, 1) := by decide +kernel
theorem dX6_read_37 : decode cX6_read 37 = .ok (.invokevirtual 47, 3) := by decide +kernel
theorem dX6_read_40 : decode cX6_read 40 = .ok (.invokevirtual 51, 3) := by decide +kernel
theorem dX6_read_43 : decode cX6_read 43 = .ok (.ifCond .ne 6, 3) := by decide +kernel
theorem dX6_read_46 : decode cX6_read 46 = .ok (.goto 13, 3) := by decide +kernel
theorem dX6_read_49 : decode cX6_read 49 = .ok (.aload_n 1, 1) := by decide +kernel
theorem dX6_read_50 : decode cX6_read 50 = .ok (.invokevirtual 40, 3) := by decide +kernel
theorem dX6_read_53 : decode cX6_read 53 = .ok (.iinc 4 1, 3) := by decide +kernel
theorem dX6_read_56 : decode cX6_read 56 = .ok (.goto (-36), 3) := by decide +kernel
theorem dX6_read_59 : decode cX6_read 59 = .ok (.aload_n 1, 1) := by decide +kernel
theorem dX6_read_60 : decode cX6_read 60 = .ok (.aload_n 0, 1) := by decide +kernel
theorem dX6_read_61 : decode cX6_read 61 = .ok (.getfield 21, 3) := by decide +kernel
theorem dX6_read_64 : decode cX6_read 64 = .ok (.invokevirtual 55, 3) := by decide +kernel
theorem dX6_read_67 : decode cX6_read 67 = .ok (.ireturn, 1) := by decide +kernel
theorem dX6_readRow_0 : decode cX6_readRow 0 = .ok (.iload_n 2, 1) := by decide +kernel
theorem dX6_readRow_1 : decode cX6_readRow 1 = .ok (.bipush 7, 2) := by decide +kernel
theorem dX6_readRow_3 : decode cX6_readRow 3 = .ok (.if_icmp .eq 15, 3) := by decide +kernel
theorem dX6_readRow_6 : decode cX6_readRow 6 = .ok (.iload_n 2, 1) := by decide +kernel
theorem dX6_readRow_7 : decode cX6_readRow 7 = .ok (.bipush 11, 2) := by decide +kernel
theorem dX6_readRow_9 : decode cX6_readRow 9 = .ok (.if_icmp .lt 13, 3) := by decide +kernel
theorem dX6_readRow_12 : decode cX6_readRow 12 = .ok (.iload_n 2, 1) := by decide +kernel
theorem dX6_readRow_13 : decode cX6_readRow 13 = .ok (.bipush 15, 2) := by decide +kernel
theorem dX6_readRow_15 : decode cX6_readRow 15 = .ok (.if_icmp .gt 7, 3) := by decide +kernel
theorem dX6_readRow_18 : decode cX6_readRow 18 = .ok (.iconst 1, 1) := by decide +kernel
theorem dX6_readRow_19 : decode cX6_readRow 19 = .ok (.goto 4, 3) := by decide +kernel
theorem dX6_readRow_22 : decode cX6_readRow 22 = .ok (.iconst 0, 1) := by decide +kernel
theorem dX6_readRow_23 : decode cX6_readRow 23 = .ok (.istore_n 3, 1) := by decide +kernel
theorem dX6_readRow_24 : decode cX6_readRow 24 = .ok (.iload_n 3, 1) := by decide +kernel
theorem dX6_readRow_25 : decode cX6_readRow 25 = .ok (.ifCond .ne 9, 3) := by decide +kernel
theorem dX6_readRow_28 : decode cX6_readRow 28 = .ok (.aload_n 1, 1) := by decide +kernel
theorem dX6_readRow_29 : decode cX6_readRow 29 = .ok (.iconst 1, 1) := by decide +kernel
theorem dX6_readRow_30 : decode cX6_readRow 30 = .ok (.invokevirtual 59, 3) := by decide +kernel
theorem dX6_readRow_33 : decode cX6_readRow 33 = .ok (.ireturn, 1) := by decide +kernel
theorem dX6_readRow_34 : decode cX6_readRow 34 = .ok (.aload_n 0, 1) := by decide +kernel
theorem dX6_readRow_35 : decode cX6_readRow 35 = .ok (.getfield 21, 3) := by decide +kernel
theorem dX6_readRow_38 : decode cX6_readRow 38 = .ok (.bipush 30, 2) := by decide +kernel
theorem dX6_readRow_40 : decode cX6_readRow 40 = .ok (.if_icmp .lt 9, 3) := by decide +kernel
theorem dX6_readRow_43 : decode cX6_readRow 43 = .ok (.aload_n 1, 1) := by decide +kernel
theorem dX6_readRow_44 : decode cX6_readRow 44 = .ok (.iconst 4, 1) := by decide +kernel
theorem dX6_readRow_45 : decode cX6_readRow 45 = .ok (.invokevirtual 59, 3) := by decide +kernel
theorem dX6_readRow_48 : decode cX6_readRow 48 = .ok (.ireturn, 1) := by decide +kernel
theorem dX6_readRow_49 : decode cX6_readRow 49 = .ok (.aload_n 0, 1) := by decide +kernel
theorem dX6_readRow_50 : decode cX6_readRow 50 = .ok (.getfield 11, 3) := by decide +kernel
theorem dX6_readRow_53 : decode cX6_readRow 53 = .ok (.aload_n 0, 1) := by decide +kernel
theorem dX6_readRow_54 : decode cX6_readRow 54 = .ok (.getfield 21, 3) := by decide +kernel
theorem dX6_readRow_57 : decode cX6_readRow 57 = .ok (.iload_n 2, 1) := by decide +kernel
theorem dX6_readRow_58 : decode cX6_readRow 58 = .ok (.iastore, 1) := by decide +kernel
theorem dX6_readRow_59 : decode cX6_readRow 59 = .ok (.iload_n 2, 1) := by decide +kernel
theorem dX6_readRow_60 : decode cX6_readRow 60 = .ok (.bipush 11, 2) := by decide +kernel
theorem dX6_readRow_62 : decode cX6_readRow 62 = .ok (.if_icmp .eq 9, 3) := by decide +kernel
theorem dX6_readRow_65 : decode cX6_readRow 65 = .ok (.iload_n 2, 1) := by decide +kernel
theorem dX6_readRow_66 : decode cX6_readRow 66 = .ok (.bipush 7, 2) := by decide +kernel
theorem dX6_readRow_68 : decode cX6_readRow 68 = .ok (.if_icmp .ne 29, 3) := by decide +kernel
theorem dX6_readRow_71 : decode cX6_readRow 71 = .ok (.aload_n 1, 1) := by decide +kernel
theorem dX6_readRow_72 : decode cX6_readRow 72 = .ok (.iconst 1, 1) := by decide +kernel
theorem dX6_readRow_73 : decode cX6_readRow 73 = .ok (.sipush 400, 3) := by decide +kernel
theorem dX6_readRow_76 : decode cX6_readRow 76 = .ok (.invokevirtual 63, 3) := by decide +kernel
theorem dX6_readRow_79 : decode cX6_readRow 79 = .ok (.ifCond .ne 5, 3) := by decide +kernel
theorem dX6_readRow_82 : decode cX6_readRow 82 = .ok (.iconst 0, 1) := by decide +kernel
theorem dX6_readRow_83 : decode cX6_readRow 83 = .ok (.ireturn, 1) := by decide +kernel
theorem dX6_readRow_84 : decode cX6_readRow 84 = .ok (.aload_n 0, 1) := by decide +kernel
theorem dX6_readRow_85 : decode cX6_readRow 85 = .ok (.getfield 15, 3) := by decide +kernel
theorem dX6_readRow_88 : decode cX6_readRow 88 = .ok (.aload_n 0, 1) := by decide +kernel
theorem dX6_readRow_89 : decode cX6_readRow 89 = .ok (.getfield 21, 3) := by decide +kernel
theorem dX6_readRow_92 : decode cX6_readRow 92 = .ok (.aload_n 1, 1) := by decide +kernel
theorem dX6_readRow_93 : decode cX6_readRow 93 = .ok (.getfield 67, 3) := by decide +kernel
theorem dX6_readRow_96 : decode cX6_readRow 96 = .ok (.iastore, 1) := by decide +kernel
theorem dX6_readRow_97 : decode cX6_readRow 97 = .ok (.iload_n 2, 1) := by decide +kernel
theorem dX6_readRow_98 : decode cX6_readRow 98 = .ok (.bipush 12, 2) := by decide +kernel
theorem dX6_readRow_100 : decode cX6_readRow 100 = .ok (.if_icmp .eq 9, 3) := by decide +kernel
theorem dX6_readRow_103 : decode cX6_readRow 103 = .ok (.iload_n 2, 1) := by decide +kernel
theorem dX6_readRow_104 : decode cX6_readRow 104 = .ok (.bipush 14, 2) := by decide +kernel
theorem dX6_readRow_106 : decode cX6_readRow 106 = .ok (.if_icmp .ne 28, 3) := by decide +kernel
theorem dX6_readRow_109 : decode cX6_readRow 109 = .ok (.aload_n 1, 1) := by decide +kernel
theorem dX6_readRow_110 : decode cX6_readRow 110 = .ok (.iconst 0, 1) := by decide +kernel
theorem dX6_readRow_111 : decode cX6_readRow 111 = .ok (.bipush 19, 2) := by decide +kernel
theorem dX6_readRow_113 : decode cX6_readRow 113 = .ok (.invokevirtual 63, 3) := by decide +kernel
theorem dX6_readRow_116 : decode cX6_readRow 116 = .ok (.ifCond .ne 5, 3) := by decide +kernel
theorem dX6_readRow_119 : decode cX6_readRow 119 = .ok (.iconst 0, 1) := by decide +kernel
theorem dX6_readRow_120 : decode cX6_readRow 120 = .ok (.ireturn, 1) := by decide +kernel
theorem dX6_readRow_121 : decode cX6_readRow 121 = .ok (.aload_n 0, 1) := by decide +kernel
theorem dX6_readRow_122 : decode cX6_readRow 122 = .ok (.getfield 15, 3) := by decide +kernel
theorem dX6_readRow_125 : decode cX6_readRow 125 = .ok (.aload_n 0, 1) := by decide +kernel
theorem dX6_readRow_126 : decode cX6_readRow 126 = .ok (.getfield 21, 3) := by decide +kernel
theorem dX6_readRow_129 : decode cX6_readRow 129 = .ok (.aload_n 1, 1) := by decide +kernel
theorem dX6_readRow_130 : decode cX6_readRow 130 = .ok (.getfield 67, 3) := by decide +kernel
theorem dX6_readRow_133 : decode cX6_readRow 133 = .ok (.iastore, 1) := by decide +kernel
theorem dX6_readRow_134 : decode cX6_readRow 134 = .ok (.iload_n 2, 1) := by decide +kernel
theorem dX6_readRow_135 : decode cX6_readRow 135 = .ok (.bipush 12, 2) := by decide +kernel
theorem dX6_readRow_137 : decode cX6_readRow 137 = .ok (.if_icmp .ne 29, 3) := by decide +kernel
theorem dX6_readRow_140 : decode cX6_readRow 140 = .ok (.aload_n 1, 1) := by decide +kernel
theorem dX6_readRow_141 : decode cX6_readRow 141 = .ok (.iconst 1, 1) := by decide +kernel
theorem dX6_readRow_142 : decode cX6_readRow 142 = .ok (.sipush 999, 3) := by decide +kernel
theorem dX6_readRow_145 : decode cX6_readRow 145 = .ok (.invokevirtual 63, 3) := by decide +kernel
theorem dX6_readRow_148 : decode cX6_readRow 148 = .ok (.ifCond .ne 5, 3) := by decide +kernel
theorem dX6_readRow_151 : decode cX6_readRow 151 = .ok (.iconst 0, 1) := by decide +kernel
theorem dX6_readRow_152 : decode cX6_readRow 152 = .ok (.ireturn, 1) := by decide +kernel
theorem dX6_readRow_153 : decode cX6_readRow 153 = .ok (.aload_n 0, 1) := by decide +kernel
theorem dX6_readRow_154 : decode cX6_readRow 154 = .ok (.getfield 18, 3) := by decide +kernel
theorem dX6_readRow_157 : decode cX6_readRow 157 = .ok (.aload_n 0, 1) := by decide +kernel
theorem dX6_readRow_158 : decode cX6_readRow 158 = .ok (.getfield 21, 3) := by decide +kernel
theorem dX6_readRow_161 : decode cX6_readRow 161 = .ok (.aload_n 1, 1) := by decide +kernel
theorem dX6_readRow_162 : decode cX6_readRow 162 = .ok (.getfield 67, 3) := by decide +kernel
theorem dX6_readRow_165 : decode cX6_readRow 165 = .ok (.iastore, 1) := by decide +kernel
theorem dX6_readRow_166 : decode cX6_readRow 166 = .ok (.aload_n 0, 1) := by decide +kernel
theorem dX6_readRow_167 : decode cX6_readRow 167 = .ok (.dup, 1) := by decide +kernel
theorem dX6_readRow_168 : decode cX6_readRow 168 = .ok (.getfield 21, 3) := by decide +kernel
theorem dX6_readRow_171 : decode cX6_readRow 171 = .ok (.iconst 1, 1) := by decide +kernel
theorem dX6_readRow_172 : decode cX6_readRow 172 = .ok (.iadd, 1) := by decide +kernel
theorem dX6_readRow_173 : decode cX6_readRow 173 = .ok (.putfield 21, 3) := by decide +kernel
theorem dX6_readRow_176 : decode cX6_readRow 176 = .ok (.aload_n 1, 1) := by decide +kernel
theorem dX6_readRow_177 : decode cX6_readRow 177 = .ok (.invokevirtual 70, 3) := by decide +kernel
theorem dX6_readRow_180 : decode cX6_readRow 180 = .ok (.ireturn, 1) := by decide +kernel
theorem dX7_init_0 : decode cX7_init 0 = .ok (.aload_n 0, 1) := by decide +kernel
theorem dX7_init_1 : decode cX7_init 1 = .ok (.invokespecial 3, 3) := by decide +kernel
theorem dX7_init_4 : decode cX7_init 4 = .ok (.aload_n 0, 1) := by decide +kernel
theorem dX7_init_5 : decode cX7_init 5 = .ok (.iconst 0, 1) := by decide +kernel
theorem dX7_init_6 : decode cX7_init 6 = .ok (.newarray .int, 2) := by decide +kernel
theorem dX7_init_8 : decode cX7_init 8 = .ok (.putfield 9, 3) := by decide +kernel
theorem dX7_init_11 : decode cX7_init 11 = .ok (.return_, 1) := by decide +kernel
theorem dX7_open_0 : decode cX7_open 0 = .ok (.aload_n 0, 1) := by decide +kernel
theorem dX7_open_1 : decode cX7_open 1 = .ok (.aload_n 1, 1) := by decide +kernel
theorem dX7_open_2 : decode cX7_open 2 = .ok (.putfield 9, 3) := by decide +kernel
theorem dX7_open_5 : decode cX7_open 5 = .ok (.aload_n 0, 1) := by decide +kernel
theorem dX7_open_6 : decode cX7_open 6 = .ok (.iload_n 2, 1) := by decide +kernel
theorem dX7_open_7 : decode cX7_open 7 = .ok (.aload_n 1, 1) := by decide +kernel
theorem dX7_open_8 : decode cX7_open 8 = .ok (.arraylength, 1) := by decide +kernel
theorem dX7_open_9 : decode cX7_open 9 = .ok (.invokestatic 15, 3) := by decide +kernel
theorem dX7_open_12 : decode cX7_open 12 = .ok (.putfield 21, 3) := by decide +kernel
theorem dX7_open_15 : decode cX7_open 15 = .ok (.aload_n 0, 1) := by decide +kernel
theorem dX7_open_16 : decode cX7_open 16 = .ok (.iload_n 3, 1) := by decide +kernel
theorem dX7_open_17 : decode cX7_open 17 = .ok (.putfield 25, 3) := by decide +kernel
theorem dX7_open_20 : decode cX7_open 20 = .ok (.aload_n 0, 1) := by decide +kernel
theorem dX7_open_21 : decode cX7_open 21 = .ok (.iconst 0, 1) := by decide +kernel
theorem dX7_open_22 : decode cX7_open 22 = .ok (.putfield 28, 3) := by decide +kernel
theorem dX7_open_25 : decode cX7_open 25 = .ok (.aload_n 0, 1) := by decide +kernel
theorem dX7_open_26 : decode cX7_open 26 = .ok (.iconst 0, 1) := by decide +kernel
theorem dX7_open_27 : decode cX7_open 27 = .ok (.putfield 31, 3) := by decide +kernel
theorem dX7_open_30 : decode cX7_open 30 = .ok (.aload_n 0, 1) := by decide +kernel
theorem dX7_open_31 : decode cX7_open 31 = .ok (.iconst 0, 1) := by decide +kernel
theorem dX7_open_32 : decode cX7_open 32 = .ok (.putfield 34, 3) := by decide +kernel
theorem dX7_open_35 : decode cX7_open 35 = .ok (.return_, 1) := by decide +kernel
theorem dX7_fail_0 : decode cX7_fail 0 = .ok (.aload_n 0, 1) := by decide +kernel
theorem dX7_fail_1 : decode cX7_fail 1 = .ok (.iload_n 1, 1) := by decide +kernel
theorem dX7_fail_2 : decode cX7_fail 2 = .ok (.putfield 31, 3) := by decide +kernel
theorem dX7_fail_5 : decode cX7_fail 5 = .ok (.aload_n 0, 1) := by decide +kernel
theorem dX7_fail_6 : decode cX7_fail 6 = .ok (.iload_n 2, 1) := by decide +kernel
theorem dX7_fail_7 : decode cX7_fail 7 = .ok (.putfield 34, 3) := by decide +kernel
theorem dX7_fail_10 : decode cX7_fail 10 = .ok (.iconst 0, 1) := by decide +kernel
theorem dX7_fail_11 : decode cX7_fail 11 = .ok (.ireturn, 1) := by decide +kernel
theorem dX7_answer_0 : decode cX7_answer 0 = .ok (.aload_n 0, 1) := by decide +kernel
theorem dX7_answer_1 : decode cX7_answer 1 = .ok (.getfield 31, 3) := by decide +kernel
theorem dX7_answer_4 : decode cX7_answer 4 = .ok (.ifCond .ne 7, 3) := by decide +kernel
theorem dX7_answer_7 : decode cX7_answer 7 = .ok (.iload_n 1, 1) := by decide +kernel
theorem dX7_answer_8 : decode cX7_answer 8 = .ok (.goto 9, 3) := by decide +kernel
theorem dX7_answer_11 : decode cX7_answer 11 = .ok (.iconst (-1), 1) := by decide +kernel
theorem dX7_answer_12 : decode cX7_answer 12 = .ok (.aload_n 0, 1) := by decide +kernel
theorem dX7_answer_13 : decode cX7_answer 13 = .ok (.getfield 34, 3) := by decide +kernel
theorem dX7_answer_16 : decode cX7_answer 16 = .ok (.isub, 1) := by decide +kernel
theorem dX7_answer_17 : decode cX7_answer 17 = .ok (.ireturn, 1) := by decide +kernel
theorem dX7_advance_0 : decode cX7_advance 0 = .ok (.aload_n 0, 1) := by decide +kernel
theorem dX7_advance_1 : decode cX7_advance 1 = .ok (.getfield 21, 3) := by decide +kernel
theorem dX7_advance_4 : decode cX7_advance 4 = .ok (.aload_n 0, 1) := by decide +kernel
theorem dX7_advance_5 : decode cX7_advance 5 = .ok (.getfield 25, 3) := by decide +kernel
theorem dX7_advance_8 : decode cX7_advance 8 = .ok (.invokestatic 15, 3) := by decide +kernel
theorem dX7_advance_11 : decode cX7_advance 11 = .ok (.istore_n 1, 1) := by decide +kernel
theorem dX7_advance_12 : decode cX7_advance 12 = .ok (.aload_n 0, 1) := by decide +kernel
theorem dX7_advance_13 : decode cX7_advance 13 = .ok (.getfield 28, 3) := by decide +kernel
theorem dX7_advance_16 : decode cX7_advance 16 = .ok (.iload_n 1, 1) := by decide +kernel
theorem dX7_advance_17 : decode cX7_advance 17 = .ok (.if_icmp .ge 44, 3) := by decide +kernel
theorem dX7_advance_20 : decode cX7_advance 20 = .ok (.aload_n 0, 1) := by decide +kernel
theorem dX7_advance_21 : decode cX7_advance 21 = .ok (.getfield 9, 3) := by decide +kernel
theorem dX7_advance_24 : decode cX7_advance 24 = .ok (.aload_n 0, 1) := by decide +kernel
theorem dX7_advance_25 : decode cX7_advance 25 = .ok (.getfield 28, 3) := by decide +kernel
theorem dX7_advance_28 : decode cX7_advance 28 = .ok (.iaload, 1) := by decide +kernel
theorem dX7_advance_29 : decode cX7_advance 29 = .ok (.bipush 32, 2) := by decide +kernel
theorem dX7_advance_31 : decode cX7_advance 31 = .ok (.if_icmp .eq 17, 3) := by decide +kernel
theorem dX7_advance_34 : decode cX7_advance 34 = .ok (.aload_n 0, 1) := by decide +kernel
theorem dX7_advance_35 : decode cX7_advance 35 = .ok (.getfield 9, 3) := by decide +kernel
theorem dX7_advance_38 : decode cX7_advance 38 = .ok (.aload_n 0, 1) := by decide +kernel
theorem dX7_advance_39 : decode cX7_advance 39 = .ok (.getfield 28, 3) := by decide +kernel
theorem dX7_advance_42 : decode cX7_advance 42 = .ok (.iaload, 1) := by decide +kernel
theorem dX7_advance_43 : decode cX7_advance 43 = .ok (.bipush 10, 2) := by decide +kernel
theorem dX7_advance_45 : decode cX7_advance 45 = .ok (.if_icmp .ne 16, 3) := by decide +kernel
theorem dX7_advance_48 : decode cX7_advance 48 = .ok (.aload_n 0, 1) := by decide +kernel
theorem dX7_advance_49 : decode cX7_advance 49 = .ok (.dup, 1) := by decide +kernel
theorem dX7_advance_50 : decode cX7_advance 50 = .ok (.getfield 28, 3) := by decide +kernel
theorem dX7_advance_53 : decode cX7_advance 53 = .ok (.iconst 1, 1) := by decide +kernel
theorem dX7_advance_54 : decode cX7_advance 54 = .ok (.iadd, 1) := by decide +kernel
theorem dX7_advance_55 : decode cX7_advance 55 = .ok (.putfield 28, 3) := by decide +kernel
theorem dX7_advance_58 : decode cX7_advance 58 = .ok (.goto (-46), 3) := by decide +kernel
theorem dX7_advance_61 : decode cX7_advance 61 = .ok (.aload_n 0, 1) := by decide +kernel
theorem dX7_advance_62 : decode cX7_advance 62 = .ok (.getfield 28, 3) := by decide +kernel
theorem dX7_advance_65 : decode cX7_advance 65 = .ok (.iload_n 1, 1) := by decide +kernel
theorem dX7_advance_66 : decode cX7_advance 66 = .ok (.if_icmp .lt 14, 3) := by decide +kernel
theorem dX7_advance_69 : decode cX7_advance 69 = .ok (.aload_n 0, 1) := by decide +kernel
theorem dX7_advance_70 : decode cX7_advance 70 = .ok (.iload_n 1, 1) := by decide +kernel
theorem dX7_advance_71 : decode cX7_advance 71 = .ok (.putfield 37, 3) := by decide +kernel
theorem dX7_advance_74 : decode cX7_advance 74 = .ok (.aload_n 0, 1) := by decide +kernel
theorem dX7_advance_75 : decode cX7_advance 75 = .ok (.iconst 5, 1) := by decide +kernel
theorem dX7_advance_76 : decode cX7_advance 76 = .ok (.putfield 40, 3) := by decide +kernel
theorem dX7_advance_79 : decode cX7_advance 79 = .ok (.return_, 1) := by decide +kernel
theorem dX7_advance_80 : decode cX7_advance 80 = .ok (.aload_n 0, 1) := by decide +kernel
theorem dX7_advance_81 : decode cX7_advance 81 = .ok (.aload_n 0, 1) := by decide +kernel
theorem dX7_advance_82 : decode cX7_advance 82 = .ok (.getfield 28, 3) := by decide +kernel
theorem dX7_advance_85 : decode cX7_advance 85 = .ok (.putfield 37, 3) := by decide +kernel
theorem dX7_advance_88 : decode cX7_advance 88 = .ok (.aload_n 0, 1) := by decide +kernel
theorem dX7_advance_89 : decode cX7_advance 89 = .ok (.getfield 9, 3) := by decide +kernel
theorem dX7_advance_92 : decode cX7_advance 92 = .ok (.aload_n 0, 1) := by decide +kernel
theorem dX7_advance_93 : decode cX7_advance 93 = .ok (.getfield 28, 3) := by decide +kernel
theorem dX7_advance_96 : decode cX7_advance 96 = .ok (.iaload, 1) := by decide +kernel
theorem dX7_advance_97 : decode cX7_advance 97 = .ok (.istore_n 2, 1) := by decide +kernel
theorem dX7_advance_98 : decode cX7_advance 98 = .ok (.iload_n 2, 1) := by decide +kernel
theorem dX7_advance_99 : decode cX7_advance 99 = .ok (.invokestatic 43, 3) := by decide +kernel
theorem dX7_advance_102 : decode cX7_advance 102 = .ok (.ifCond .ne 10, 3) := by decide +kernel
theorem dX7_advance_105 : decode cX7_advance 105 = .ok (.iload_n 2, 1) := by decide +kernel
theorem dX7_advance_106 : decode cX7_advance 106 = .ok (.invokestatic 47, 3) := by decide +kernel
theorem dX7_advance_109 : decode cX7_advance 109 = .ok (.ifCond .eq 8, 3) := by decide +kernel
theorem dX7_advance_112 : decode cX7_advance 112 = .ok (.aload_n 0, 1) := by decide +kernel
theorem dX7_advance_113 : decode cX7_advance 113 = .ok (.invokevirtual 50, 3) := by decide +kernel
theorem dX7_advance_116 : decode cX7_advance 116 = .ok (.return_, 1) := by decide +kernel
theorem dX7_advance_117 : decode cX7_advance 117 = .ok (.aload_n 0, 1) := by decide +kernel
theorem dX7_advance_118 : decode cX7_advance 118 = .ok (.dup, 1) := by decide +kernel
theorem dX7_advance_119 : decode cX7_advance 119 = .ok (.getfield 28, 3) := by decide +kernel
theorem dX7_advance_122 : decode cX7_advance 122 = .ok (.iconst 1, 1) := by decide +kernel
theorem dX7_advance_123 : decode cX7_advance 123 = .ok (.iadd, 1) := by decide +kernel
theorem dX7_advance_124 : decode cX7_advance 124 = .ok (.putfield 28, 3) := by decide +kernel
theorem dX7_advance_127 : decode cX7_advance 127 = .ok (.aload_n 0, 1) := by decide +kernel
theorem dX7_advance_128 : decode cX7_advance 128 = .ok (.iload_n 2, 1) := by decide +kernel
theorem dX7_advance_129 : decode cX7_advance 129 = .ok (.bipush 59, 2) := by decide +kernel
theorem dX7_advance_131 : decode cX7_advance 131 = .ok (.if_icmp .ne 7, 3) := by decide +kernel
theorem dX7_advance_134 : decode cX7_advance 134 = .ok (.iconst 3, 1) := by decide +kernel
theorem dX7_advance_135 : decode cX7_advance 135 = .ok (.goto 14, 3) := by decide +kernel
theorem dX7_advance_138 : decode cX7_advance 138 = .ok (.iload_n 2, 1) := by decide +kernel
theorem dX7_advance_139 : decode cX7_advance 139 = .ok (.bipush 45, 2) := by decide +kernel
theorem dX7_advance_141 : decode cX7_advance 141 = .ok (.if_icmp .ne 7, 3) := by decide +kernel
theorem dX7_advance_144 : decode cX7_advance 144 = .ok (.iconst 4, 1) := by decide +kernel
theorem dX7_advance_145 : decode cX7_advance 145 = .ok (.goto 4, 3) := by decide +kernel
theorem dX7_advance_148 : decode cX7_advance 148 = .ok (.iconst 0, 1) := by decide +kernel
theorem dX7_advance_149 : decode cX7_advance 149 = .ok (.putfield 40, 3) := by decide +kernel
theorem dX7_advance_152 : decode cX7_advance 152 = .ok (.return_, 1) := by decide +kernel
theorem dX7_readRun_0 : decode cX7_readRun 0 = .ok (.aload_n 0, 1) := by decide +kernel
theorem dX7_readRun_1 : decode cX7_readRun 1 = .ok (.lconst 0, 1) := by decide +kernel
theorem dX7_readRun_2 : decode cX7_readRun 2 = .ok (.putfield 53, 3) := by decide +kernel
theorem dX7_readRun_5 : decode cX7_readRun 5 = .ok (.aload_n 0, 1) := by decide +kernel
theorem dX7_readRun_6 : decode cX7_readRun 6 = .ok (.iconst 0, 1) := by decide +kernel
theorem dX7_readRun_7 : decode cX7_readRun 7 = .ok (.putfield 57, 3) := by decide +kernel
theorem dX7_readRun_10 : decode cX7_readRun 10 = .ok (.iconst 0, 1) := by decide +kernel
theorem dX7_readRun_11 : decode cX7_readRun 11 = .ok (.istore_n 1, 1) := by decide +kernel
theorem dX7_readRun_12 : decode cX7_readRun 12 = .ok (.aload_n 0, 1) := by decide +kernel
theorem dX7_readRun_13 : decode cX7_readRun 13 = .ok (.getfield 28, 3) := by decide +kernel
theorem dX7_readRun_16 : decode cX7_readRun 16 = .ok (.aload_n 0, 1) := by decide +kernel
theorem dX7_readRun_17 : decode cX7_readRun 17 = .ok (.getfield 21, 3) := by decide +kernel
theorem dX7_readRun_20 : decode cX7_readRun 20 = .ok (.if_icmp .ge 120, 3) := by decide +kernel
theorem dX7_readRun_23 : decode cX7_readRun 23 = .ok (.aload_n 0, 1) := by decide +kernel
theorem dX7_readRun_24 : decode cX7_readRun 24 = .ok (.getfield 9, 3) := by decide +kernel
theorem dX7_readRun_27 : decode cX7_readRun 27 = .ok (.aload_n 0, 1) := by decide +kernel
theorem dX7_readRun_28 : decode cX7_readRun 28 = .ok (.getfield 28, 3) := by decide +kernel
theorem dX7_readRun_31 : decode cX7_readRun 31 = .ok (.iaload, 1) := by decide +kernel
theorem dX7_readRun_32 : decode cX7_readRun 32 = .ok (.invokestatic 43, 3) := by decide +kernel
theorem dX7_readRun_35 : decode cX7_readRun 35 = .ok (.ifCond .ne 18, 3) := by decide +kernel
theorem dX7_readRun_38 : decode cX7_readRun 38 = .ok (.aload_n 0, 1) := by decide +kernel
theorem dX7_readRun_39 : decode cX7_readRun 39 = .ok (.getfield 9, 3) := by decide +kernel
theorem dX7_readRun_42 : decode cX7_readRun 42 = .ok (.aload_n 0, 1) := by decide +kernel
theorem dX7_readRun_43 : decode cX7_readRun 43 = .ok (.getfield 28, 3) := by decide +kernel
theorem dX7_readRun_46 : decode cX7_readRun 46 = .ok (.iaload, 1) := by decide +kernel
theorem dX7_readRun_47 : decode cX7_readRun 47 = .ok (.invokestatic 47, 3) := by decide +kernel
theorem dX7_readRun_50 : decode cX7_readRun 50 = .ok (.ifCond .eq 90, 3) := by decide +kernel
theorem dX7_readRun_53 : decode cX7_readRun 53 = .ok (.aload_n 0, 1) := by decide +kernel
theorem dX7_readRun_54 : decode cX7_readRun 54 = .ok (.getfield 9, 3) := by decide +kernel
theorem dX7_readRun_57 : decode cX7_readRun 57 = .ok (.aload_n 0, 1) := by decide +kernel
theorem dX7_readRun_58 : decode cX7_readRun 58 = .ok (.getfield 28, 3) := by decide +kernel
theorem dX7_readRun_61 : decode cX7_readRun 61 = .ok (.iaload, 1) := by decide +kernel
theorem dX7_readRun_62 : decode cX7_readRun 62 = .ok (.invokestatic 47, 3) := by decide +kernel
theorem dX7_readRun_65 : decode cX7_readRun 65 = .ok (.ifCond .eq 33, 3) := by decide +kernel
theorem dX7_readRun_68 : decode cX7_readRun 68 = .ok (.aload_n 0, 1) := by decide +kernel
theorem dX7_readRun_69 : decode cX7_readRun 69 = .ok (.aload_n 0, 1) := by decide +kernel
theorem dX7_readRun_70 : decode cX7_readRun 70 = .ok (.getfield 57, 3) := by decide +kernel
theorem dX7_readRun_73 : decode cX7_readRun 73 = .ok (.bipush 10, 2) := by decide +kernel
theorem dX7_readRun_75 : decode cX7_readRun 75 = .ok (.imul, 1) := by decide +kernel
theorem dX7_readRun_76 : decode cX7_readRun 76 = .ok (.aload_n 0, 1) := by decide +kernel
theorem dX7_readRun_77 : decode cX7_readRun 77 = .ok (.getfield 9, 3) := by decide +kernel
theorem dX7_readRun_80 : decode cX7_readRun 80 = .ok (.aload_n 0, 1) := by decide +kernel
theorem dX7_readRun_81 : decode cX7_readRun 81 = .ok (.getfield 28, 3) := by decide +kernel
theorem dX7_readRun_84 : decode cX7_readRun 84 = .ok (.iaload, 1) := by decide +kernel
theorem dX7_readRun_85 : decode cX7_readRun 85 = .ok (.iadd, 1) := by decide +kernel
theorem dX7_readRun_86 : decode cX7_readRun 86 = .ok (.bipush 48, 2) := by decide +kernel
theorem dX7_readRun_88 : decode cX7_readRun 88 = .ok (.isub, 1) := by decide +kernel
theorem dX7_readRun_89 : decode cX7_readRun 89 = .ok (.putfield 57, 3) := by decide +kernel
theorem dX7_readRun_92 : decode cX7_readRun 92 = .ok (.iinc 1 1, 3) := by decide +kernel
theorem dX7_readRun_95 : decode cX7_readRun 95 = .ok (.goto 32, 3) := by decide +kernel
theorem dX7_readRun_98 : decode cX7_readRun 98 = .ok (.aload_n 0, 1) := by decide +kernel
theorem dX7_readRun_99 : decode cX7_readRun 99 = .ok (.aload_n 0, 1) := by decide +kernel
theorem dX7_readRun_100 : decode cX7_readRun 100 = .ok (.getfield 53, 3) := by decide +kernel
theorem dX7_readRun_103 : decode cX7_readRun 103 = .ok (.ldc2_w 60, 3) := by decide +kernel
theorem dX7_readRun_106 : decode cX7_readRun 106 = .ok (.lmul, 1) := by decide +kernel
theorem dX7_readRun_107 : decode cX7_readRun 107 = .ok (.aload_n 0, 1) := by decide +kernel
theorem dX7_readRun_108 : decode cX7_readRun 108 = .ok (.getfield 9, 3) := by decide +kernel
theorem dX7_readRun_111 : decode cX7_readRun 111 = .ok (.aload_n 0, 1) := by decide +kernel
theorem dX7_readRun_112 : decode cX7_readRun 112 = .ok (.getfield 28, 3) := by decide +kernel
theorem dX7_readRun_115 : decode cX7_readRun 115 = .ok (.iaload, 1) := by decide +kernel
theorem dX7_readRun_116 : decode cX7_readRun 116 = .ok (.i2l, 1) := by decide +kernel
theorem dX7_readRun_117 : decode cX7_readRun 117 = .ok (.ladd, 1) := by decide +kernel
theorem dX7_readRun_118 : decode cX7_readRun 118 = .ok (.ldc2_w 62, 3) := by decide +kernel
theorem dX7_readRun_121 : decode cX7_readRun 121 = .ok (.lsub, 1) := by decide +kernel
theorem dX7_readRun_122 : decode cX7_readRun 122 = .ok (.lconst 1, 1) := by decide +kernel
theorem dX7_readRun_123 : decode cX7_readRun 123 = .ok (.ladd, 1) := by decide +kernel
theorem dX7_readRun_124 : decode cX7_readRun 124 = .ok (.putfield 53, 3) := by decide +kernel
theorem dX7_readRun_127 : decode cX7_readRun 127 = .ok (.aload_n 0, 1) := by decide +kernel
theorem dX7_readRun_128 : decode cX7_readRun 128 = .ok (.dup, 1) := by decide +kernel
theorem dX7_readRun_129 : decode cX7_readRun 129 = .ok (.getfield 28, 3) := by decide +kernel
theorem dX7_readRun_132 : decode cX7_readRun 132 = .ok (.iconst 1, 1) := by decide +kernel
theorem dX7_readRun_133 : decode cX7_readRun 133 = .ok (.iadd, 1) := by decide +kernel
theorem dX7_readRun_134 : decode cX7_readRun 134 = .ok (.putfield 28, 3) := by decide +kernel
theorem dX7_readRun_137 : decode cX7_readRun 137 = .ok (.goto (-125), 3) := by decide +kernel
theorem dX7_readRun_140 : decode cX7_readRun 140 = .ok (.aload_n 0, 1) := by decide +kernel
theorem dX7_readRun_141 : decode cX7_readRun 141 = .ok (.getfield 28, 3) := by decide +kernel
theorem dX7_readRun_144 : decode cX7_readRun 144 = .ok (.aload_n 0, 1) := by decide +kernel
theorem dX7_readRun_145 : decode cX7_readRun 145 = .ok (.getfield 37, 3) := by decide +kernel
theorem dX7_readRun_148 : decode cX7_readRun 148 = .ok (.isub, 1) := by decide +kernel
theorem dX7_readRun_149 : decode cX7_readRun 149 = .ok (.istore_n 2, 1) := by decide +kernel
theorem dX7_readRun_150 : decode cX7_readRun 150 = .ok (.iload_n 1, 1) := by decide +kernel
theorem dX7_readRun_151 : decode cX7_readRun 151 = .ok (.ifCond .ne 17, 3) := by decide +kernel
theorem dX7_readRun_154 : decode cX7_readRun 154 = .ok (.iload_n 2, 1) := by decide +kernel
theorem dX7_readRun_155 : decode cX7_readRun 155 = .ok (.bipush 7, 2) := by decide +kernel
theorem dX7_readRun_157 : decode cX7_readRun 157 = .ok (.if_icmp .gt 11, 3) := by decide +kernel
theorem dX7_readRun_160 : decode cX7_readRun 160 = .ok (.aload_n 0, 1) := by decide +kernel
theorem dX7_readRun_161 : decode cX7_readRun 161 = .ok (.iconst 1, 1) := by decide +kernel
theorem dX7_readRun_162 : decode cX7_readRun 162 = .ok (.putfield 40, 3) := by decide +kernel
theorem dX7_readRun_165 : decode cX7_readRun 165 = .ok (.goto 22, 3) := by decide +kernel
theorem dX7_readRun_168 : decode cX7_readRun 168 = .ok (.aload_n 0, 1) := by decide +kernel
theorem dX7_readRun_169 : decode cX7_readRun 169 = .ok (.iload_n 1, 1) := by decide +kernel
theorem dX7_readRun_170 : decode cX7_readRun 170 = .ok (.iload_n 2, 1) := by decide +kernel
theorem dX7_readRun_171 : decode cX7_readRun 171 = .ok (.if_icmp .ne 12, 3) := by decide +kernel
theorem dX7_readRun_174 : decode cX7_readRun 174 = .ok (.iload_n 2, 1) := by decide +kernel
theorem dX7_readRun_175 : decode cX7_readRun 175 = .ok (.iconst 3, 1) := by decide +kernel
theorem dX7_readRun_176 : decode cX7_readRun 176 = .ok (.if_icmp .gt 7, 3) := by decide +kernel
theorem dX7_readRun_179 : decode cX7_readRun 179 = .ok (.iconst 2, 1) := by decide +kernel
theorem dX7_readRun_180 : decode cX7_readRun 180 = .ok (.goto 4, 3) := by decide +kernel
theorem dX7_readRun_183 : decode cX7_readRun 183 = .ok (.iconst 0, 1) := by decide +kernel
theorem dX7_readRun_184 : decode cX7_readRun 184 = .ok (.putfield 40, 3) := by decide +kernel
theorem dX7_readRun_187 : decode cX7_readRun 187 = .ok (.return_, 1) := by decide +kernel
theorem dX7_isLetter_0 : decode cX7_isLetter 0 = .ok (.iload_n 0, 1) := by decide +kernel
theorem dX7_isLetter_1 : decode cX7_isLetter 1 = .ok (.bipush 97, 2) := by decide +kernel
theorem dX7_isLetter_3 : decode cX7_isLetter 3 = .ok (.if_icmp .lt 13, 3) := by decide +kernel
theorem dX7_isLetter_6 : decode cX7_isLetter 6 = .ok (.iload_n 0, 1) := by decide +kernel
theorem dX7_isLetter_7 : decode cX7_isLetter 7 = .ok (.bipush 122, 2) := by decide +kernel
theorem dX7_isLetter_9 : decode cX7_isLetter 9 = .ok (.if_icmp .gt 7, 3) := by decide +kernel
theorem dX7_isLetter_12 : decode cX7_isLetter 12 = .ok (.iconst 1, 1) := by decide +kernel
theorem dX7_isLetter_13 : decode cX7_isLetter 13 = .ok (.goto 4, 3) := by decide +kernel
theorem dX7_isLetter_16 : decode cX7_isLetter 16 = .ok (.iconst 0, 1) := by decide +kernel
theorem dX7_isLetter_17 : decode cX7_isLetter 17 = .ok (.ireturn, 1) := by decide +kernel
theorem dX7_isDigit_0 : decode cX7_isDigit 0 = .ok (.iload_n 0, 1) := by decide +kernel
theorem dX7_isDigit_1 : decode cX7_isDigit 1 = .ok (.bipush 48, 2) := by decide +kernel
theorem dX7_isDigit_3 : decode cX7_isDigit 3 = .ok (.if_icmp .lt 13, 3) := by decide +kernel
theorem dX7_isDigit_6 : decode cX7_isDigit 6 = .ok (.iload_n 0, 1) := by decide +kernel
theorem dX7_isDigit_7 : decode cX7_isDigit 7 = .ok (.bipush 57, 2) := by decide +kernel
theorem dX7_isDigit_9 : decode cX7_isDigit 9 = .ok (.if_icmp .gt 7, 3) := by decide +kernel
theorem dX7_isDigit_12 : decode cX7_isDigit 12 = .ok (.iconst 1, 1) := by decide +kernel
theorem dX7_isDigit_13 : decode cX7_isDigit 13 = .ok (.goto 4, 3) := by decide +kernel
theorem dX7_isDigit_16 : decode cX7_isDigit 16 = .ok (.iconst 0, 1) := by decide +kernel
theorem dX7_isDigit_17 : decode cX7_isDigit 17 = .ok (.ireturn, 1) := by decide +kernel
theorem dX7_isAtEnd_0 : decode cX7_isAtEnd 0 = .ok (.aload_n 0, 1) := by decide +kernel
theorem dX7_isAtEnd_1 : decode cX7_isAtEnd 1 = .ok (.getfield 40, 3) := by decide +kernel
theorem dX7_isAtEnd_4 : decode cX7_isAtEnd 4 = .ok (.iconst 5, 1) := by decide +kernel
theorem dX7_isAtEnd_5 : decode cX7_isAtEnd 5 = .ok (.if_icmp .eq 5, 3) := by decide +kernel
theorem dX7_isAtEnd_8 : decode cX7_isAtEnd 8 = .ok (.iconst 0, 1) := by decide +kernel
theorem dX7_isAtEnd_9 : decode cX7_isAtEnd 9 = .ok (.ireturn, 1) := by decide +kernel
theorem dX7_isAtEnd_10 : decode cX7_isAtEnd 10 = .ok (.aload_n 0, 1) := by decide +kernel
theorem dX7_isAtEnd_11 : decode cX7_isAtEnd 11 = .ok (.getfield 21, 3) := by decide +kernel
theorem dX7_isAtEnd_14 : decode cX7_isAtEnd 14 = .ok (.aload_n 0, 1) := by decide +kernel
theorem dX7_isAtEnd_15 : decode cX7_isAtEnd 15 = .ok (.getfield 25, 3) := by decide +kernel
theorem dX7_isAtEnd_18 : decode cX7_isAtEnd 18 = .ok (.if_icmp .le 13, 3) := by decide +kernel
theorem dX7_isAtEnd_21 : decode cX7_isAtEnd 21 = .ok (.aload_n 0, 1) := by decide +kernel
theorem dX7_isAtEnd_22 : decode cX7_isAtEnd 22 = .ok (.iconst 1, 1) := by decide +kernel
theorem dX7_isAtEnd_23 : decode cX7_isAtEnd 23 = .ok (.aload_n 0, 1) := by decide +kernel
theorem dX7_isAtEnd_24 : decode cX7_isAtEnd 24 = .ok (.getfield 25, 3) := by decide +kernel
theorem dX7_isAtEnd_27 : decode cX7_isAtEnd 27 = .ok (.invokevirtual 64, 3) := by decide +kernel
theorem dX7_isAtEnd_30 : decode cX7_isAtEnd 30 = .ok (.pop, 1) := by decide +kernel
theorem dX7_isAtEnd_31 : decode cX7_isAtEnd 31 = .ok (.iconst 1, 1) := by decide +kernel
theorem dX7_isAtEnd_32 : decode cX7_isAtEnd 32 = .ok (.ireturn, 1) := by decide +kernel
theorem dX7_keyword_0 : decode cX7_keyword 0 = .ok (.aload_n 0, 1) := by decide +kernel
theorem dX7_keyword_1 : decode cX7_keyword 1 = .ok (.getfield 40, 3) := by decide +kernel
theorem dX7_keyword_4 : decode cX7_keyword 4 = .ok (.iconst 1, 1) := by decide +kernel
theorem dX7_keyword_5 : decode cX7_keyword 5 = .ok (.if_icmp .eq 5, 3) := by decide +kernel
theorem dX7_keyword_8 : decode cX7_keyword 8 = .ok (.iconst (-1), 1) := by decide +kernel
theorem dX7_keyword_9 : decode cX7_keyword 9 = .ok (.ireturn, 1) := by decide +kernel
theorem dX7_keyword_10 : decode cX7_keyword 10 = .ok (.iconst 0, 1) := by decide +kernel
theorem dX7_keyword_11 : decode cX7_keyword 11 = .ok (.istore_n 1, 1) := by decide +kernel
theorem dX7_keyword_12 : decode cX7_keyword 12 = .ok (.iload_n 1, 1) := by decide +kernel
theorem dX7_keyword_13 : decode cX7_keyword 13 = .ok (.bipush 15, 2) := by decide +kernel
theorem dX7_keyword_15 : decode cX7_keyword 15 = .ok (.if_icmp .gt 19, 3) := by decide +kernel
theorem dX7_keyword_18 : decode cX7_keyword 18 = .ok (.aload_n 0, 1) := by decide +kernel
theorem dX7_keyword_19 : decode cX7_keyword 19 = .ok (.iload_n 1, 1) := by decide +kernel
theorem dX7_keyword_20 : decode cX7_keyword 20 = .ok (.invokevirtual 68, 3) := by decide +kernel
theorem dX7_keyword_23 : decode cX7_keyword 23 = .ok (.ifCond .eq 5, 3) := by decide +kernel
theorem dX7_keyword_26 : decode cX7_keyword 26 = .ok (.iload_n 1, 1) := by decide +kernel
theorem dX7_keyword_27 : decode cX7_keyword 27 = .ok (.ireturn, 1) := by decide +kernel
theorem dX7_keyword_28 : decode cX7_keyword 28 = .ok (.iinc 1 1, 3) := by decide +kernel
theorem dX7_keyword_31 : decode cX7_keyword 31 = .ok (.goto (-19), 3) := by decide +kernel
theorem dX7_keyword_34 : decode cX7_keyword 34 = .ok (.iconst (-1), 1) := by decide +kernel
theorem dX7_keyword_35 : decode cX7_keyword 35 = .ok (.ireturn, 1) := by decide +kernel
theorem dX7_isKeyword_0 : decode cX7_isKeyword 0 = .ok (.iconst 0, 1) := by decide +kernel
theorem dX7_isKeyword_1 : decode cX7_isKeyword 1 = .ok (.istore_n 2, 1) := by decide +kernel
theorem dX7_isKeyword_2 : decode cX7_isKeyword 2 = .ok (.iload_n 2, 1) := by decide +kernel
theorem dX7_isKeyword_3 : decode cX7_isKeyword 3 = .ok (.bipush 7, 2) := by decide +kernel
theorem dX7_isKeyword_5 : decode cX7_isKeyword 5 = .ok (.if_icmp .ge 56, 3) := by decide +kernel
theorem dX7_isKeyword_8 : decode cX7_isKeyword 8 = .ok (.aload_n 0, 1) := by decide +kernel
theorem dX7_isKeyword_9 : decode cX7_isKeyword 9 = .ok (.getfield 37, 3) := by decide +kernel
theorem dX7_isKeyword_12 : decode cX7_isKeyword 12 = .ok (.iload_n 2, 1) := by decide +kernel
theorem dX7_isKeyword_13 : decode cX7_isKeyword 13 = .ok (.iadd, 1) := by decide +kernel
theorem dX7_isKeyword_14 : decode cX7_isKeyword 14 = .ok (.aload_n 0, 1) := by decide +kernel
theorem dX7_isKeyword_15 : decode cX7_isKeyword 15 = .ok (.getfield 28, 3) := by decide +kernel
theorem dX7_isKeyword_18 : decode cX7_isKeyword 18 = .ok (.if_icmp .ge 17, 3) := by decide +kernel
theorem dX7_isKeyword_21 : decode cX7_isKeyword 21 = .ok (.aload_n 0, 1) := by decide +kernel
theorem dX7_isKeyword_22 : decode cX7_isKeyword 22 = .ok (.getfield 9, 3) := by decide +kernel
theorem dX7_isKeyword_25 : decode cX7_isKeyword 25 = .ok (.aload_n 0, 1) := by decide +kernel
theorem dX7_isKeyword_26 : decode cX7_isKeyword 26 = .ok (.getfield 37, 3) := by decide +kernel
theorem dX7_isKeyword_29 : decode cX7_isKeyword 29 = .ok (.iload_n 2, 1) := by decide +kernel
theorem dX7_isKeyword_30 : decode cX7_isKeyword 30 = .ok (.iadd, 1) := by decide +kernel
theorem dX7_isKeyword_31 : decode cX7_isKeyword 31 = .ok (.iaload, 1) := by decide +kernel
theorem dX7_isKeyword_32 : decode cX7_isKeyword 32 = .ok (.goto 5, 3) := by decide +kernel
theorem dX7_isKeyword_35 : decode cX7_isKeyword 35 = .ok (.bipush 32, 2) := by decide +kernel
theorem dX7_isKeyword_37 : decode cX7_isKeyword 37 = .ok (.istore_n 3, 1) := by decide +kernel
theorem dX7_isKeyword_38 : decode cX7_isKeyword 38 = .ok (.iload_n 3, 1) := by decide +kernel
theorem dX7_isKeyword_39 : decode cX7_isKeyword 39 = .ok (.ldc 71, 2) := by decide +kernel
theorem dX7_isKeyword_41 : decode cX7_isKeyword 41 = .ok (.bipush 7, 2) := by decide +kernel
theorem dX7_isKeyword_43 : decode cX7_isKeyword 43 = .ok (.iload_n 1, 1) := by decide +kernel
theorem dX7_isKeyword_44 : decode cX7_isKeyword 44 = .ok (.imul, 1) := by decide +kernel
theorem dX7_isKeyword_45 : decode cX7_isKeyword 45 = .ok (.iload_n 2, 1) := by decide +kernel
theorem dX7_isKeyword_46 : decode cX7_isKeyword 46 = .ok (.iadd, 1) := by decide +kernel
theorem dX7_isKeyword_47 : decode cX7_isKeyword 47 = .ok (.invokevirtual 73, 3) := by decide +kernel
theorem dX7_isKeyword_50 : decode cX7_isKeyword 50 = .ok (.if_icmp .eq 5, 3) := by decide +kernel
theorem dX7_isKeyword_53 : decode cX7_isKeyword 53 = .ok (.iconst 0, 1) := by decide +kernel
theorem dX7_isKeyword_54 : decode cX7_isKeyword 54 = .ok (.ireturn, 1) := by decide +kernel
theorem dX7_isKeyword_55 : decode cX7_isKeyword 55 = .ok (.iinc 2 1, 3) := by decide +kernel
theorem dX7_isKeyword_58 : decode cX7_isKeyword 58 = .ok (.goto (-56), 3) := by decide +kernel
theorem dX7_isKeyword_61 : decode cX7_isKeyword 61 = .ok (.iconst 1, 1) := by decide +kernel
theorem dX7_isKeyword_62 : decode cX7_isKeyword 62 = .ok (.ireturn, 1) := by decide +kernel
theorem dX7_failHere_0 : decode cX7_failHere 0 = .ok (.aload_n 0, 1) := by decide +kernel
theorem dX7_failHere_1 : decode cX7_failHere 1 = .ok (.iload_n 1, 1) := by decide +kernel
theorem dX7_failHere_2 : decode cX7_failHere 2 = .ok (.aload_n 0, 1) := by decide +kernel
theorem dX7_failHere_3 : decode cX7_failHere 3 = .ok (.getfield 37, 3) := by decide +kernel
theorem dX7_failHere_6 : decode cX7_failHere 6 = .ok (.invokevirtual 64, 3) := by decide +kernel
theorem dX7_failHere_9 : decode cX7_failHere 9 = .ok (.ireturn, 1) := by decide +kernel
theorem dX7_isNumber_0 : decode cX7_isNumber 0 = .ok (.aload_n 0, 1) := by decide +kernel
theorem dX7_isNumber_1 : decode cX7_isNumber 1 = .ok (.getfield 40, 3) := by decide +kernel
theorem dX7_isNumber_4 : decode cX7_isNumber 4 = .ok (.iconst 2, 1) := by decide +kernel
theorem dX7_isNumber_5 : decode cX7_isNumber 5 = .ok (.if_icmp .eq 9, 3) := by decide +kernel
theorem dX7_isNumber_8 : decode cX7_isNumber 8 = .ok (.aload_n 0, 1) := by decide +kernel
theorem dX7_isNumber_9 : decode cX7_isNumber 9 = .ok (.iconst 1, 1) := by decide +kernel
theorem dX7_isNumber_10 : decode cX7_isNumber 10 = .ok (.invokevirtual 79, 3) := by decide +kernel
theorem dX7_isNumber_13 : decode cX7_isNumber 13 = .ok (.ireturn, 1) := by decide +kernel
theorem dX7_isNumber_14 : decode cX7_isNumber 14 = .ok (.aload_n 0, 1) := by decide +kernel
theorem dX7_isNumber_15 : decode cX7_isNumber 15 = .ok (.getfield 57, 3) := by decide +kernel
theorem dX7_isNumber_18 : decode cX7_isNumber 18 = .ok (.iload_n 1, 1) := by decide +kernel
theorem dX7_isNumber_19 : decode cX7_isNumber 19 = .ok (.if_icmp .lt 11, 3) := by decide +kernel
theorem dX7_isNumber_22 : decode cX7_isNumber 22 = .ok (.aload_n 0, 1) := by decide +kernel
theorem dX7_isNumber_23 : decode cX7_isNumber 23 = .ok (.getfield 57, 3) := by decide +kernel
theorem dX7_isNumber_26 : decode cX7_isNumber 26 = .ok (.iload_n 2, 1) := by decide +kernel
theorem dX7_isNumber_27 : decode cX7_isNumber 27 = .ok (.if_icmp .le 11, 3) := by decide +kernel
theorem dX7_isNumber_30 : decode cX7_isNumber 30 = .ok (.aload_n 0, 1) := by decide +kernel
theorem dX7_isNumber_31 : decode cX7_isNumber 31 = .ok (.iconst 2, 1) := by decide +kernel
theorem dX7_isNumber_32 : decode cX7_isNumber 32 = .ok (.invokevirtual 79, 3) := by decide +kernel
theorem dX7_isNumber_35 : decode cX7_isNumber 35 = .ok (.ifCond .eq 7, 3) := by decide +kernel
theorem dX7_isNumber_38 : decode cX7_isNumber 38 = .ok (.iconst 1, 1) := by decide +kernel
theorem dX7_isNumber_39 : decode cX7_isNumber 39 = .ok (.goto 4, 3) := by decide +kernel
theorem dX7_isNumber_42 : decode cX7_isNumber 42 = .ok (.iconst 0, 1) := by decide +kernel
theorem dX7_isNumber_43 : decode cX7_isNumber 43 = .ok (.ireturn, 1) := by decide +kernel
theorem dX7_nextNumber_0 : decode cX7_nextNumber 0 = .ok (.aload_n 0, 1) := by decide +kernel
theorem dX7_nextNumber_1 : decode cX7_nextNumber 1 = .ok (.invokevirtual 82, 3) := by decide +kernel
theorem dX7_nextNumber_4 : decode cX7_nextNumber 4 = .ok (.aload_n 0, 1) := by decide +kernel
theorem dX7_nextNumber_5 : decode cX7_nextNumber 5 = .ok (.iload_n 1, 1) := by decide +kernel
theorem dX7_nextNumber_6 : decode cX7_nextNumber 6 = .ok (.iload_n 2, 1) := by decide +kernel
theorem dX7_nextNumber_7 : decode cX7_nextNumber 7 = .ok (.invokevirtual 85, 3) := by decide +kernel
theorem dX7_nextNumber_10 : decode cX7_nextNumber 10 = .ok (.ireturn, 1) := by decide +kernel
theorem dX7_isName_0 : decode cX7_isName 0 = .ok (.aload_n 0, 1) := by decide +kernel
theorem dX7_isName_1 : decode cX7_isName 1 = .ok (.getfield 40, 3) := by decide +kernel
theorem dX7_isName_4 : decode cX7_isName 4 = .ok (.iconst 1, 1) := by decide +kernel
theorem dX7_isName_5 : decode cX7_isName 5 = .ok (.if_icmp .ne 11, 3) := by decide +kernel
theorem dX7_isName_8 : decode cX7_isName 8 = .ok (.aload_n 0, 1) := by decide +kernel
theorem dX7_isName_9 : decode cX7_isName 9 = .ok (.invokevirtual 88, 3) := by decide +kernel
theorem dX7_isName_12 : decode cX7_isName 12 = .ok (.iconst (-1), 1) := by decide +kernel
theorem dX7_isName_13 : decode cX7_isName 13 = .ok (.if_icmp .eq 11, 3) := by decide +kernel
theorem dX7_isName_16 : decode cX7_isName 16 = .ok (.aload_n 0, 1) := by decide +kernel
theorem dX7_isName_17 : decode cX7_isName 17 = .ok (.iconst 1, 1) := by decide +kernel
theorem dX7_isName_18 : decode cX7_isName 18 = .ok (.invokevirtual 79, 3) := by decide +kernel
theorem dX7_isName_21 : decode cX7_isName 21 = .ok (.ifCond .eq 7, 3) := by decide +kernel
theorem dX7_isName_24 : decode cX7_isName 24 = .ok (.iconst 1, 1) := by decide +kernel
theorem dX7_isName_25 : decode cX7_isName 25 = .ok (.goto 4, 3) := by decide +kernel
theorem dX7_isName_28 : decode cX7_isName 28 = .ok (.iconst 0, 1) := by decide +kernel
theorem dX7_isName_29 : decode cX7_isName 29 = .ok (.ireturn, 1) := by decide +kernel
theorem dX7_nextName_0 : decode cX7_nextName 0 = .ok (.aload_n 0, 1) := by decide +kernel
theorem dX7_nextName_1 : decode cX7_nextName 1 = .ok (.invokevirtual 82, 3) := by decide +kernel
theorem dX7_nextName_4 : decode cX7_nextName 4 = .ok (.aload_n 0, 1) := by decide +kernel
theorem dX7_nextName_5 : decode cX7_nextName 5 = .ok (.invokevirtual 92, 3) := by decide +kernel
theorem dX7_nextName_8 : decode cX7_nextName 8 = .ok (.ireturn, 1) := by decide +kernel
theorem dX7_nextCloses_0 : decode cX7_nextCloses 0 = .ok (.aload_n 0, 1) := by decide +kernel
theorem dX7_nextCloses_1 : decode cX7_nextCloses 1 = .ok (.invokevirtual 82, 3) := by decide +kernel
theorem dX7_nextCloses_4 : decode cX7_nextCloses 4 = .ok (.aload_n 0, 1) := by decide +kernel
theorem dX7_nextCloses_5 : decode cX7_nextCloses 5 = .ok (.getfield 40, 3) := by decide +kernel
theorem dX7_nextCloses_8 : decode cX7_nextCloses 8 = .ok (.iconst 3, 1) := by decide +kernel
theorem dX7_nextCloses_9 : decode cX7_nextCloses 9 = .ok (.if_icmp .eq 11, 3) := by decide +kernel
theorem dX7_nextCloses_12 : decode cX7_nextCloses 12 = .ok (.aload_n 0, 1) := by decide +kernel
theorem dX7_nextCloses_13 : decode cX7_nextCloses 13 = .ok (.iconst 1, 1) := by decide +kernel
theorem dX7_nextCloses_14 : decode cX7_nextCloses 14 = .ok (.invokevirtual 79, 3) := by decide +kernel
theorem dX7_nextCloses_17 : decode cX7_nextCloses 17 = .ok (.ifCond .eq 7, 3) := by decide +kernel
theorem dX7_nextCloses_20 : decode cX7_nextCloses 20 = .ok (.iconst 1, 1) := by decide +kernel
theorem dX7_nextCloses_21 : decode cX7_nextCloses 21 = .ok (.goto 4, 3) := by decide +kernel
theorem dX7_nextCloses_24 : decode cX7_nextCloses 24 = .ok (.iconst 0, 1) := by decide +kernel
theorem dX7_nextCloses_25 : decode cX7_nextCloses 25 = .ok (.ireturn, 1) := by decide +kernel
theorem dX8_init_0 : decode cX8_init 0 = .ok (.aload_n 0, 1) := by decide +kernel
theorem dX8_init_1 : decode cX8_init 1 = .ok (.invokespecial 3, 3) := by decide +kernel
theorem dX8_init_4 : decode cX8_init 4 = .ok (.aload_n 0, 1) := by decide +kernel
theorem dX8_init_5 : decode cX8_init 5 = .ok (.bipush 20, 2) := by decide +kernel
theorem dX8_init_7 : decode cX8_init 7 = .ok (.newarray .int, 2) := by decide +kernel
theorem dX8_init_9 : decode cX8_init 9 = .ok (.putfield 9, 3) := by decide +kernel
theorem dX8_init_12 : decode cX8_init 12 = .ok (.aload_n 0, 1) := by decide +kernel
theorem dX8_init_13 : decode cX8_init 13 = .ok (.bipush 20, 2) := by decide +kernel
theorem dX8_init_15 : decode cX8_init 15 = .ok (.newarray .int, 2) := by decide +kernel
theorem dX8_init_17 : decode cX8_init 17 = .ok (.putfield 15, 3) := by decide +kernel
theorem dX8_init_20 : decode cX8_init 20 = .ok (.aload_n 0, 1) := by decide +kernel
theorem dX8_init_21 : decode cX8_init 21 = .ok (.bipush 20, 2) := by decide +kernel
theorem dX8_init_23 : decode cX8_init 23 = .ok (.newarray .int, 2) := by decide +kernel
theorem dX8_init_25 : decode cX8_init 25 = .ok (.putfield 18, 3) := by decide +kernel
theorem dX8_init_28 : decode cX8_init 28 = .ok (.aload_n 0, 1) := by decide +kernel
theorem dX8_init_29 : decode cX8_init 29 = .ok (.bipush 20, 2) := by decide +kernel
theorem dX8_init_31 : decode cX8_init 31 = .ok (.newarray .int, 2) := by decide +kernel
theorem dX8_init_33 : decode cX8_init 33 = .ok (.putfield 21, 3) := by decide +kernel
theorem dX8_init_36 : decode cX8_init 36 = .ok (.aload_n 0, 1) := by decide +kernel
theorem dX8_init_37 : decode cX8_init 37 = .ok (.bipush 20, 2) := by decide +kernel
theorem dX8_init_39 : decode cX8_init 39 = .ok (.newarray .int, 2) := by decide +kernel
theorem dX8_init_41 : decode cX8_init 41 = .ok (.putfield 24, 3) := by decide +kernel
theorem dX8_init_44 : decode cX8_init 44 = .ok (.aload_n 0, 1) := by decide +kernel
theorem dX8_init_45 : decode cX8_init 45 = .ok (.bipush 20, 2) := by decide +kernel
theorem dX8_init_47 : decode cX8_init 47 = .ok (.newarray .int, 2) := by decide +kernel
theorem dX8_init_49 : decode cX8_init 49 = .ok (.putfield 27, 3) := by decide +kernel
theorem dX8_init_52 : decode cX8_init 52 = .ok (.aload_n 0, 1) := by decide +kernel
theorem dX8_init_53 : decode cX8_init 53 = .ok (.bipush 20, 2) := by decide +kernel
theorem dX8_init_55 : decode cX8_init 55 = .ok (.newarray .int, 2) := by decide +kernel
theorem dX8_init_57 : decode cX8_init 57 = .ok (.putfield 30, 3) := by decide +kernel
theorem dX8_init_60 : decode cX8_init 60 = .ok (.aload_n 0, 1) := by decide +kernel
theorem dX8_init_61 : decode cX8_init 61 = .ok (.bipush 20, 2) := by decide +kernel
theorem dX8_init_63 : decode cX8_init 63 = .ok (.newarray .int, 2) := by decide +kernel
theorem dX8_init_65 : decode cX8_init 65 = .ok (.putfield 33, 3) := by decide +kernel
theorem dX8_init_68 : decode cX8_init 68 = .ok (.return_, 1) := by decide +kernel
theorem dX8_begin_0 : decode cX8_begin 0 = .ok (.aload_n 0, 1) := by decide +kernel
theorem dX8_begin_1 : decode cX8_begin 1 = .ok (.iconst 0, 1) := by decide +kernel
theorem dX8_begin_2 : decode cX8_begin 2 = .ok (.putfield 36, 3) := by decide +kernel
theorem dX8_begin_5 : decode cX8_begin 5 = .ok (.aload_n 0, 1) := by decide +kernel
theorem dX8_begin_6 : decode cX8_begin 6 = .ok (.iconst 0, 1) := by decide +kernel
theorem dX8_begin_7 : decode cX8_begin 7 = .ok (.putfield 40, 3) := by decide +kernel
theorem dX8_begin_10 : decode cX8_begin 10 = .ok (.aload_n 0, 1) := by decide +kernel
theorem dX8_begin_11 : decode cX8_begin 11 = .ok (.iconst 0, 1) := by decide +kernel
theorem dX8_begin_12 : decode cX8_begin 12 = .ok (.putfield 43, 3) := by decide +kernel
theorem dX8_begin_15 : decode cX8_begin 15 = .ok (.aload_n 0, 1) := by decide +kernel
theorem dX8_begin_16 : decode cX8_begin 16 = .ok (.iconst 0, 1) := by decide +kernel
theorem dX8_begin_17 : decode cX8_begin 17 = .ok (.putfield 46, 3) := by decide +kernel
theorem dX8_begin_20 : decode cX8_begin 20 = .ok (.aload_n 0, 1) := by decide +kernel
theorem dX8_begin_21 : decode cX8_begin 21 = .ok (.getfield 46, 3) := by decide +kernel
theorem dX8_begin_24 : decode cX8_begin 24 = .ok (.aload_n 1, 1) := by decide +kernel
theorem dX8_begin_25 : decode cX8_begin 25 = .ok (.getfield 49, 3) := by decide +kernel
theorem dX8_begin_28 : decode cX8_begin 28 = .ok (.if_icmp .ge 27, 3) := by decide +kernel
theorem dX8_begin_31 : decode cX8_begin 31 = .ok (.aload_n 1, 1) := by decide +kernel
theorem dX8_begin_32 : decode cX8_begin 32 = .ok (.aload_n 0, 1) := by decide +kernel
theorem dX8_begin_33 : decode cX8_begin 33 = .ok (.getfield 46, 3) := by decide +kernel
theorem dX8_begin_36 : decode cX8_begin 36 = .ok (.invokevirtual 54, 3) := by decide +kernel
theorem dX8_begin_39 : decode cX8_begin 39 = .ok (.ifCond .gt 16, 3) := by decide +kernel
theorem dX8_begin_42 : decode cX8_begin 42 = .ok (.aload_n 0, 1) := by decide +kernel
theorem dX8_begin_43 : decode cX8_begin 43 = .ok (.dup, 1) := by decide +kernel
theorem dX8_begin_44 : decode cX8_begin 44 = .ok (.getfield 46, 3) := by decide +kernel
theorem dX8_begin_47 : decode cX8_begin 47 = .ok (.iconst 1, 1) := by decide +kernel
theorem dX8_begin_48 : decode cX8_begin 48 = .ok (.iadd, 1) := by decide +kernel
theorem dX8_begin_49 : decode cX8_begin 49 = .ok (.putfield 46, 3) := by decide +kernel
theorem dX8_begin_52 : decode cX8_begin 52 = .ok (.goto (-32), 3) := by decide +kernel
theorem dX8_begin_55 : decode cX8_begin 55 = .ok (.iconst 0, 1) := by decide +kernel
theorem dX8_begin_56 : decode cX8_begin 56 = .ok (.istore_n 2, 1) := by decide +kernel
theorem dX8_begin_57 : decode cX8_begin 57 = .ok (.iload_n 2, 1) := by decide +kernel
theorem dX8_begin_58 : decode cX8_begin 58 = .ok (.aload_n 1, 1) := by decide +kernel
theorem dX8_begin_59 : decode cX8_begin 59 = .ok (.getfield 58, 3) := by decide +kernel
theorem dX8_begin_62 : decode cX8_begin 62 = .ok (.if_icmp .ge 21, 3) := by decide +kernel
theorem dX8_begin_65 : decode cX8_begin 65 = .ok (.aload_n 0, 1) := by decide +kernel
theorem dX8_begin_66 : decode cX8_begin 66 = .ok (.iload_n 2, 1) := by decide +kernel
theorem dX8_begin_67 : decode cX8_begin 67 = .ok (.aload_n 1, 1) := by decide +kernel
theorem dX8_begin_68 : decode cX8_begin 68 = .ok (.getfield 61, 3) := by decide +kernel
theorem dX8_begin_71 : decode cX8_begin 71 = .ok (.iload_n 2, 1) := by decide +kernel
theorem dX8_begin_72 : decode cX8_begin 72 = .ok (.iaload, 1) := by decide +kernel
theorem dX8_begin_73 : decode cX8_begin 73 = .ok (.aload_n 1, 1) := by decide +kernel
theorem dX8_begin_74 : decode cX8_begin 74 = .ok (.invokevirtual 64, 3) := by decide +kernel
theorem dX8_begin_77 : decode cX8_begin 77 = .ok (.iinc 2 1, 3) := by decide +kernel
theorem dX8_begin_80 : decode cX8_begin 80 = .ok (.goto (-23), 3) := by decide +kernel
theorem dX8_begin_83 : decode cX8_begin 83 = .ok (.return_, 1) := by decide +kernel
theorem dX8_copyFrom_0 : decode cX8_copyFrom 0 = .ok (.aload_n 1, 1) := by decide +kernel
theorem dX8_copyFrom_1 : decode cX8_copyFrom 1 = .ok (.getfield 9, 3) := by decide +kernel
theorem dX8_copyFrom_4 : decode cX8_copyFrom 4 = .ok (.iconst 0, 1) := by decide +kernel
theorem dX8_copyFrom_5 : decode cX8_copyFrom 5 = .ok (.aload_n 0, 1) := by decide +kernel
theorem dX8_copyFrom_6 : decode cX8_copyFrom 6 = .ok (.getfield 9, 3) := by decide +kernel
theorem dX8_copyFrom_9 : decode cX8_copyFrom 9 = .ok (.iconst 0, 1) := by decide +kernel
theorem dX8_copyFrom_10 : decode cX8_copyFrom 10 = .ok (.bipush 20, 2) := by decide +kernel
theorem dX8_copyFrom_12 : decode cX8_copyFrom 12 = .ok (.invokestatic 68, 3) := by decide +kernel
theorem dX8_copyFrom_15 : decode cX8_copyFrom 15 = .ok (.aload_n 1, 1) := by decide +kernel
theorem dX8_copyFrom_16 : decode cX8_copyFrom 16 = .ok (.getfield 15, 3) := by decide +kernel
theorem dX8_copyFrom_19 : decode cX8_copyFrom 19 = .ok (.iconst 0, 1) := by decide +kernel
theorem dX8_copyFrom_20 : decode cX8_copyFrom 20 = .ok (.aload_n 0, 1) := by decide +kernel
theorem dX8_copyFrom_21 : decode cX8_copyFrom 21 = .ok (.getfield 15, 3) := by decide +kernel
theorem dX8_copyFrom_24 : decode cX8_copyFrom 24 = .ok (.iconst 0, 1) := by decide +kernel
theorem dX8_copyFrom_25 : decode cX8_copyFrom 25 = .ok (.bipush 20, 2) := by decide +kernel
theorem dX8_copyFrom_27 : decode cX8_copyFrom 27 = .ok (.invokestatic 68, 3) := by decide +kernel
theorem dX8_copyFrom_30 : decode cX8_copyFrom 30 = .ok (.aload_n 1, 1) := by decide +kernel
theorem dX8_copyFrom_31 : decode cX8_copyFrom 31 = .ok (.getfield 18, 3) := by decide +kernel
theorem dX8_copyFrom_34 : decode cX8_copyFrom 34 = .ok (.iconst 0, 1) := by decide +kernel
theorem dX8_copyFrom_35 : decode cX8_copyFrom 35 = .ok (.aload_n 0, 1) := by decide +kernel
theorem dX8_copyFrom_36 : decode cX8_copyFrom 36 = .ok (.getfield 18, 3) := by decide +kernel
theorem dX8_copyFrom_39 : decode cX8_copyFrom 39 = .ok (.iconst 0, 1) := by decide +kernel
theorem dX8_copyFrom_40 : decode cX8_copyFrom 40 = .ok (.bipush 20, 2) := by decide +kernel
theorem dX8_copyFrom_42 : decode cX8_copyFrom 42 = .ok (.invokestatic 68, 3) := by decide +kernel
theorem dX8_copyFrom_45 : decode cX8_copyFrom 45 = .ok (.aload_n 1, 1) := by decide +kernel
theorem dX8_copyFrom_46 : decode cX8_copyFrom 46 = .ok (.getfield 21, 3) := by decide +kernel
theorem dX8_copyFrom_49 : decode cX8_copyFrom 49 = .ok (.iconst 0, 1) := by decide +kernel
theorem dX8_copyFrom_50 : decode cX8_copyFrom 50 = .ok (.aload_n 0, 1) := by decide +kernel
theorem dX8_copyFrom_51 : decode cX8_copyFrom 51 = .ok (.getfield 21, 3) := by decide +kernel
theorem dX8_copyFrom_54 : decode cX8_copyFrom 54 = .ok (.iconst 0, 1) := by decide +kernel
theorem dX8_copyFrom_55 : decode cX8_copyFrom 55 = .ok (.bipush 20, 2) := by decide +kernel
theorem dX8_copyFrom_57 : decode cX8_copyFrom 57 = .ok (.invokestatic 68, 3) := by decide +kernel
theorem dX8_copyFrom_60 : decode cX8_copyFrom 60 = .ok (.aload_n 1, 1) := by decide +kernel
theorem dX8_copyFrom_61 : decode cX8_copyFrom 61 = .ok (.getfield 24, 3) := by decide +kernel
theorem dX8_copyFrom_64 : decode cX8_copyFrom 64 = .ok (.iconst 0, 1) := by decide +kernel
theorem dX8_copyFrom_65 : decode cX8_copyFrom 65 = .ok (.aload_n 0, 1) := by decide +kernel
theorem dX8_copyFrom_66 : decode cX8_copyFrom 66 = .ok (.getfield 24, 3) := by decide +kernel
theorem dX8_copyFrom_69 : decode cX8_copyFrom 69 = .ok (.iconst 0, 1) := by decide +kernel
theorem dX8_copyFrom_70 : decode cX8_copyFrom 70 = .ok (.bipush 20, 2) := by decide +kernel
theorem dX8_copyFrom_72 : decode cX8_copyFrom 72 = .ok (.invokestatic 68, 3) := by decide +kernel
theorem dX8_copyFrom_75 : decode cX8_copyFrom 75 = .ok (.aload_n 1, 1) := by decide +kernel
theorem dX8_copyFrom_76 : decode cX8_copyFrom 76 = .ok (.getfield 27, 3) := by decide +kernel
theorem dX8_copyFrom_79 : decode cX8_copyFrom 79 = .ok (.iconst 0, 1) := by decide +kernel
theorem dX8_copyFrom_80 : decode cX8_copyFrom 80 = .ok (.aload_n 0, 1) := by decide +kernel
theorem dX8_copyFrom_81 : decode cX8_copyFrom 81 = .ok (.getfield 27, 3) := by decide +kernel
theorem dX8_copyFrom_84 : decode cX8_copyFrom 84 = .ok (.iconst 0, 1) := by decide +kernel
theorem dX8_copyFrom_85 : decode cX8_copyFrom 85 = .ok (.bipush 20, 2) := by decide +kernel
theorem dX8_copyFrom_87 : decode cX8_copyFrom 87 = .ok (.invokestatic 68, 3) := by decide +kernel
theorem dX8_copyFrom_90 : decode cX8_copyFrom 90 = .ok (.aload_n 1, 1) := by decide +kernel
theorem dX8_copyFrom_91 : decode cX8_copyFrom 91 = .ok (.getfield 30, 3) := by decide +kernel
theorem dX8_copyFrom_94 : decode cX8_copyFrom 94 = .ok (.iconst 0, 1) := by decide +kernel
theorem dX8_copyFrom_95 : decode cX8_copyFrom 95 = .ok (.aload_n 0, 1) := by decide +kernel
theorem dX8_copyFrom_96 : decode cX8_copyFrom 96 = .ok (.getfield 30, 3) := by decide +kernel
theorem dX8_copyFrom_99 : decode cX8_copyFrom 99 = .ok (.iconst 0, 1) := by decide +kernel
theorem dX8_copyFrom_100 : decode cX8_copyFrom 100 = .ok (.bipush 20, 2) := by decide +kernel
theorem dX8_copyFrom_102 : decode cX8_copyFrom 102 = .ok (.invokestatic 68, 3) := by decide +kernel
theorem dX8_copyFrom_105 : decode cX8_copyFrom 105 = .ok (.aload_n 0, 1) := by decide +kernel
theorem dX8_copyFrom_106 : decode cX8_copyFrom 106 = .ok (.aload_n 1, 1) := by decide +kernel
theorem dX8_copyFrom_107 : decode cX8_copyFrom 107 = .ok (.getfield 36, 3) := by decide +kernel
theorem dX8_copyFrom_110 : decode cX8_copyFrom 110 = .ok (.putfield 36, 3) := by decide +kernel
theorem dX8_copyFrom_113 : decode cX8_copyFrom 113 = .ok (.aload_n 0, 1) := by decide +kernel
theorem dX8_copyFrom_114 : decode cX8_copyFrom 114 = .ok (.aload_n 1, 1) := by decide +kernel
theorem dX8_copyFrom_115 : decode cX8_copyFrom 115 = .ok (.getfield 40, 3) := by decide +kernel
theorem dX8_copyFrom_118 : decode cX8_copyFrom 118 = .ok (.putfield 40, 3) := by decide +kernel
theorem dX8_copyFrom_121 : decode cX8_copyFrom 121 = .ok (.aload_n 0, 1) := by decide +kernel
theorem dX8_copyFrom_122 : decode cX8_copyFrom 122 = .ok (.aload_n 1, 1) := by decide +kernel
theorem dX8_copyFrom_123 : decode cX8_copyFrom 123 = .ok (.getfield 43, 3) := by decide +kernel
theorem dX8_copyFrom_126 : decode cX8_copyFrom 126 = .ok (.putfield 43, 3) := by decide +kernel
theorem dX8_copyFrom_129 : decode cX8_copyFrom 129 = .ok (.aload_n 0, 1) := by decide +kernel
theorem dX8_copyFrom_130 : decode cX8_copyFrom 130 = .ok (.aload_n 1, 1) := by decide +kernel
theorem dX8_copyFrom_131 : decode cX8_copyFrom 131 = .ok (.getfield 46, 3) := by decide +kernel
theorem dX8_copyFrom_134 : decode cX8_copyFrom 134 = .ok (.putfield 46, 3) := by decide +kernel
theorem dX8_copyFrom_137 : decode cX8_copyFrom 137 = .ok (.return_, 1) := by decide +kernel
theorem dX8_insert_0 : decode cX8_insert 0 = .ok (.aload_n 0, 1) := by decide +kernel
theorem dX8_insert_1 : decode cX8_insert 1 = .ok (.getfield 36, 3) := by decide +kernel
theorem dX8_insert_4 : decode cX8_insert 4 = .ok (.bipush 20, 2) := by decide +kernel
theorem dX8_insert_6 : decode cX8_insert 6 = .ok (.if_icmp .ge 15, 3) := by decide +kernel
theorem dX8_insert_9 : decode cX8_insert 9 = .ok (.iload_n 1, 1) := by decide +kernel
theorem dX8_insert_10 : decode cX8_insert 10 = .ok (.ifCond .lt 11, 3) := by decide +kernel
theorem dX8_insert_13 : decode cX8_insert 13 = .ok (.iload_n 1, 1) := by decide +kernel
theorem dX8_insert_14 : decode cX8_insert 14 = .ok (.aload_n 0, 1) := by decide +kernel
theorem dX8_insert_15 : decode cX8_insert 15 = .ok (.getfield 36, 3) := by decide +kernel
theorem dX8_insert_18 : decode cX8_insert 18 = .ok (.if_icmp .le 4, 3) := by decide +kernel
theorem dX8_insert_21 : decode cX8_insert 21 = .ok (.return_, 1) := by decide +kernel
theorem dX8_insert_22 : decode cX8_insert 22 = .ok (.aload_n 0, 1) := by decide +kernel
theorem dX8_insert_23 : decode cX8_insert 23 = .ok (.aload_n 0, 1) := by decide +kernel
theorem dX8_insert_24 : decode cX8_insert 24 = .ok (.getfield 9, 3) := by decide +kernel
theorem dX8_insert_27 : decode cX8_insert 27 = .ok (.iload_n 1, 1) := by decide +kernel
theorem dX8_insert_28 : decode cX8_insert 28 = .ok (.invokevirtual 74, 3) := by decide +kernel
theorem dX8_insert_31 : decode cX8_insert 31 = .ok (.aload_n 0, 1) := by decide +kernel
theorem dX8_insert_32 : decode cX8_insert 32 = .ok (.aload_n 0, 1) := by decide +kernel
theorem dX8_insert_33 : decode cX8_insert 33 = .ok (.getfield 15, 3) := by decide +kernel
theorem dX8_insert_36 : decode cX8_insert 36 = .ok (.iload_n 1, 1) := by decide +kernel
theorem dX8_insert_37 : decode cX8_insert 37 = .ok (.invokevirtual 74, 3) := by decide +kernel
theorem dX8_insert_40 : decode cX8_insert 40 = .ok (.aload_n 0, 1) := by decide +kernel
theorem dX8_insert_41 : decode cX8_insert 41 = .ok (.aload_n 0, 1) := by decide +kernel
theorem dX8_insert_42 : decode cX8_insert 42 = .ok (.getfield 18, 3) := by decide +kernel
theorem dX8_insert_45 : decode cX8_insert 45 = .ok (.iload_n 1, 1) := by decide +kernel
theorem dX8_insert_46 : decode cX8_insert 46 = .ok (.invokevirtual 74, 3) := by decide +kernel
theorem dX8_insert_49 : decode cX8_insert 49 = .ok (.aload_n 0, 1) := by decide +kernel
theorem dX8_insert_50 : decode cX8_insert 50 = .ok (.aload_n 0, 1) := by decide +kernel
theorem dX8_insert_51 : decode cX8_insert 51 = .ok (.getfield 21, 3) := by decide +kernel
theorem dX8_insert_54 : decode cX8_insert 54 = .ok (.iload_n 1, 1) := by decide +kernel
theorem dX8_insert_55 : decode cX8_insert 55 = .ok (.invokevirtual 74, 3) := by decide +kernel
theorem dX8_insert_58 : decode cX8_insert 58 = .ok (.aload_n 0, 1) := by decide +kernel
theorem dX8_insert_59 : decode cX8_insert 59 = .ok (.aload_n 0, 1) := by decide +kernel
theorem dX8_insert_60 : decode cX8_insert 60 = .ok (.getfield 24, 3) := by decide +kernel
theorem dX8_insert_63 : decode cX8_insert 63 = .ok (.iload_n 1, 1) := by decide +kernel
theorem dX8_insert_64 : decode cX8_insert 64 = .ok (.invokevirtual 74, 3) := by decide +kernel
theorem dX8_insert_67 : decode cX8_insert 67 = .ok (.aload_n 0, 1) := by decide +kernel
theorem dX8_insert_68 : decode cX8_insert 68 = .ok (.aload_n 0, 1) := by decide +kernel
theorem dX8_insert_69 : decode cX8_insert 69 = .ok (.getfield 27, 3) := by decide +kernel
theorem dX8_insert_72 : decode cX8_insert 72 = .ok (.iload_n 1, 1) := by decide +kernel
theorem dX8_insert_73 : decode cX8_insert 73 = .ok (.invokevirtual 74, 3) := by decide +kernel
theorem dX8_insert_76 : decode cX8_insert 76 = .ok (.aload_n 0, 1) := by decide +kernel
theorem dX8_insert_77 : decode cX8_insert 77 = .ok (.aload_n 0, 1) := by decide +kernel
theorem dX8_insert_78 : decode cX8_insert 78 = .ok (.getfield 30, 3) := by decide +kernel
theorem dX8_insert_81 : decode cX8_insert 81 = .ok (.iload_n 1, 1) := by decide +kernel
theorem dX8_insert_82 : decode cX8_insert 82 = .ok (.invokevirtual 74, 3) := by decide +kernel
theorem dX8_insert_85 : decode cX8_insert 85 = .ok (.aload_n 0, 1) := by decide +kernel
theorem dX8_insert_86 : decode cX8_insert 86 = .ok (.getfield 9, 3) := by decide +kernel
theorem dX8_insert_89 : decode cX8_insert 89 = .ok (.iload_n 1, 1) := by decide +kernel
theorem dX8_insert_90 : decode cX8_insert 90 = .ok (.iload_n 2, 1) := by decide +kernel
theorem dX8_insert_91 : decode cX8_insert 91 = .ok (.iastore, 1) := by decide +kernel
theorem dX8_insert_92 : decode cX8_insert 92 = .ok (.aload_n 0, 1) := by decide +kernel
theorem dX8_insert_93 : decode cX8_insert 93 = .ok (.getfield 15, 3) := by decide +kernel
theorem dX8_insert_96 : decode cX8_insert 96 = .ok (.iload_n 1, 1) := by decide +kernel
theorem dX8_insert_97 : decode cX8_insert 97 = .ok (.aload_n 3, 1) := by decide +kernel
theorem dX8_insert_98 : decode cX8_insert 98 = .ok (.iload_n 2, 1) := by decide +kernel
theorem dX8_insert_99 : decode cX8_insert 99 = .ok (.invokevirtual 78, 3) := by decide +kernel
theorem dX8_insert_102 : decode cX8_insert 102 = .ok (.iastore, 1) := by decide +kernel
theorem dX8_insert_103 : decode cX8_insert 103 = .ok (.aload_n 0, 1) := by decide +kernel
theorem dX8_insert_104 : decode cX8_insert 104 = .ok (.getfield 18, 3) := by decide +kernel
theorem dX8_insert_107 : decode cX8_insert 107 = .ok (.iload_n 1, 1) := by decide +kernel
theorem dX8_insert_108 : decode cX8_insert 108 = .ok (.aload_n 3, 1) := by decide +kernel
theorem dX8_insert_109 : decode cX8_insert 109 = .ok (.iload_n 2, 1) := by decide +kernel
theorem dX8_insert_110 : decode cX8_insert 110 = .ok (.invokevirtual 81, 3) := by decide +kernel
theorem dX8_insert_113 : decode cX8_insert 113 = .ok (.iastore, 1) := by decide +kernel
theorem dX8_insert_114 : decode cX8_insert 114 = .ok (.aload_n 0, 1) := by decide +kernel
theorem dX8_insert_115 : decode cX8_insert 115 = .ok (.getfield 21, 3) := by decide +kernel
theorem dX8_insert_118 : decode cX8_insert 118 = .ok (.iload_n 1, 1) := by decide +kernel
theorem dX8_insert_119 : decode cX8_insert 119 = .ok (.aload_n 3, 1) := by decide +kernel
theorem dX8_insert_120 : decode cX8_insert 120 = .ok (.iload_n 2, 1) := by decide +kernel
theorem dX8_insert_121 : decode cX8_insert 121 = .ok (.invokevirtual 84, 3) := by decide +kernel
theorem dX8_insert_124 : decode cX8_insert 124 = .ok (.iastore, 1) := by decide +kernel
theorem dX8_insert_125 : decode cX8_insert 125 = .ok (.aload_n 0, 1) := by decide +kernel
theorem dX8_insert_126 : decode cX8_insert 126 = .ok (.dup, 1) := by decide +kernel
theorem dX8_insert_127 : decode cX8_insert 127 = .ok (.getfield 36, 3) := by decide +kernel
theorem dX8_insert_130 : decode cX8_insert 130 = .ok (.iconst 1, 1) := by decide +kernel
theorem dX8_insert_131 : decode cX8_insert 131 = .ok (.iadd, 1) := by decide +kernel
theorem dX8_insert_132 : decode cX8_insert 132 = .ok (.putfield 36, 3) := by decide +kernel
theorem dX8_insert_135 : decode cX8_insert 135 = .ok (.aload_n 0, 1) := by decide +kernel
theorem dX8_insert_136 : decode cX8_insert 136 = .ok (.dup, 1) := by decide +kernel
theorem dX8_insert_137 : decode cX8_insert 137 = .ok (.getfield 40, 3) := by decide +kernel
theorem dX8_insert_140 : decode cX8_insert 140 = .ok (.aload_n 0, 1) := by decide +kernel
theorem dX8_insert_141 : decode cX8_insert 141 = .ok (.getfield 15, 3) := by decide +kernel
theorem dX8_insert_144 : decode cX8_insert 144 = .ok (.iload_n 1, 1) := by decide +kernel
theorem dX8_insert_145 : decode cX8_insert 145 = .ok (.iaload, 1) := by decide +kernel
theorem dX8_insert_146 : decode cX8_insert 146 = .ok (.iadd, 1) := by decide +kernel
theorem dX8_insert_147 : decode cX8_insert 147 = .ok (.putfield 40, 3) := by decide +kernel
theorem dX8_insert_150 : decode cX8_insert 150 = .ok (.return_, 1) := by decide +kernel
theorem dX8_openPlace_0 : decode cX8_openPlace 0 = .ok (.aload_n 0, 1) := by decide +kernel
theorem dX8_openPlace_1 : decode cX8_openPlace 1 = .ok (.getfield 36, 3) := by decide +kernel
theorem dX8_openPlace_4 : decode cX8_openPlace 4 = .ok (.istore_n 3, 1) := by decide +kernel
theorem dX8_openPlace_5 : decode cX8_openPlace 5 = .ok (.iload_n 3, 1) := by decide +kernel
theorem dX8_openPlace_6 : decode cX8_openPlace 6 = .ok (.iload_n 2, 1) := by decide +kernel
theorem dX8_openPlace_7 : decode cX8_openPlace 7 = .ok (.if_icmp .le 17, 3) := by decide +kernel
theorem dX8_openPlace_10 : decode cX8_openPlace 10 = .ok (.aload_n 1, 1) := by decide +kernel
theorem dX8_openPlace_11 : decode cX8_openPlace 11 = .ok (.iload_n 3, 1) := by decide +kernel
theorem dX8_openPlace_12 : decode cX8_openPlace 12 = .ok (.aload_n 1, 1) := by decide +kernel
theorem dX8_openPlace_13 : decode cX8_openPlace 13 = .ok (.iload_n 3, 1) := by decide +kernel
theorem dX8_openPlace_14 : decode cX8_openPlace 14 = .ok (.iconst 1, 1) := by decide +kernel
theorem dX8_openPlace_15 : decode cX8_openPlace 15 = .ok (.isub, 1) := by decide +kernel
theorem dX8_openPlace_16 : decode cX8_openPlace 16 = .ok (.iaload, 1) := by decide +kernel
theorem dX8_openPlace_17 : decode cX8_openPlace 17 = .ok (.iastore, 1) := by decide +kernel
theorem dX8_openPlace_18 : decode cX8_openPlace 18 = .ok (.iinc 3 (-1), 3) := by decide +kernel
theorem dX8_openPlace_21 : decode cX8_openPlace 21 = .ok (.goto (-16), 3) := by decide +kernel
theorem dX8_openPlace_24 : decode cX8_openPlace 24 = .ok (.aload_n 1, 1) := by decide +kernel
theorem dX8_openPlace_25 : decode cX8_openPlace 25 = .ok (.iload_n 2, 1) := by decide +kernel
theorem dX8_openPlace_26 : decode cX8_openPlace 26 = .ok (.iconst 0, 1) := by decide +kernel
theorem dX8_openPlace_27 : decode cX8_openPlace 27 = .ok (.iastore, 1) := by decide +kernel
theorem dX8_openPlace_28 : decode cX8_openPlace 28 = .ok (.return_, 1) := by decide +kernel
theorem dX8_dropFrom_0 : decode cX8_dropFrom 0 = .ok (.iload_n 1, 1) := by decide +kernel
theorem dX8_dropFrom_1 : decode cX8_dropFrom 1 = .ok (.iconst 0, 1) := by decide +kernel
theorem dX8_dropFrom_2 : decode cX8_dropFrom 2 = .ok (.invokestatic 87, 3) := by decide +kernel
theorem dX8_dropFrom_5 : decode cX8_dropFrom 5 = .ok (.istore_n 2, 1) := by decide +kernel
theorem dX8_dropFrom_6 : decode cX8_dropFrom 6 = .ok (.iload_n 2, 1) := by decide +kernel
theorem dX8_dropFrom_7 : decode cX8_dropFrom 7 = .ok (.aload_n 0, 1) := by decide +kernel
theorem dX8_dropFrom_8 : decode cX8_dropFrom 8 = .ok (.getfield 36, 3) := by decide +kernel
theorem dX8_dropFrom_11 : decode cX8_dropFrom 11 = .ok (.if_icmp .ge 24, 3) := by decide +kernel
theorem dX8_dropFrom_14 : decode cX8_dropFrom 14 = .ok (.aload_n 0, 1) := by decide +kernel
theorem dX8_dropFrom_15 : decode cX8_dropFrom 15 = .ok (.dup, 1) := by decide +kernel
theorem dX8_dropFrom_16 : decode cX8_dropFrom 16 = .ok (.getfield 40, 3) := by decide +kernel
theorem dX8_dropFrom_19 : decode cX8_dropFrom 19 = .ok (.aload_n 0, 1) := by decide +kernel
theorem dX8_dropFrom_20 : decode cX8_dropFrom 20 = .ok (.getfield 15, 3) := by decide +kernel
theorem dX8_dropFrom_23 : decode cX8_dropFrom 23 = .ok (.iload_n 2, 1) := by decide +kernel
theorem dX8_dropFrom_24 : decode cX8_dropFrom 24 = .ok (.iaload, 1) := by decide +kernel
theorem dX8_dropFrom_25 : decode cX8_dropFrom 25 = .ok (.isub, 1) := by decide +kernel
theorem dX8_dropFrom_26 : decode cX8_dropFrom 26 = .ok (.putfield 40, 3) := by decide +kernel
theorem dX8_dropFrom_29 : decode cX8_dropFrom 29 = .ok (.iinc 2 1, 3) := by decide +kernel
theorem dX8_dropFrom_32 : decode cX8_dropFrom 32 = .ok (.goto (-26), 3) := by decide +kernel
theorem dX8_dropFrom_35 : decode cX8_dropFrom 35 = .ok (.aload_n 0, 1) := by decide +kernel
theorem dX8_dropFrom_36 : decode cX8_dropFrom 36 = .ok (.aload_n 0, 1) := by decide +kernel
theorem dX8_dropFrom_37 : decode cX8_dropFrom 37 = .ok (.getfield 36, 3) := by decide +kernel
theorem dX8_dropFrom_40 : decode cX8_dropFrom 40 = .ok (.iload_n 1, 1) := by decide +kernel
theorem dX8_dropFrom_41 : decode cX8_dropFrom 41 = .ok (.iconst 0, 1) := by decide +kernel
theorem dX8_dropFrom_42 : decode cX8_dropFrom 42 = .ok (.invokestatic 87, 3) := by decide +kernel
theorem dX8_dropFrom_45 : decode cX8_dropFrom 45 = .ok (.invokestatic 93, 3) := by decide +kernel
theorem dX8_dropFrom_48 : decode cX8_dropFrom 48 = .ok (.putfield 36, 3) := by decide +kernel
theorem dX8_dropFrom_51 : decode cX8_dropFrom 51 = .ok (.return_, 1) := by decide +kernel
theorem dX8_arrive_0 : decode cX8_arrive 0 = .ok (.aload_n 0, 1) := by decide +kernel
theorem dX8_arrive_1 : decode cX8_arrive 1 = .ok (.getfield 46, 3) := by decide +kernel
theorem dX8_arrive_4 : decode cX8_arrive 4 = .ok (.aload_n 1, 1) := by decide +kernel
theorem dX8_arrive_5 : decode cX8_arrive 5 = .ok (.getfield 49, 3) := by decide +kernel
theorem dX8_arrive_8 : decode cX8_arrive 8 = .ok (.if_icmp .ge 18, 3) := by decide +kernel
theorem dX8_arrive_11 : decode cX8_arrive 11 = .ok (.aload_n 1, 1) := by decide +kernel
theorem dX8_arrive_12 : decode cX8_arrive 12 = .ok (.aload_n 0, 1) := by decide +kernel
theorem dX8_arrive_13 : decode cX8_arrive 13 = .ok (.getfield 46, 3) := by decide +kernel
theorem dX8_arrive_16 : decode cX8_arrive 16 = .ok (.invokevirtual 54, 3) := by decide +kernel
theorem dX8_arrive_19 : decode cX8_arrive 19 = .ok (.aload_n 0, 1) := by decide +kernel
theorem dX8_arrive_20 : decode cX8_arrive 20 = .ok (.getfield 43, 3) := by decide +kernel
theorem dX8_arrive_23 : decode cX8_arrive 23 = .ok (.if_icmp .eq 5, 3) := by decide +kernel
theorem dX8_arrive_26 : decode cX8_arrive 26 = .ok (.iconst (-1), 1) := by decide +kernel
theorem dX8_arrive_27 : decode cX8_arrive 27 = .ok (.ireturn, 1) := by decide +kernel
theorem dX8_arrive_28 : decode cX8_arrive 28 = .ok (.aload_n 0, 1) := by decide +kernel
theorem dX8_arrive_29 : decode cX8_arrive 29 = .ok (.dup, 1) := by decide +kernel
theorem dX8_arrive_30 : decode cX8_arrive 30 = .ok (.getfield 46, 3) := by decide +kernel
theorem dX8_arrive_33 : decode cX8_arrive 33 = .ok (.iconst 1, 1) := by decide +kernel
theorem dX8_arrive_34 : decode cX8_arrive 34 = .ok (.iadd, 1) := by decide +kernel
theorem dX8_arrive_35 : decode cX8_arrive 35 = .ok (.putfield 46, 3) := by decide +kernel
theorem dX8_arrive_38 : decode cX8_arrive 38 = .ok (.aload_n 1, 1) := by decide +kernel
theorem dX8_arrive_39 : decode cX8_arrive 39 = .ok (.aload_n 0, 1) := by decide +kernel
theorem dX8_arrive_40 : decode cX8_arrive 40 = .ok (.getfield 46, 3) := by decide +kernel
theorem dX8_arrive_43 : decode cX8_arrive 43 = .ok (.iconst 1, 1) := by decide +kernel
theorem dX8_arrive_44 : decode cX8_arrive 44 = .ok (.isub, 1) := by decide +kernel
theorem dX8_arrive_45 : decode cX8_arrive 45 = .ok (.invokevirtual 96, 3) := by decide +kernel
theorem dX8_arrive_48 : decode cX8_arrive 48 = .ok (.ireturn, 1) := by decide +kernel
theorem dX8_takeOn_0 : decode cX8_takeOn 0 = .ok (.aload_n 0, 1) := by decide +kernel
theorem dX8_takeOn_1 : decode cX8_takeOn 1 = .ok (.aload_n 1, 1) := by decide +kernel
theorem dX8_takeOn_2 : decode cX8_takeOn 2 = .ok (.invokevirtual 99, 3) := by decide +kernel
theorem dX8_takeOn_5 : decode cX8_takeOn 5 = .ok (.istore_n 2, 1) := by decide +kernel
theorem dX8_takeOn_6 : decode cX8_takeOn 6 = .ok (.iload_n 2, 1) := by decide +kernel
theorem dX8_takeOn_7 : decode cX8_takeOn 7 = .ok (.iconst (-1), 1) := by decide +kernel
theorem dX8_takeOn_8 : decode cX8_takeOn 8 = .ok (.if_icmp .eq 13, 3) := by decide +kernel
theorem dX8_takeOn_11 : decode cX8_takeOn 11 = .ok (.aload_n 0, 1) := by decide +kernel
theorem dX8_takeOn_12 : decode cX8_takeOn 12 = .ok (.aload_n 0, 1) := by decide +kernel
theorem dX8_takeOn_13 : decode cX8_takeOn 13 = .ok (.getfield 36, 3) := by decide +kernel
theorem dX8_takeOn_16 : decode cX8_takeOn 16 = .ok (.iload_n 2, 1) := by decide +kernel
theorem dX8_takeOn_17 : decode cX8_takeOn 17 = .ok (.aload_n 1, 1) := by decide +kernel
theorem dX8_takeOn_18 : decode cX8_takeOn 18 = .ok (.invokevirtual 64, 3) := by decide +kernel
theorem dX8_takeOn_21 : decode cX8_takeOn 21 = .ok (.return_, 1) := by decide +kernel
theorem dX8_travel_0 : decode cX8_travel 0 = .ok (.aload_n 0, 1) := by decide +kernel
theorem dX8_travel_1 : decode cX8_travel 1 = .ok (.aload_n 1, 1) := by decide +kernel
theorem dX8_travel_2 : decode cX8_travel 2 = .ok (.invokevirtual 103, 3) := by decide +kernel
theorem dX8_travel_5 : decode cX8_travel 5 = .ok (.aload_n 0, 1) := by decide +kernel
theorem dX8_travel_6 : decode cX8_travel 6 = .ok (.getfield 43, 3) := by decide +kernel
theorem dX8_travel_9 : decode cX8_travel 9 = .ok (.iload_n 2, 1) := by decide +kernel
theorem dX8_travel_10 : decode cX8_travel 10 = .ok (.if_icmp .ge 21, 3) := by decide +kernel
theorem dX8_travel_13 : decode cX8_travel 13 = .ok (.aload_n 0, 1) := by decide +kernel
theorem dX8_travel_14 : decode cX8_travel 14 = .ok (.aload_n 1, 1) := by decide +kernel
theorem dX8_travel_15 : decode cX8_travel 15 = .ok (.invokevirtual 107, 3) := by decide +kernel
theorem dX8_travel_18 : decode cX8_travel 18 = .ok (.aload_n 0, 1) := by decide +kernel
theorem dX8_travel_19 : decode cX8_travel 19 = .ok (.dup, 1) := by decide +kernel
theorem dX8_travel_20 : decode cX8_travel 20 = .ok (.getfield 43, 3) := by decide +kernel
theorem dX8_travel_23 : decode cX8_travel 23 = .ok (.iconst 1, 1) := by decide +kernel
theorem dX8_travel_24 : decode cX8_travel 24 = .ok (.iadd, 1) := by decide +kernel
theorem dX8_travel_25 : decode cX8_travel 25 = .ok (.putfield 43, 3) := by decide +kernel
theorem dX8_travel_28 : decode cX8_travel 28 = .ok (.goto (-23), 3) := by decide +kernel
theorem dX8_travel_31 : decode cX8_travel 31 = .ok (.return_, 1) := by decide +kernel
theorem dX8_measure_0 : decode cX8_measure 0 = .ok (.aload_n 0, 1) := by decide +kernel
theorem dX8_measure_1 : decode cX8_measure 1 = .ok (.getfield 43, 3) := by decide +kernel
theorem dX8_measure_4 : decode cX8_measure 4 = .ok (.iconst 1, 1) := by decide +kernel
theorem dX8_measure_5 : decode cX8_measure 5 = .ok (.isub, 1) := by decide +kernel
theorem dX8_measure_6 : decode cX8_measure 6 = .ok (.aload_n 0, 1) := by decide +kernel
theorem dX8_measure_7 : decode cX8_measure 7 = .ok (.getfield 40, 3) := by decide +kernel
theorem dX8_measure_10 : decode cX8_measure 10 = .ok (.isub, 1) := by decide +kernel
theorem dX8_measure_11 : decode cX8_measure 11 = .ok (.istore_n 2, 1) := by decide +kernel
theorem dX8_measure_12 : decode cX8_measure 12 = .ok (.iconst 0, 1) := by decide +kernel
theorem dX8_measure_13 : decode cX8_measure 13 = .ok (.istore_n 3, 1) := by decide +kernel
theorem dX8_measure_14 : decode cX8_measure 14 = .ok (.aload_n 0, 1) := by decide +kernel
theorem dX8_measure_15 : decode cX8_measure 15 = .ok (.getfield 36, 3) := by decide +kernel
theorem dX8_measure_18 : decode cX8_measure 18 = .ok (.iconst 1, 1) := by decide +kernel
theorem dX8_measure_19 : decode cX8_measure 19 = .ok (.isub, 1) := by decide +kernel
theorem dX8_measure_20 : decode cX8_measure 20 = .ok (.istore 4, 2) := by decide +kernel
theorem dX8_measure_22 : decode cX8_measure 22 = .ok (.iload 4, 2) := by decide +kernel
theorem dX8_measure_24 : decode cX8_measure 24 = .ok (.ifCond .lt 56, 3) := by decide +kernel
theorem dX8_measure_27 : decode cX8_measure 27 = .ok (.iload_n 2, 1) := by decide +kernel
theorem dX8_measure_28 : decode cX8_measure 28 = .ok (.aload_n 0, 1) := by decide +kernel
theorem dX8_measure_29 : decode cX8_measure 29 = .ok (.getfield 15, 3) := by decide +kernel
theorem dX8_measure_32 : decode cX8_measure 32 = .ok (.iload 4, 2) := by decide +kernel
theorem dX8_measure_34 : decode cX8_measure 34 = .ok (.iaload, 1) := by decide +kernel
theorem dX8_measure_35 : decode cX8_measure 35 = .ok (.iadd, 1) := by decide +kernel
theorem dX8_measure_36 : decode cX8_measure 36 = .ok (.istore_n 2, 1) := by decide +kernel
theorem dX8_measure_37 : decode cX8_measure 37 = .ok (.iload_n 3, 1) := by decide +kernel
theorem dX8_measure_38 : decode cX8_measure 38 = .ok (.aload_n 0, 1) := by decide +kernel
theorem dX8_measure_39 : decode cX8_measure 39 = .ok (.getfield 18, 3) := by decide +kernel
theorem dX8_measure_42 : decode cX8_measure 42 = .ok (.iload 4, 2) := by decide +kernel
theorem dX8_measure_44 : decode cX8_measure 44 = .ok (.iaload, 1) := by decide +kernel
theorem dX8_measure_45 : decode cX8_measure 45 = .ok (.aload_n 1, 1) := by decide +kernel
theorem dX8_measure_46 : decode cX8_measure 46 = .ok (.iload_n 2, 1) := by decide +kernel
theorem dX8_measure_47 : decode cX8_measure 47 = .ok (.invokevirtual 110, 3) := by decide +kernel
theorem dX8_measure_50 : decode cX8_measure 50 = .ok (.aload_n 1, 1) := by decide +kernel
theorem dX8_measure_51 : decode cX8_measure 51 = .ok (.getfield 113, 3) := by decide +kernel
theorem dX8_measure_54 : decode cX8_measure 54 = .ok (.iadd, 1) := by decide +kernel
theorem dX8_measure_55 : decode cX8_measure 55 = .ok (.imul, 1) := by decide +kernel
theorem dX8_measure_56 : decode cX8_measure 56 = .ok (.aload_n 0, 1) := by decide +kernel
theorem dX8_measure_57 : decode cX8_measure 57 = .ok (.getfield 27, 3) := by decide +kernel
theorem dX8_measure_60 : decode cX8_measure 60 = .ok (.iload 4, 2) := by decide +kernel
theorem dX8_measure_62 : decode cX8_measure 62 = .ok (.iaload, 1) := by decide +kernel
theorem dX8_measure_63 : decode cX8_measure 63 = .ok (.isub, 1) := by decide +kernel
theorem dX8_measure_64 : decode cX8_measure 64 = .ok (.iadd, 1) := by decide +kernel
theorem dX8_measure_65 : decode cX8_measure 65 = .ok (.istore_n 3, 1) := by decide +kernel
theorem dX8_measure_66 : decode cX8_measure 66 = .ok (.aload_n 0, 1) := by decide +kernel
theorem dX8_measure_67 : decode cX8_measure 67 = .ok (.getfield 33, 3) := by decide +kernel
theorem dX8_measure_70 : decode cX8_measure 70 = .ok (.iload 4, 2) := by decide +kernel
theorem dX8_measure_72 : decode cX8_measure 72 = .ok (.iload_n 3, 1) := by decide +kernel
theorem dX8_measure_73 : decode cX8_measure 73 = .ok (.iastore, 1) := by decide +kernel
theorem dX8_measure_74 : decode cX8_measure 74 = .ok (.iinc 4 (-1), 3) := by decide +kernel
theorem dX8_measure_77 : decode cX8_measure 77 = .ok (.goto (-55), 3) := by decide +kernel
theorem dX8_measure_80 : decode cX8_measure 80 = .ok (.iload_n 3, 1) := by decide +kernel
theorem dX8_measure_81 : decode cX8_measure 81 = .ok (.aload_n 1, 1) := by decide +kernel
theorem dX8_measure_82 : decode cX8_measure 82 = .ok (.aload_n 1, 1) := by decide +kernel
theorem dX8_measure_83 : decode cX8_measure 83 = .ok (.getfield 116, 3) := by decide +kernel
theorem dX8_measure_86 : decode cX8_measure 86 = .ok (.aload_n 0, 1) := by decide +kernel
theorem dX8_measure_87 : decode cX8_measure 87 = .ok (.getfield 43, 3) := by decide +kernel
theorem dX8_measure_90 : decode cX8_measure 90 = .ok (.invokevirtual 119, 3) := by decide +kernel
theorem dX8_measure_93 : decode cX8_measure 93 = .ok (.iadd, 1) := by decide +kernel
theorem dX8_measure_94 : decode cX8_measure 94 = .ok (.ireturn, 1) := by decide +kernel
theorem dX8_borneBy_0 : decode cX8_borneBy 0 = .ok (.aload_n 0, 1) := by decide +kernel
theorem dX8_borneBy_1 : decode cX8_borneBy 1 = .ok (.aload_n 2, 1) := by decide +kernel
theorem dX8_borneBy_2 : decode cX8_borneBy 2 = .ok (.invokevirtual 122, 3) := by decide +kernel
theorem dX8_borneBy_5 : decode cX8_borneBy 5 = .ok (.pop, 1) := by decide +kernel
theorem dX8_borneBy_6 : decode cX8_borneBy 6 = .ok (.aload_n 0, 1) := by decide +kernel
theorem dX8_borneBy_7 : decode cX8_borneBy 7 = .ok (.getfield 33, 3) := by decide +kernel
theorem dX8_borneBy_10 : decode cX8_borneBy 10 = .ok (.iload_n 1, 1) := by decide +kernel
theorem dX8_borneBy_11 : decode cX8_borneBy 11 = .ok (.iaload, 1) := by decide +kernel
theorem dX8_borneBy_12 : decode cX8_borneBy 12 = .ok (.ireturn, 1) := by decide +kernel
theorem dX8_partingPlace_0 : decode cX8_partingPlace 0 = .ok (.iconst 0, 1) := by decide +kernel
theorem dX8_partingPlace_1 : decode cX8_partingPlace 1 = .ok (.istore_n 2, 1) := by decide +kernel
theorem dX8_partingPlace_2 : decode cX8_partingPlace 2 = .ok (.iload_n 2, 1) := by decide +kernel
theorem dX8_partingPlace_3 : decode cX8_partingPlace 3 = .ok (.aload_n 0, 1) := by decide +kernel
theorem dX8_partingPlace_4 : decode cX8_partingPlace 4 = .ok (.getfield 36, 3) := by decide +kernel
theorem dX8_partingPlace_7 : decode cX8_partingPlace 7 = .ok (.if_icmp .ge 43, 3) := by decide +kernel
theorem dX8_partingPlace_10 : decode cX8_partingPlace 10 = .ok (.aload_n 0, 1) := by decide +kernel
theorem dX8_partingPlace_11 : decode cX8_partingPlace 11 = .ok (.getfield 33, 3) := by decide +kernel
