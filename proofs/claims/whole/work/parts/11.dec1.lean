theorem dX8_partingPlace_14 : decode cX8_partingPlace 14 = .ok (.iload_n 2, 1) := by decide +kernel
theorem dX8_partingPlace_15 : decode cX8_partingPlace 15 = .ok (.iaload, 1) := by decide +kernel
theorem dX8_partingPlace_16 : decode cX8_partingPlace 16 = .ok (.aload_n 0, 1) := by decide +kernel
theorem dX8_partingPlace_17 : decode cX8_partingPlace 17 = .ok (.getfield 21, 3) := by decide +kernel
theorem dX8_partingPlace_20 : decode cX8_partingPlace 20 = .ok (.iload_n 2, 1) := by decide +kernel
theorem dX8_partingPlace_21 : decode cX8_partingPlace 21 = .ok (.iaload, 1) := by decide +kernel
theorem dX8_partingPlace_22 : decode cX8_partingPlace 22 = .ok (.if_icmp .gt 20, 3) := by decide +kernel
theorem dX8_partingPlace_25 : decode cX8_partingPlace 25 = .ok (.aload_n 0, 1) := by decide +kernel
theorem dX8_partingPlace_26 : decode cX8_partingPlace 26 = .ok (.getfield 24, 3) := by decide +kernel
theorem dX8_partingPlace_29 : decode cX8_partingPlace 29 = .ok (.iload_n 2, 1) := by decide +kernel
theorem dX8_partingPlace_30 : decode cX8_partingPlace 30 = .ok (.iaload, 1) := by decide +kernel
theorem dX8_partingPlace_31 : decode cX8_partingPlace 31 = .ok (.iload_n 1, 1) := by decide +kernel
theorem dX8_partingPlace_32 : decode cX8_partingPlace 32 = .ok (.aload_n 0, 1) := by decide +kernel
theorem dX8_partingPlace_33 : decode cX8_partingPlace 33 = .ok (.getfield 21, 3) := by decide +kernel
theorem dX8_partingPlace_36 : decode cX8_partingPlace 36 = .ok (.iload_n 2, 1) := by decide +kernel
theorem dX8_partingPlace_37 : decode cX8_partingPlace 37 = .ok (.iaload, 1) := by decide +kernel
theorem dX8_partingPlace_38 : decode cX8_partingPlace 38 = .ok (.imul, 1) := by decide +kernel
theorem dX8_partingPlace_39 : decode cX8_partingPlace 39 = .ok (.if_icmp .le 5, 3) := by decide +kernel
theorem dX8_partingPlace_42 : decode cX8_partingPlace 42 = .ok (.iload_n 2, 1) := by decide +kernel
theorem dX8_partingPlace_43 : decode cX8_partingPlace 43 = .ok (.ireturn, 1) := by decide +kernel
theorem dX8_partingPlace_44 : decode cX8_partingPlace 44 = .ok (.iinc 2 1, 3) := by decide +kernel
theorem dX8_partingPlace_47 : decode cX8_partingPlace 47 = .ok (.goto (-45), 3) := by decide +kernel
theorem dX8_partingPlace_50 : decode cX8_partingPlace 50 = .ok (.iconst (-1), 1) := by decide +kernel
theorem dX8_partingPlace_51 : decode cX8_partingPlace 51 = .ok (.ireturn, 1) := by decide +kernel
theorem dX8_addWear_0 : decode cX8_addWear 0 = .ok (.iconst 0, 1) := by decide +kernel
theorem dX8_addWear_1 : decode cX8_addWear 1 = .ok (.istore_n 2, 1) := by decide +kernel
theorem dX8_addWear_2 : decode cX8_addWear 2 = .ok (.iload_n 2, 1) := by decide +kernel
theorem dX8_addWear_3 : decode cX8_addWear 3 = .ok (.iload_n 1, 1) := by decide +kernel
theorem dX8_addWear_4 : decode cX8_addWear 4 = .ok (.if_icmp .ge 41, 3) := by decide +kernel
theorem dX8_addWear_7 : decode cX8_addWear 7 = .ok (.iload_n 2, 1) := by decide +kernel
theorem dX8_addWear_8 : decode cX8_addWear 8 = .ok (.aload_n 0, 1) := by decide +kernel
theorem dX8_addWear_9 : decode cX8_addWear 9 = .ok (.getfield 36, 3) := by decide +kernel
theorem dX8_addWear_12 : decode cX8_addWear 12 = .ok (.if_icmp .ge 33, 3) := by decide +kernel
theorem dX8_addWear_15 : decode cX8_addWear 15 = .ok (.aload_n 0, 1) := by decide +kernel
theorem dX8_addWear_16 : decode cX8_addWear 16 = .ok (.getfield 33, 3) := by decide +kernel
theorem dX8_addWear_19 : decode cX8_addWear 19 = .ok (.iload_n 2, 1) := by decide +kernel
theorem dX8_addWear_20 : decode cX8_addWear 20 = .ok (.iaload, 1) := by decide +kernel
theorem dX8_addWear_21 : decode cX8_addWear 21 = .ok (.ifCond .le 18, 3) := by decide +kernel
theorem dX8_addWear_24 : decode cX8_addWear 24 = .ok (.aload_n 0, 1) := by decide +kernel
theorem dX8_addWear_25 : decode cX8_addWear 25 = .ok (.getfield 24, 3) := by decide +kernel
theorem dX8_addWear_28 : decode cX8_addWear 28 = .ok (.iload_n 2, 1) := by decide +kernel
theorem dX8_addWear_29 : decode cX8_addWear 29 = .ok (.dup2, 1) := by decide +kernel
theorem dX8_addWear_30 : decode cX8_addWear 30 = .ok (.iaload, 1) := by decide +kernel
theorem dX8_addWear_31 : decode cX8_addWear 31 = .ok (.aload_n 0, 1) := by decide +kernel
theorem dX8_addWear_32 : decode cX8_addWear 32 = .ok (.getfield 33, 3) := by decide +kernel
theorem dX8_addWear_35 : decode cX8_addWear 35 = .ok (.iload_n 2, 1) := by decide +kernel
theorem dX8_addWear_36 : decode cX8_addWear 36 = .ok (.iaload, 1) := by decide +kernel
theorem dX8_addWear_37 : decode cX8_addWear 37 = .ok (.iadd, 1) := by decide +kernel
theorem dX8_addWear_38 : decode cX8_addWear 38 = .ok (.iastore, 1) := by decide +kernel
theorem dX8_addWear_39 : decode cX8_addWear 39 = .ok (.iinc 2 1, 3) := by decide +kernel
theorem dX8_addWear_42 : decode cX8_addWear 42 = .ok (.goto (-40), 3) := by decide +kernel
theorem dX8_addWear_45 : decode cX8_addWear 45 = .ok (.return_, 1) := by decide +kernel
theorem dX8_isOverborne_0 : decode cX8_isOverborne 0 = .ok (.iconst 0, 1) := by decide +kernel
theorem dX8_isOverborne_1 : decode cX8_isOverborne 1 = .ok (.istore_n 1, 1) := by decide +kernel
theorem dX8_isOverborne_2 : decode cX8_isOverborne 2 = .ok (.iload_n 1, 1) := by decide +kernel
theorem dX8_isOverborne_3 : decode cX8_isOverborne 3 = .ok (.aload_n 0, 1) := by decide +kernel
theorem dX8_isOverborne_4 : decode cX8_isOverborne 4 = .ok (.getfield 36, 3) := by decide +kernel
theorem dX8_isOverborne_7 : decode cX8_isOverborne 7 = .ok (.if_icmp .ge 26, 3) := by decide +kernel
theorem dX8_isOverborne_10 : decode cX8_isOverborne 10 = .ok (.aload_n 0, 1) := by decide +kernel
theorem dX8_isOverborne_11 : decode cX8_isOverborne 11 = .ok (.getfield 33, 3) := by decide +kernel
theorem dX8_isOverborne_14 : decode cX8_isOverborne 14 = .ok (.iload_n 1, 1) := by decide +kernel
theorem dX8_isOverborne_15 : decode cX8_isOverborne 15 = .ok (.iaload, 1) := by decide +kernel
theorem dX8_isOverborne_16 : decode cX8_isOverborne 16 = .ok (.aload_n 0, 1) := by decide +kernel
theorem dX8_isOverborne_17 : decode cX8_isOverborne 17 = .ok (.getfield 21, 3) := by decide +kernel
theorem dX8_isOverborne_20 : decode cX8_isOverborne 20 = .ok (.iload_n 1, 1) := by decide +kernel
theorem dX8_isOverborne_21 : decode cX8_isOverborne 21 = .ok (.iaload, 1) := by decide +kernel
theorem dX8_isOverborne_22 : decode cX8_isOverborne 22 = .ok (.if_icmp .le 5, 3) := by decide +kernel
theorem dX8_isOverborne_25 : decode cX8_isOverborne 25 = .ok (.iconst 1, 1) := by decide +kernel
theorem dX8_isOverborne_26 : decode cX8_isOverborne 26 = .ok (.ireturn, 1) := by decide +kernel
theorem dX8_isOverborne_27 : decode cX8_isOverborne 27 = .ok (.iinc 1 1, 3) := by decide +kernel
theorem dX8_isOverborne_30 : decode cX8_isOverborne 30 = .ok (.goto (-28), 3) := by decide +kernel
theorem dX8_isOverborne_33 : decode cX8_isOverborne 33 = .ok (.iconst 0, 1) := by decide +kernel
theorem dX8_isOverborne_34 : decode cX8_isOverborne 34 = .ok (.ireturn, 1) := by decide +kernel
theorem dX8_foremostUnit_0 : decode cX8_foremostUnit 0 = .ok (.aload_n 0, 1) := by decide +kernel
theorem dX8_foremostUnit_1 : decode cX8_foremostUnit 1 = .ok (.getfield 43, 3) := by decide +kernel
theorem dX8_foremostUnit_4 : decode cX8_foremostUnit 4 = .ok (.iconst 1, 1) := by decide +kernel
theorem dX8_foremostUnit_5 : decode cX8_foremostUnit 5 = .ok (.isub, 1) := by decide +kernel
theorem dX8_foremostUnit_6 : decode cX8_foremostUnit 6 = .ok (.istore_n 2, 1) := by decide +kernel
theorem dX8_foremostUnit_7 : decode cX8_foremostUnit 7 = .ok (.iconst 0, 1) := by decide +kernel
theorem dX8_foremostUnit_8 : decode cX8_foremostUnit 8 = .ok (.istore_n 3, 1) := by decide +kernel
theorem dX8_foremostUnit_9 : decode cX8_foremostUnit 9 = .ok (.iload_n 3, 1) := by decide +kernel
theorem dX8_foremostUnit_10 : decode cX8_foremostUnit 10 = .ok (.iload_n 1, 1) := by decide +kernel
theorem dX8_foremostUnit_11 : decode cX8_foremostUnit 11 = .ok (.if_icmp .ge 26, 3) := by decide +kernel
theorem dX8_foremostUnit_14 : decode cX8_foremostUnit 14 = .ok (.iload_n 3, 1) := by decide +kernel
theorem dX8_foremostUnit_15 : decode cX8_foremostUnit 15 = .ok (.aload_n 0, 1) := by decide +kernel
theorem dX8_foremostUnit_16 : decode cX8_foremostUnit 16 = .ok (.getfield 36, 3) := by decide +kernel
theorem dX8_foremostUnit_19 : decode cX8_foremostUnit 19 = .ok (.if_icmp .ge 18, 3) := by decide +kernel
theorem dX8_foremostUnit_22 : decode cX8_foremostUnit 22 = .ok (.iload_n 2, 1) := by decide +kernel
theorem dX8_foremostUnit_23 : decode cX8_foremostUnit 23 = .ok (.aload_n 0, 1) := by decide +kernel
theorem dX8_foremostUnit_24 : decode cX8_foremostUnit 24 = .ok (.getfield 15, 3) := by decide +kernel
theorem dX8_foremostUnit_27 : decode cX8_foremostUnit 27 = .ok (.iload_n 3, 1) := by decide +kernel
theorem dX8_foremostUnit_28 : decode cX8_foremostUnit 28 = .ok (.iaload, 1) := by decide +kernel
theorem dX8_foremostUnit_29 : decode cX8_foremostUnit 29 = .ok (.isub, 1) := by decide +kernel
theorem dX8_foremostUnit_30 : decode cX8_foremostUnit 30 = .ok (.istore_n 2, 1) := by decide +kernel
theorem dX8_foremostUnit_31 : decode cX8_foremostUnit 31 = .ok (.iinc 3 1, 3) := by decide +kernel
theorem dX8_foremostUnit_34 : decode cX8_foremostUnit 34 = .ok (.goto (-25), 3) := by decide +kernel
theorem dX8_foremostUnit_37 : decode cX8_foremostUnit 37 = .ok (.iload_n 2, 1) := by decide +kernel
theorem dX8_foremostUnit_38 : decode cX8_foremostUnit 38 = .ok (.ireturn, 1) := by decide +kernel
theorem dX8_weightOfAll_0 : decode cX8_weightOfAll 0 = .ok (.iconst 0, 1) := by decide +kernel
theorem dX8_weightOfAll_1 : decode cX8_weightOfAll 1 = .ok (.istore_n 1, 1) := by decide +kernel
theorem dX8_weightOfAll_2 : decode cX8_weightOfAll 2 = .ok (.iconst 0, 1) := by decide +kernel
theorem dX8_weightOfAll_3 : decode cX8_weightOfAll 3 = .ok (.istore_n 2, 1) := by decide +kernel
theorem dX8_weightOfAll_4 : decode cX8_weightOfAll 4 = .ok (.iload_n 2, 1) := by decide +kernel
theorem dX8_weightOfAll_5 : decode cX8_weightOfAll 5 = .ok (.aload_n 0, 1) := by decide +kernel
theorem dX8_weightOfAll_6 : decode cX8_weightOfAll 6 = .ok (.getfield 36, 3) := by decide +kernel
theorem dX8_weightOfAll_9 : decode cX8_weightOfAll 9 = .ok (.if_icmp .ge 18, 3) := by decide +kernel
theorem dX8_weightOfAll_12 : decode cX8_weightOfAll 12 = .ok (.iload_n 1, 1) := by decide +kernel
theorem dX8_weightOfAll_13 : decode cX8_weightOfAll 13 = .ok (.aload_n 0, 1) := by decide +kernel
theorem dX8_weightOfAll_14 : decode cX8_weightOfAll 14 = .ok (.getfield 18, 3) := by decide +kernel
theorem dX8_weightOfAll_17 : decode cX8_weightOfAll 17 = .ok (.iload_n 2, 1) := by decide +kernel
theorem dX8_weightOfAll_18 : decode cX8_weightOfAll 18 = .ok (.iaload, 1) := by decide +kernel
theorem dX8_weightOfAll_19 : decode cX8_weightOfAll 19 = .ok (.iadd, 1) := by decide +kernel
theorem dX8_weightOfAll_20 : decode cX8_weightOfAll 20 = .ok (.istore_n 1, 1) := by decide +kernel
theorem dX8_weightOfAll_21 : decode cX8_weightOfAll 21 = .ok (.iinc 2 1, 3) := by decide +kernel
theorem dX8_weightOfAll_24 : decode cX8_weightOfAll 24 = .ok (.goto (-20), 3) := by decide +kernel
theorem dX8_weightOfAll_27 : decode cX8_weightOfAll 27 = .ok (.iload_n 1, 1) := by decide +kernel
theorem dX8_weightOfAll_28 : decode cX8_weightOfAll 28 = .ok (.ireturn, 1) := by decide +kernel
theorem dX8_helperCount_0 : decode cX8_helperCount 0 = .ok (.iconst 0, 1) := by decide +kernel
theorem dX8_helperCount_1 : decode cX8_helperCount 1 = .ok (.istore_n 1, 1) := by decide +kernel
theorem dX8_helperCount_2 : decode cX8_helperCount 2 = .ok (.iconst 0, 1) := by decide +kernel
theorem dX8_helperCount_3 : decode cX8_helperCount 3 = .ok (.istore_n 2, 1) := by decide +kernel
theorem dX8_helperCount_4 : decode cX8_helperCount 4 = .ok (.iload_n 2, 1) := by decide +kernel
theorem dX8_helperCount_5 : decode cX8_helperCount 5 = .ok (.aload_n 0, 1) := by decide +kernel
theorem dX8_helperCount_6 : decode cX8_helperCount 6 = .ok (.getfield 36, 3) := by decide +kernel
theorem dX8_helperCount_9 : decode cX8_helperCount 9 = .ok (.if_icmp .ge 18, 3) := by decide +kernel
theorem dX8_helperCount_12 : decode cX8_helperCount 12 = .ok (.iload_n 1, 1) := by decide +kernel
theorem dX8_helperCount_13 : decode cX8_helperCount 13 = .ok (.aload_n 0, 1) := by decide +kernel
theorem dX8_helperCount_14 : decode cX8_helperCount 14 = .ok (.getfield 30, 3) := by decide +kernel
theorem dX8_helperCount_17 : decode cX8_helperCount 17 = .ok (.iload_n 2, 1) := by decide +kernel
theorem dX8_helperCount_18 : decode cX8_helperCount 18 = .ok (.iaload, 1) := by decide +kernel
theorem dX8_helperCount_19 : decode cX8_helperCount 19 = .ok (.iadd, 1) := by decide +kernel
theorem dX8_helperCount_20 : decode cX8_helperCount 20 = .ok (.istore_n 1, 1) := by decide +kernel
theorem dX8_helperCount_21 : decode cX8_helperCount 21 = .ok (.iinc 2 1, 3) := by decide +kernel
theorem dX8_helperCount_24 : decode cX8_helperCount 24 = .ok (.goto (-20), 3) := by decide +kernel
theorem dX8_helperCount_27 : decode cX8_helperCount 27 = .ok (.iload_n 1, 1) := by decide +kernel
theorem dX8_helperCount_28 : decode cX8_helperCount 28 = .ok (.ireturn, 1) := by decide +kernel
theorem dX8_help_0 : decode cX8_help 0 = .ok (.aload_n 0, 1) := by decide +kernel
theorem dX8_help_1 : decode cX8_help 1 = .ok (.getfield 27, 3) := by decide +kernel
theorem dX8_help_4 : decode cX8_help 4 = .ok (.iload_n 1, 1) := by decide +kernel
theorem dX8_help_5 : decode cX8_help 5 = .ok (.dup2, 1) := by decide +kernel
theorem dX8_help_6 : decode cX8_help 6 = .ok (.iaload, 1) := by decide +kernel
theorem dX8_help_7 : decode cX8_help 7 = .ok (.iload_n 2, 1) := by decide +kernel
theorem dX8_help_8 : decode cX8_help 8 = .ok (.iadd, 1) := by decide +kernel
theorem dX8_help_9 : decode cX8_help 9 = .ok (.iastore, 1) := by decide +kernel
theorem dX8_help_10 : decode cX8_help 10 = .ok (.aload_n 0, 1) := by decide +kernel
theorem dX8_help_11 : decode cX8_help 11 = .ok (.getfield 30, 3) := by decide +kernel
theorem dX8_help_14 : decode cX8_help 14 = .ok (.iload_n 1, 1) := by decide +kernel
theorem dX8_help_15 : decode cX8_help 15 = .ok (.dup2, 1) := by decide +kernel
theorem dX8_help_16 : decode cX8_help 16 = .ok (.iaload, 1) := by decide +kernel
theorem dX8_help_17 : decode cX8_help 17 = .ok (.iconst 1, 1) := by decide +kernel
theorem dX8_help_18 : decode cX8_help 18 = .ok (.iadd, 1) := by decide +kernel
theorem dX8_help_19 : decode cX8_help 19 = .ok (.iastore, 1) := by decide +kernel
theorem dX8_help_20 : decode cX8_help 20 = .ok (.return_, 1) := by decide +kernel
theorem dX8_dismissHelpers_0 : decode cX8_dismissHelpers 0 = .ok (.iconst 0, 1) := by decide +kernel
theorem dX8_dismissHelpers_1 : decode cX8_dismissHelpers 1 = .ok (.istore_n 1, 1) := by decide +kernel
theorem dX8_dismissHelpers_2 : decode cX8_dismissHelpers 2 = .ok (.iload_n 1, 1) := by decide +kernel
theorem dX8_dismissHelpers_3 : decode cX8_dismissHelpers 3 = .ok (.aload_n 0, 1) := by decide +kernel
theorem dX8_dismissHelpers_4 : decode cX8_dismissHelpers 4 = .ok (.getfield 36, 3) := by decide +kernel
theorem dX8_dismissHelpers_7 : decode cX8_dismissHelpers 7 = .ok (.if_icmp .ge 23, 3) := by decide +kernel
theorem dX8_dismissHelpers_10 : decode cX8_dismissHelpers 10 = .ok (.aload_n 0, 1) := by decide +kernel
theorem dX8_dismissHelpers_11 : decode cX8_dismissHelpers 11 = .ok (.getfield 27, 3) := by decide +kernel
theorem dX8_dismissHelpers_14 : decode cX8_dismissHelpers 14 = .ok (.iload_n 1, 1) := by decide +kernel
theorem dX8_dismissHelpers_15 : decode cX8_dismissHelpers 15 = .ok (.iconst 0, 1) := by decide +kernel
theorem dX8_dismissHelpers_16 : decode cX8_dismissHelpers 16 = .ok (.iastore, 1) := by decide +kernel
theorem dX8_dismissHelpers_17 : decode cX8_dismissHelpers 17 = .ok (.aload_n 0, 1) := by decide +kernel
theorem dX8_dismissHelpers_18 : decode cX8_dismissHelpers 18 = .ok (.getfield 30, 3) := by decide +kernel
theorem dX8_dismissHelpers_21 : decode cX8_dismissHelpers 21 = .ok (.iload_n 1, 1) := by decide +kernel
theorem dX8_dismissHelpers_22 : decode cX8_dismissHelpers 22 = .ok (.iconst 0, 1) := by decide +kernel
theorem dX8_dismissHelpers_23 : decode cX8_dismissHelpers 23 = .ok (.iastore, 1) := by decide +kernel
theorem dX8_dismissHelpers_24 : decode cX8_dismissHelpers 24 = .ok (.iinc 1 1, 3) := by decide +kernel
theorem dX8_dismissHelpers_27 : decode cX8_dismissHelpers 27 = .ok (.goto (-25), 3) := by decide +kernel
theorem dX8_dismissHelpers_30 : decode cX8_dismissHelpers 30 = .ok (.return_, 1) := by decide +kernel
theorem dX9_init_0 : decode cX9_init 0 = .ok (.aload_n 0, 1) := by decide +kernel
theorem dX9_init_1 : decode cX9_init 1 = .ok (.invokespecial 1, 3) := by decide +kernel
theorem dX9_init_4 : decode cX9_init 4 = .ok (.aload_n 0, 1) := by decide +kernel
theorem dX9_init_5 : decode cX9_init 5 = .ok (.new 7, 3) := by decide +kernel
theorem dX9_init_8 : decode cX9_init 8 = .ok (.dup, 1) := by decide +kernel
theorem dX9_init_9 : decode cX9_init 9 = .ok (.invokespecial 9, 3) := by decide +kernel
theorem dX9_init_12 : decode cX9_init 12 = .ok (.putfield 10, 3) := by decide +kernel
theorem dX9_init_15 : decode cX9_init 15 = .ok (.aload_n 0, 1) := by decide +kernel
theorem dX9_init_16 : decode cX9_init 16 = .ok (.new 16, 3) := by decide +kernel
theorem dX9_init_19 : decode cX9_init 19 = .ok (.dup, 1) := by decide +kernel
theorem dX9_init_20 : decode cX9_init 20 = .ok (.invokespecial 18, 3) := by decide +kernel
theorem dX9_init_23 : decode cX9_init 23 = .ok (.putfield 19, 3) := by decide +kernel
theorem dX9_init_26 : decode cX9_init 26 = .ok (.aload_n 0, 1) := by decide +kernel
theorem dX9_init_27 : decode cX9_init 27 = .ok (.new 23, 3) := by decide +kernel
theorem dX9_init_30 : decode cX9_init 30 = .ok (.dup, 1) := by decide +kernel
theorem dX9_init_31 : decode cX9_init 31 = .ok (.invokespecial 25, 3) := by decide +kernel
theorem dX9_init_34 : decode cX9_init 34 = .ok (.putfield 26, 3) := by decide +kernel
theorem dX9_init_37 : decode cX9_init 37 = .ok (.return_, 1) := by decide +kernel
theorem dX9_copyFrom_0 : decode cX9_copyFrom 0 = .ok (.aload_n 0, 1) := by decide +kernel
theorem dX9_copyFrom_1 : decode cX9_copyFrom 1 = .ok (.getfield 10, 3) := by decide +kernel
theorem dX9_copyFrom_4 : decode cX9_copyFrom 4 = .ok (.aload_n 1, 1) := by decide +kernel
theorem dX9_copyFrom_5 : decode cX9_copyFrom 5 = .ok (.getfield 10, 3) := by decide +kernel
theorem dX9_copyFrom_8 : decode cX9_copyFrom 8 = .ok (.invokevirtual 30, 3) := by decide +kernel
theorem dX9_copyFrom_11 : decode cX9_copyFrom 11 = .ok (.aload_n 0, 1) := by decide +kernel
theorem dX9_copyFrom_12 : decode cX9_copyFrom 12 = .ok (.getfield 19, 3) := by decide +kernel
theorem dX9_copyFrom_15 : decode cX9_copyFrom 15 = .ok (.aload_n 1, 1) := by decide +kernel
theorem dX9_copyFrom_16 : decode cX9_copyFrom 16 = .ok (.getfield 19, 3) := by decide +kernel
theorem dX9_copyFrom_19 : decode cX9_copyFrom 19 = .ok (.invokevirtual 34, 3) := by decide +kernel
theorem dX9_copyFrom_22 : decode cX9_copyFrom 22 = .ok (.aload_n 0, 1) := by decide +kernel
theorem dX9_copyFrom_23 : decode cX9_copyFrom 23 = .ok (.getfield 26, 3) := by decide +kernel
theorem dX9_copyFrom_26 : decode cX9_copyFrom 26 = .ok (.aload_n 1, 1) := by decide +kernel
theorem dX9_copyFrom_27 : decode cX9_copyFrom 27 = .ok (.getfield 26, 3) := by decide +kernel
theorem dX9_copyFrom_30 : decode cX9_copyFrom 30 = .ok (.invokevirtual 37, 3) := by decide +kernel
theorem dX9_copyFrom_33 : decode cX9_copyFrom 33 = .ok (.return_, 1) := by decide +kernel
theorem dX10_init_0 : decode cX10_init 0 = .ok (.aload_n 0, 1) := by decide +kernel
theorem dX10_init_1 : decode cX10_init 1 = .ok (.invokespecial 3, 3) := by decide +kernel
theorem dX10_init_4 : decode cX10_init 4 = .ok (.aload_n 0, 1) := by decide +kernel
theorem dX10_init_5 : decode cX10_init 5 = .ok (.new 9, 3) := by decide +kernel
theorem dX10_init_8 : decode cX10_init 8 = .ok (.dup, 1) := by decide +kernel
theorem dX10_init_9 : decode cX10_init 9 = .ok (.invokespecial 11, 3) := by decide +kernel
theorem dX10_init_12 : decode cX10_init 12 = .ok (.putfield 12, 3) := by decide +kernel
theorem dX10_init_15 : decode cX10_init 15 = .ok (.aload_n 0, 1) := by decide +kernel
theorem dX10_init_16 : decode cX10_init 16 = .ok (.new 18, 3) := by decide +kernel
theorem dX10_init_19 : decode cX10_init 19 = .ok (.dup, 1) := by decide +kernel
theorem dX10_init_20 : decode cX10_init 20 = .ok (.invokespecial 20, 3) := by decide +kernel
theorem dX10_init_23 : decode cX10_init 23 = .ok (.putfield 21, 3) := by decide +kernel
theorem dX10_init_26 : decode cX10_init 26 = .ok (.return_, 1) := by decide +kernel
theorem dX10_begin_0 : decode cX10_begin 0 = .ok (.aload_n 0, 1) := by decide +kernel
theorem dX10_begin_1 : decode cX10_begin 1 = .ok (.getfield 12, 3) := by decide +kernel
theorem dX10_begin_4 : decode cX10_begin 4 = .ok (.aload_n 1, 1) := by decide +kernel
theorem dX10_begin_5 : decode cX10_begin 5 = .ok (.invokevirtual 25, 3) := by decide +kernel
theorem dX10_begin_8 : decode cX10_begin 8 = .ok (.aload_n 0, 1) := by decide +kernel
theorem dX10_begin_9 : decode cX10_begin 9 = .ok (.getfield 21, 3) := by decide +kernel
theorem dX10_begin_12 : decode cX10_begin 12 = .ok (.invokevirtual 29, 3) := by decide +kernel
theorem dX10_begin_15 : decode cX10_begin 15 = .ok (.aload_n 0, 1) := by decide +kernel
theorem dX10_begin_16 : decode cX10_begin 16 = .ok (.iconst 0, 1) := by decide +kernel
theorem dX10_begin_17 : decode cX10_begin 17 = .ok (.putfield 32, 3) := by decide +kernel
theorem dX10_begin_20 : decode cX10_begin 20 = .ok (.return_, 1) := by decide +kernel
theorem dX10_copyFrom_0 : decode cX10_copyFrom 0 = .ok (.aload_n 0, 1) := by decide +kernel
theorem dX10_copyFrom_1 : decode cX10_copyFrom 1 = .ok (.getfield 12, 3) := by decide +kernel
theorem dX10_copyFrom_4 : decode cX10_copyFrom 4 = .ok (.aload_n 1, 1) := by decide +kernel
theorem dX10_copyFrom_5 : decode cX10_copyFrom 5 = .ok (.getfield 12, 3) := by decide +kernel
theorem dX10_copyFrom_8 : decode cX10_copyFrom 8 = .ok (.invokevirtual 36, 3) := by decide +kernel
theorem dX10_copyFrom_11 : decode cX10_copyFrom 11 = .ok (.aload_n 0, 1) := by decide +kernel
theorem dX10_copyFrom_12 : decode cX10_copyFrom 12 = .ok (.getfield 21, 3) := by decide +kernel
theorem dX10_copyFrom_15 : decode cX10_copyFrom 15 = .ok (.aload_n 1, 1) := by decide +kernel
theorem dX10_copyFrom_16 : decode cX10_copyFrom 16 = .ok (.getfield 21, 3) := by decide +kernel
theorem dX10_copyFrom_19 : decode cX10_copyFrom 19 = .ok (.invokevirtual 40, 3) := by decide +kernel
theorem dX10_copyFrom_22 : decode cX10_copyFrom 22 = .ok (.aload_n 0, 1) := by decide +kernel
theorem dX10_copyFrom_23 : decode cX10_copyFrom 23 = .ok (.aload_n 1, 1) := by decide +kernel
theorem dX10_copyFrom_24 : decode cX10_copyFrom 24 = .ok (.getfield 32, 3) := by decide +kernel
theorem dX10_copyFrom_27 : decode cX10_copyFrom 27 = .ok (.putfield 32, 3) := by decide +kernel
theorem dX10_copyFrom_30 : decode cX10_copyFrom 30 = .ok (.return_, 1) := by decide +kernel
theorem dX10_move_0 : decode cX10_move 0 = .ok (.aload_n 0, 1) := by decide +kernel
theorem dX10_move_1 : decode cX10_move 1 = .ok (.getfield 12, 3) := by decide +kernel
theorem dX10_move_4 : decode cX10_move 4 = .ok (.getfield 43, 3) := by decide +kernel
theorem dX10_move_7 : decode cX10_move 7 = .ok (.iconst 1, 1) := by decide +kernel
theorem dX10_move_8 : decode cX10_move 8 = .ok (.iadd, 1) := by decide +kernel
theorem dX10_move_9 : decode cX10_move 9 = .ok (.aload_n 1, 1) := by decide +kernel
theorem dX10_move_10 : decode cX10_move 10 = .ok (.getfield 46, 3) := by decide +kernel
theorem dX10_move_13 : decode cX10_move 13 = .ok (.if_icmp .lt 5, 3) := by decide +kernel
theorem dX10_move_16 : decode cX10_move 16 = .ok (.iconst 2, 1) := by decide +kernel
theorem dX10_move_17 : decode cX10_move 17 = .ok (.ireturn, 1) := by decide +kernel
theorem dX10_move_18 : decode cX10_move 18 = .ok (.aload_n 0, 1) := by decide +kernel
theorem dX10_move_19 : decode cX10_move 19 = .ok (.getfield 12, 3) := by decide +kernel
theorem dX10_move_22 : decode cX10_move 22 = .ok (.dup, 1) := by decide +kernel
theorem dX10_move_23 : decode cX10_move 23 = .ok (.getfield 43, 3) := by decide +kernel
theorem dX10_move_26 : decode cX10_move 26 = .ok (.iconst 1, 1) := by decide +kernel
theorem dX10_move_27 : decode cX10_move 27 = .ok (.iadd, 1) := by decide +kernel
theorem dX10_move_28 : decode cX10_move 28 = .ok (.putfield 43, 3) := by decide +kernel
theorem dX10_move_31 : decode cX10_move 31 = .ok (.aload_n 0, 1) := by decide +kernel
theorem dX10_move_32 : decode cX10_move 32 = .ok (.getfield 32, 3) := by decide +kernel
theorem dX10_move_35 : decode cX10_move 35 = .ok (.aload_n 1, 1) := by decide +kernel
theorem dX10_move_36 : decode cX10_move 36 = .ok (.getfield 51, 3) := by decide +kernel
theorem dX10_move_39 : decode cX10_move 39 = .ok (.iadd, 1) := by decide +kernel
theorem dX10_move_40 : decode cX10_move 40 = .ok (.aload_n 0, 1) := by decide +kernel
theorem dX10_move_41 : decode cX10_move 41 = .ok (.getfield 12, 3) := by decide +kernel
theorem dX10_move_44 : decode cX10_move 44 = .ok (.aload_n 1, 1) := by decide +kernel
theorem dX10_move_45 : decode cX10_move 45 = .ok (.invokevirtual 54, 3) := by decide +kernel
theorem dX10_move_48 : decode cX10_move 48 = .ok (.isub, 1) := by decide +kernel
theorem dX10_move_49 : decode cX10_move 49 = .ok (.iload_n 2, 1) := by decide +kernel
theorem dX10_move_50 : decode cX10_move 50 = .ok (.ifCond .eq 10, 3) := by decide +kernel
theorem dX10_move_53 : decode cX10_move 53 = .ok (.aload_n 1, 1) := by decide +kernel
theorem dX10_move_54 : decode cX10_move 54 = .ok (.getfield 58, 3) := by decide +kernel
theorem dX10_move_57 : decode cX10_move 57 = .ok (.goto 4, 3) := by decide +kernel
theorem dX10_move_60 : decode cX10_move 60 = .ok (.iconst 0, 1) := by decide +kernel
theorem dX10_move_61 : decode cX10_move 61 = .ok (.iadd, 1) := by decide +kernel
theorem dX10_move_62 : decode cX10_move 62 = .ok (.istore_n 3, 1) := by decide +kernel
theorem dX10_move_63 : decode cX10_move 63 = .ok (.iload_n 3, 1) := by decide +kernel
theorem dX10_move_64 : decode cX10_move 64 = .ok (.ifCond .ge 18, 3) := by decide +kernel
theorem dX10_move_67 : decode cX10_move 67 = .ok (.aload_n 0, 1) := by decide +kernel
theorem dX10_move_68 : decode cX10_move 68 = .ok (.getfield 12, 3) := by decide +kernel
theorem dX10_move_71 : decode cX10_move 71 = .ok (.dup, 1) := by decide +kernel
theorem dX10_move_72 : decode cX10_move 72 = .ok (.getfield 43, 3) := by decide +kernel
theorem dX10_move_75 : decode cX10_move 75 = .ok (.iconst 1, 1) := by decide +kernel
theorem dX10_move_76 : decode cX10_move 76 = .ok (.isub, 1) := by decide +kernel
theorem dX10_move_77 : decode cX10_move 77 = .ok (.putfield 43, 3) := by decide +kernel
theorem dX10_move_80 : decode cX10_move 80 = .ok (.iconst 1, 1) := by decide +kernel
theorem dX10_move_81 : decode cX10_move 81 = .ok (.ireturn, 1) := by decide +kernel
theorem dX10_move_82 : decode cX10_move 82 = .ok (.aload_n 0, 1) := by decide +kernel
theorem dX10_move_83 : decode cX10_move 83 = .ok (.iload_n 3, 1) := by decide +kernel
theorem dX10_move_84 : decode cX10_move 84 = .ok (.putfield 32, 3) := by decide +kernel
theorem dX10_move_87 : decode cX10_move 87 = .ok (.aload_n 0, 1) := by decide +kernel
theorem dX10_move_88 : decode cX10_move 88 = .ok (.getfield 12, 3) := by decide +kernel
theorem dX10_move_91 : decode cX10_move 91 = .ok (.aload_n 1, 1) := by decide +kernel
theorem dX10_move_92 : decode cX10_move 92 = .ok (.getfield 61, 3) := by decide +kernel
theorem dX10_move_95 : decode cX10_move 95 = .ok (.invokevirtual 64, 3) := by decide +kernel
theorem dX10_move_98 : decode cX10_move 98 = .ok (.istore 4, 2) := by decide +kernel
theorem dX10_move_100 : decode cX10_move 100 = .ok (.iload 4, 2) := by decide +kernel
theorem dX10_move_102 : decode cX10_move 102 = .ok (.iconst (-1), 1) := by decide +kernel
theorem dX10_move_103 : decode cX10_move 103 = .ok (.if_icmp .ne 20, 3) := by decide +kernel
theorem dX10_move_106 : decode cX10_move 106 = .ok (.aload_n 0, 1) := by decide +kernel
theorem dX10_move_107 : decode cX10_move 107 = .ok (.getfield 12, 3) := by decide +kernel
theorem dX10_move_110 : decode cX10_move 110 = .ok (.aload_n 0, 1) := by decide +kernel
theorem dX10_move_111 : decode cX10_move 111 = .ok (.getfield 12, 3) := by decide +kernel
theorem dX10_move_114 : decode cX10_move 114 = .ok (.getfield 68, 3) := by decide +kernel
theorem dX10_move_117 : decode cX10_move 117 = .ok (.invokevirtual 71, 3) := by decide +kernel
theorem dX10_move_120 : decode cX10_move 120 = .ok (.goto 18, 3) := by decide +kernel
theorem dX10_move_123 : decode cX10_move 123 = .ok (.aload_n 0, 1) := by decide +kernel
theorem dX10_move_124 : decode cX10_move 124 = .ok (.getfield 12, 3) := by decide +kernel
theorem dX10_move_127 : decode cX10_move 127 = .ok (.iload 4, 2) := by decide +kernel
theorem dX10_move_129 : decode cX10_move 129 = .ok (.invokevirtual 71, 3) := by decide +kernel
theorem dX10_move_132 : decode cX10_move 132 = .ok (.aload_n 0, 1) := by decide +kernel
theorem dX10_move_133 : decode cX10_move 133 = .ok (.iload 4, 2) := by decide +kernel
theorem dX10_move_135 : decode cX10_move 135 = .ok (.invokevirtual 75, 3) := by decide +kernel
theorem dX10_move_138 : decode cX10_move 138 = .ok (.aload_n 0, 1) := by decide +kernel
theorem dX10_move_139 : decode cX10_move 139 = .ok (.getfield 12, 3) := by decide +kernel
theorem dX10_move_142 : decode cX10_move 142 = .ok (.aload_n 1, 1) := by decide +kernel
theorem dX10_move_143 : decode cX10_move 143 = .ok (.invokevirtual 78, 3) := by decide +kernel
theorem dX10_move_146 : decode cX10_move 146 = .ok (.iconst 0, 1) := by decide +kernel
theorem dX10_move_147 : decode cX10_move 147 = .ok (.ireturn, 1) := by decide +kernel
theorem dX10_part_0 : decode cX10_part 0 = .ok (.aload_n 0, 1) := by decide +kernel
theorem dX10_part_1 : decode cX10_part 1 = .ok (.getfield 21, 3) := by decide +kernel
theorem dX10_part_4 : decode cX10_part 4 = .ok (.aload_n 0, 1) := by decide +kernel
theorem dX10_part_5 : decode cX10_part 5 = .ok (.getfield 12, 3) := by decide +kernel
theorem dX10_part_8 : decode cX10_part 8 = .ok (.iload_n 1, 1) := by decide +kernel
theorem dX10_part_9 : decode cX10_part 9 = .ok (.invokevirtual 81, 3) := by decide +kernel
theorem dX10_part_12 : decode cX10_part 12 = .ok (.aload_n 0, 1) := by decide +kernel
theorem dX10_part_13 : decode cX10_part 13 = .ok (.getfield 12, 3) := by decide +kernel
theorem dX10_part_16 : decode cX10_part 16 = .ok (.iload_n 1, 1) := by decide +kernel
theorem dX10_part_17 : decode cX10_part 17 = .ok (.invokevirtual 85, 3) := by decide +kernel
theorem dX10_part_20 : decode cX10_part 20 = .ok (.return_, 1) := by decide +kernel
theorem dX11_init_0 : decode cX11_init 0 = .ok (.aload_n 0, 1) := by decide +kernel
theorem dX11_init_1 : decode cX11_init 1 = .ok (.invokespecial 1, 3) := by decide +kernel
theorem dX11_init_4 : decode cX11_init 4 = .ok (.aload_n 0, 1) := by decide +kernel
theorem dX11_init_5 : decode cX11_init 5 = .ok (.sipush 940, 3) := by decide +kernel
theorem dX11_init_8 : decode cX11_init 8 = .ok (.newarray .int, 2) := by decide +kernel
theorem dX11_init_10 : decode cX11_init 10 = .ok (.putfield 9, 3) := by decide +kernel
theorem dX11_init_13 : decode cX11_init 13 = .ok (.aload_n 0, 1) := by decide +kernel
theorem dX11_init_14 : decode cX11_init 14 = .ok (.new 13, 3) := by decide +kernel
theorem dX11_init_17 : decode cX11_init 17 = .ok (.dup, 1) := by decide +kernel
theorem dX11_init_18 : decode cX11_init 18 = .ok (.invokespecial 15, 3) := by decide +kernel
theorem dX11_init_21 : decode cX11_init 21 = .ok (.putfield 16, 3) := by decide +kernel
theorem dX11_init_24 : decode cX11_init 24 = .ok (.aload_n 0, 1) := by decide +kernel
theorem dX11_init_25 : decode cX11_init 25 = .ok (.new 20, 3) := by decide +kernel
theorem dX11_init_28 : decode cX11_init 28 = .ok (.dup, 1) := by decide +kernel
theorem dX11_init_29 : decode cX11_init 29 = .ok (.invokespecial 22, 3) := by decide +kernel
theorem dX11_init_32 : decode cX11_init 32 = .ok (.putfield 23, 3) := by decide +kernel
theorem dX11_init_35 : decode cX11_init 35 = .ok (.aload_n 0, 1) := by decide +kernel
theorem dX11_init_36 : decode cX11_init 36 = .ok (.new 27, 3) := by decide +kernel
theorem dX11_init_39 : decode cX11_init 39 = .ok (.dup, 1) := by decide +kernel
theorem dX11_init_40 : decode cX11_init 40 = .ok (.invokespecial 29, 3) := by decide +kernel
theorem dX11_init_43 : decode cX11_init 43 = .ok (.putfield 30, 3) := by decide +kernel
theorem dX11_init_46 : decode cX11_init 46 = .ok (.aload_n 0, 1) := by decide +kernel
theorem dX11_init_47 : decode cX11_init 47 = .ok (.iconst 2, 1) := by decide +kernel
theorem dX11_init_48 : decode cX11_init 48 = .ok (.anewarray 27, 3) := by decide +kernel
theorem dX11_init_51 : decode cX11_init 51 = .ok (.putfield 34, 3) := by decide +kernel
theorem dX11_init_54 : decode cX11_init 54 = .ok (.aload_n 0, 1) := by decide +kernel
theorem dX11_init_55 : decode cX11_init 55 = .ok (.new 38, 3) := by decide +kernel
theorem dX11_init_58 : decode cX11_init 58 = .ok (.dup, 1) := by decide +kernel
theorem dX11_init_59 : decode cX11_init 59 = .ok (.invokespecial 40, 3) := by decide +kernel
theorem dX11_init_62 : decode cX11_init 62 = .ok (.putfield 41, 3) := by decide +kernel
theorem dX11_init_65 : decode cX11_init 65 = .ok (.aload_n 0, 1) := by decide +kernel
theorem dX11_init_66 : decode cX11_init 66 = .ok (.new 45, 3) := by decide +kernel
theorem dX11_init_69 : decode cX11_init 69 = .ok (.dup, 1) := by decide +kernel
theorem dX11_init_70 : decode cX11_init 70 = .ok (.invokespecial 47, 3) := by decide +kernel
theorem dX11_init_73 : decode cX11_init 73 = .ok (.putfield 48, 3) := by decide +kernel
theorem dX11_init_76 : decode cX11_init 76 = .ok (.aload_n 0, 1) := by decide +kernel
theorem dX11_init_77 : decode cX11_init 77 = .ok (.new 52, 3) := by decide +kernel
theorem dX11_init_80 : decode cX11_init 80 = .ok (.dup, 1) := by decide +kernel
theorem dX11_init_81 : decode cX11_init 81 = .ok (.invokespecial 54, 3) := by decide +kernel
theorem dX11_init_84 : decode cX11_init 84 = .ok (.putfield 55, 3) := by decide +kernel
theorem dX11_init_87 : decode cX11_init 87 = .ok (.aload_n 0, 1) := by decide +kernel
theorem dX11_init_88 : decode cX11_init 88 = .ok (.new 59, 3) := by decide +kernel
theorem dX11_init_91 : decode cX11_init 91 = .ok (.dup, 1) := by decide +kernel
theorem dX11_init_92 : decode cX11_init 92 = .ok (.invokespecial 61, 3) := by decide +kernel
theorem dX11_init_95 : decode cX11_init 95 = .ok (.putfield 62, 3) := by decide +kernel
theorem dX11_init_98 : decode cX11_init 98 = .ok (.aload_n 0, 1) := by decide +kernel
theorem dX11_init_99 : decode cX11_init 99 = .ok (.new 66, 3) := by decide +kernel
theorem dX11_init_102 : decode cX11_init 102 = .ok (.dup, 1) := by decide +kernel
theorem dX11_init_103 : decode cX11_init 103 = .ok (.invokespecial 68, 3) := by decide +kernel
theorem dX11_init_106 : decode cX11_init 106 = .ok (.putfield 69, 3) := by decide +kernel
theorem dX11_init_109 : decode cX11_init 109 = .ok (.aload_n 0, 1) := by decide +kernel
theorem dX11_init_110 : decode cX11_init 110 = .ok (.new 73, 3) := by decide +kernel
theorem dX11_init_113 : decode cX11_init 113 = .ok (.dup, 1) := by decide +kernel
theorem dX11_init_114 : decode cX11_init 114 = .ok (.invokespecial 75, 3) := by decide +kernel
theorem dX11_init_117 : decode cX11_init 117 = .ok (.putfield 76, 3) := by decide +kernel
theorem dX11_init_120 : decode cX11_init 120 = .ok (.return_, 1) := by decide +kernel
theorem dX11_feed_0 : decode cX11_feed 0 = .ok (.aload_n 0, 1) := by decide +kernel
theorem dX11_feed_1 : decode cX11_feed 1 = .ok (.getfield 80, 3) := by decide +kernel
theorem dX11_feed_4 : decode cX11_feed 4 = .ok (.bipush 20, 2) := by decide +kernel
theorem dX11_feed_6 : decode cX11_feed 6 = .ok (.iadd, 1) := by decide +kernel
theorem dX11_feed_7 : decode cX11_feed 7 = .ok (.sipush 940, 3) := by decide +kernel
theorem dX11_feed_10 : decode cX11_feed 10 = .ok (.if_icmp .le 5, 3) := by decide +kernel
theorem dX11_feed_13 : decode cX11_feed 13 = .ok (.iconst (-1), 1) := by decide +kernel
theorem dX11_feed_14 : decode cX11_feed 14 = .ok (.ireturn, 1) := by decide +kernel
theorem dX11_feed_15 : decode cX11_feed 15 = .ok (.aload_n 0, 1) := by decide +kernel
theorem dX11_feed_16 : decode cX11_feed 16 = .ok (.iload_n 1, 1) := by decide +kernel
theorem dX11_feed_17 : decode cX11_feed 17 = .ok (.invokevirtual 84, 3) := by decide +kernel
theorem dX11_feed_20 : decode cX11_feed 20 = .ok (.aload_n 0, 1) := by decide +kernel
theorem dX11_feed_21 : decode cX11_feed 21 = .ok (.iload_n 2, 1) := by decide +kernel
theorem dX11_feed_22 : decode cX11_feed 22 = .ok (.invokevirtual 84, 3) := by decide +kernel
theorem dX11_feed_25 : decode cX11_feed 25 = .ok (.aload_n 0, 1) := by decide +kernel
theorem dX11_feed_26 : decode cX11_feed 26 = .ok (.iload_n 3, 1) := by decide +kernel
theorem dX11_feed_27 : decode cX11_feed 27 = .ok (.invokevirtual 84, 3) := by decide +kernel
theorem dX11_feed_30 : decode cX11_feed 30 = .ok (.aload_n 0, 1) := by decide +kernel
theorem dX11_feed_31 : decode cX11_feed 31 = .ok (.iload 4, 2) := by decide +kernel
theorem dX11_feed_33 : decode cX11_feed 33 = .ok (.invokevirtual 84, 3) := by decide +kernel
theorem dX11_feed_36 : decode cX11_feed 36 = .ok (.aload_n 0, 1) := by decide +kernel
theorem dX11_feed_37 : decode cX11_feed 37 = .ok (.iload 5, 2) := by decide +kernel
theorem dX11_feed_39 : decode cX11_feed 39 = .ok (.invokevirtual 84, 3) := by decide +kernel
theorem dX11_feed_42 : decode cX11_feed 42 = .ok (.aload_n 0, 1) := by decide +kernel
theorem dX11_feed_43 : decode cX11_feed 43 = .ok (.getfield 80, 3) := by decide +kernel
theorem dX11_feed_46 : decode cX11_feed 46 = .ok (.ireturn, 1) := by decide +kernel
theorem dX11_putNumber_0 : decode cX11_putNumber 0 = .ok (.bipush 24, 2) := by decide +kernel
theorem dX11_putNumber_2 : decode cX11_putNumber 2 = .ok (.istore_n 2, 1) := by decide +kernel
theorem dX11_putNumber_3 : decode cX11_putNumber 3 = .ok (.iload_n 2, 1) := by decide +kernel
theorem dX11_putNumber_4 : decode cX11_putNumber 4 = .ok (.ifCond .lt 45, 3) := by decide +kernel
theorem dX11_putNumber_7 : decode cX11_putNumber 7 = .ok (.aload_n 0, 1) := by decide +kernel
theorem dX11_putNumber_8 : decode cX11_putNumber 8 = .ok (.getfield 80, 3) := by decide +kernel
theorem dX11_putNumber_11 : decode cX11_putNumber 11 = .ok (.sipush 940, 3) := by decide +kernel
theorem dX11_putNumber_14 : decode cX11_putNumber 14 = .ok (.if_icmp .ge 35, 3) := by decide +kernel
theorem dX11_putNumber_17 : decode cX11_putNumber 17 = .ok (.aload_n 0, 1) := by decide +kernel
theorem dX11_putNumber_18 : decode cX11_putNumber 18 = .ok (.getfield 9, 3) := by decide +kernel
theorem dX11_putNumber_21 : decode cX11_putNumber 21 = .ok (.aload_n 0, 1) := by decide +kernel
theorem dX11_putNumber_22 : decode cX11_putNumber 22 = .ok (.getfield 80, 3) := by decide +kernel
theorem dX11_putNumber_25 : decode cX11_putNumber 25 = .ok (.iload_n 1, 1) := by decide +kernel
theorem dX11_putNumber_26 : decode cX11_putNumber 26 = .ok (.iload_n 2, 1) := by decide +kernel
theorem dX11_putNumber_27 : decode cX11_putNumber 27 = .ok (.iushr, 1) := by decide +kernel
theorem dX11_putNumber_28 : decode cX11_putNumber 28 = .ok (.sipush 255, 3) := by decide +kernel
theorem dX11_putNumber_31 : decode cX11_putNumber 31 = .ok (.iand, 1) := by decide +kernel
theorem dX11_putNumber_32 : decode cX11_putNumber 32 = .ok (.iastore, 1) := by decide +kernel
theorem dX11_putNumber_33 : decode cX11_putNumber 33 = .ok (.aload_n 0, 1) := by decide +kernel
theorem dX11_putNumber_34 : decode cX11_putNumber 34 = .ok (.dup, 1) := by decide +kernel
theorem dX11_putNumber_35 : decode cX11_putNumber 35 = .ok (.getfield 80, 3) := by decide +kernel
theorem dX11_putNumber_38 : decode cX11_putNumber 38 = .ok (.iconst 1, 1) := by decide +kernel
theorem dX11_putNumber_39 : decode cX11_putNumber 39 = .ok (.iadd, 1) := by decide +kernel
theorem dX11_putNumber_40 : decode cX11_putNumber 40 = .ok (.putfield 80, 3) := by decide +kernel
theorem dX11_putNumber_43 : decode cX11_putNumber 43 = .ok (.iinc 2 (-8), 3) := by decide +kernel
theorem dX11_putNumber_46 : decode cX11_putNumber 46 = .ok (.goto (-43), 3) := by decide +kernel
theorem dX11_putNumber_49 : decode cX11_putNumber 49 = .ok (.return_, 1) := by decide +kernel
theorem dX11_end_0 : decode cX11_end 0 = .ok (.iload_n 1, 1) := by decide +kernel
theorem dX11_end_1 : decode cX11_end 1 = .ok (.ifCond .lt 11, 3) := by decide +kernel
theorem dX11_end_4 : decode cX11_end 4 = .ok (.iload_n 1, 1) := by decide +kernel
theorem dX11_end_5 : decode cX11_end 5 = .ok (.aload_n 0, 1) := by decide +kernel
theorem dX11_end_6 : decode cX11_end 6 = .ok (.getfield 80, 3) := by decide +kernel
theorem dX11_end_9 : decode cX11_end 9 = .ok (.if_icmp .le 5, 3) := by decide +kernel
theorem dX11_end_12 : decode cX11_end 12 = .ok (.iconst 0, 1) := by decide +kernel
theorem dX11_end_13 : decode cX11_end 13 = .ok (.ireturn, 1) := by decide +kernel
theorem dX11_end_14 : decode cX11_end 14 = .ok (.aload_n 0, 1) := by decide +kernel
theorem dX11_end_15 : decode cX11_end 15 = .ok (.iload_n 1, 1) := by decide +kernel
theorem dX11_end_16 : decode cX11_end 16 = .ok (.putfield 80, 3) := by decide +kernel
theorem dX11_end_19 : decode cX11_end 19 = .ok (.iconst 1, 1) := by decide +kernel
theorem dX11_end_20 : decode cX11_end 20 = .ok (.ireturn, 1) := by decide +kernel
theorem dX11_line_0 : decode cX11_line 0 = .ok (.aload_n 0, 1) := by decide +kernel
theorem dX11_line_1 : decode cX11_line 1 = .ok (.getfield 16, 3) := by decide +kernel
theorem dX11_line_4 : decode cX11_line 4 = .ok (.aload_n 0, 1) := by decide +kernel
theorem dX11_line_5 : decode cX11_line 5 = .ok (.getfield 9, 3) := by decide +kernel
theorem dX11_line_8 : decode cX11_line 8 = .ok (.aload_n 0, 1) := by decide +kernel
theorem dX11_line_9 : decode cX11_line 9 = .ok (.invokevirtual 88, 3) := by decide +kernel
theorem dX11_line_12 : decode cX11_line 12 = .ok (.aload_n 0, 1) := by decide +kernel
theorem dX11_line_13 : decode cX11_line 13 = .ok (.getfield 41, 3) := by decide +kernel
theorem dX11_line_16 : decode cX11_line 16 = .ok (.invokevirtual 92, 3) := by decide +kernel
theorem dX11_line_19 : decode cX11_line 19 = .ok (.istore_n 1, 1) := by decide +kernel
theorem dX11_line_20 : decode cX11_line 20 = .ok (.aload_n 0, 1) := by decide +kernel
theorem dX11_line_21 : decode cX11_line 21 = .ok (.aload_n 0, 1) := by decide +kernel
theorem dX11_line_22 : decode cX11_line 22 = .ok (.getfield 16, 3) := by decide +kernel
theorem dX11_line_25 : decode cX11_line 25 = .ok (.getfield 96, 3) := by decide +kernel
theorem dX11_line_28 : decode cX11_line 28 = .ok (.getfield 99, 3) := by decide +kernel
theorem dX11_line_31 : decode cX11_line 31 = .ok (.putfield 102, 3) := by decide +kernel
theorem dX11_line_34 : decode cX11_line 34 = .ok (.iload_n 1, 1) := by decide +kernel
theorem dX11_line_35 : decode cX11_line 35 = .ok (.ifCond .lt 54, 3) := by decide +kernel
theorem dX11_line_38 : decode cX11_line 38 = .ok (.aload_n 0, 1) := by decide +kernel
theorem dX11_line_39 : decode cX11_line 39 = .ok (.getfield 30, 3) := by decide +kernel
theorem dX11_line_42 : decode cX11_line 42 = .ok (.getfield 105, 3) := by decide +kernel
theorem dX11_line_45 : decode cX11_line 45 = .ok (.astore_n 2, 1) := by decide +kernel
theorem dX11_line_46 : decode cX11_line 46 = .ok (.aload_n 0, 1) := by decide +kernel
theorem dX11_line_47 : decode cX11_line 47 = .ok (.getfield 30, 3) := by decide +kernel
theorem dX11_line_50 : decode cX11_line 50 = .ok (.aload_n 0, 1) := by decide +kernel
theorem dX11_line_51 : decode cX11_line 51 = .ok (.getfield 41, 3) := by decide +kernel
theorem dX11_line_54 : decode cX11_line 54 = .ok (.putfield 105, 3) := by decide +kernel
theorem dX11_line_57 : decode cX11_line 57 = .ok (.aload_n 0, 1) := by decide +kernel
theorem dX11_line_58 : decode cX11_line 58 = .ok (.aload_n 2, 1) := by decide +kernel
theorem dX11_line_59 : decode cX11_line 59 = .ok (.putfield 41, 3) := by decide +kernel
theorem dX11_line_62 : decode cX11_line 62 = .ok (.aload_n 0, 1) := by decide +kernel
theorem dX11_line_63 : decode cX11_line 63 = .ok (.getfield 30, 3) := by decide +kernel
theorem dX11_line_66 : decode cX11_line 66 = .ok (.getfield 108, 3) := by decide +kernel
theorem dX11_line_69 : decode cX11_line 69 = .ok (.aload_n 0, 1) := by decide +kernel
theorem dX11_line_70 : decode cX11_line 70 = .ok (.getfield 30, 3) := by decide +kernel
theorem dX11_line_73 : decode cX11_line 73 = .ok (.getfield 105, 3) := by decide +kernel
theorem dX11_line_76 : decode cX11_line 76 = .ok (.invokevirtual 111, 3) := by decide +kernel
theorem dX11_line_79 : decode cX11_line 79 = .ok (.aload_n 0, 1) := by decide +kernel
theorem dX11_line_80 : decode cX11_line 80 = .ok (.getfield 30, 3) := by decide +kernel
theorem dX11_line_83 : decode cX11_line 83 = .ok (.getfield 115, 3) := by decide +kernel
theorem dX11_line_86 : decode cX11_line 86 = .ok (.invokevirtual 118, 3) := by decide +kernel
theorem dX11_line_89 : decode cX11_line 89 = .ok (.iload_n 1, 1) := by decide +kernel
theorem dX11_line_90 : decode cX11_line 90 = .ok (.ireturn, 1) := by decide +kernel
theorem dX11_takeTape_0 : decode cX11_takeTape 0 = .ok (.aload_n 0, 1) := by decide +kernel
theorem dX11_takeTape_1 : decode cX11_takeTape 1 = .ok (.getfield 80, 3) := by decide +kernel
theorem dX11_takeTape_4 : decode cX11_takeTape 4 = .ok (.istore_n 1, 1) := by decide +kernel
theorem dX11_takeTape_5 : decode cX11_takeTape 5 = .ok (.aload_n 0, 1) := by decide +kernel
theorem dX11_takeTape_6 : decode cX11_takeTape 6 = .ok (.iconst 0, 1) := by decide +kernel
theorem dX11_takeTape_7 : decode cX11_takeTape 7 = .ok (.putfield 80, 3) := by decide +kernel
theorem dX11_takeTape_10 : decode cX11_takeTape 10 = .ok (.iload_n 1, 1) := by decide +kernel
theorem dX11_takeTape_11 : decode cX11_takeTape 11 = .ok (.ireturn, 1) := by decide +kernel
theorem dX11_fault_0 : decode cX11_fault 0 = .ok (.aload_n 0, 1) := by decide +kernel
theorem dX11_fault_1 : decode cX11_fault 1 = .ok (.getfield 102, 3) := by decide +kernel
theorem dX11_fault_4 : decode cX11_fault 4 = .ok (.ireturn, 1) := by decide +kernel
theorem dX11_grade_0 : decode cX11_grade 0 = .ok (.iload_n 1, 1) := by decide +kernel
theorem dX11_grade_1 : decode cX11_grade 1 = .ok (.sipush (-999), 3) := by decide +kernel
theorem dX11_grade_4 : decode cX11_grade 4 = .ok (.if_icmp .lt 17, 3) := by decide +kernel
theorem dX11_grade_7 : decode cX11_grade 7 = .ok (.iload_n 1, 1) := by decide +kernel
theorem dX11_grade_8 : decode cX11_grade 8 = .ok (.aload_n 0, 1) := by decide +kernel
theorem dX11_grade_9 : decode cX11_grade 9 = .ok (.getfield 30, 3) := by decide +kernel
theorem dX11_grade_12 : decode cX11_grade 12 = .ok (.getfield 105, 3) := by decide +kernel
theorem dX11_grade_15 : decode cX11_grade 15 = .ok (.getfield 121, 3) := by decide +kernel
theorem dX11_grade_18 : decode cX11_grade 18 = .ok (.if_icmp .lt 11, 3) := by decide +kernel
theorem dX11_grade_21 : decode cX11_grade 21 = .ok (.new 124, 3) := by decide +kernel
theorem dX11_grade_24 : decode cX11_grade 24 = .ok (.dup, 1) := by decide +kernel
theorem dX11_grade_25 : decode cX11_grade 25 = .ok (.invokespecial 126, 3) := by decide +kernel
theorem dX11_grade_28 : decode cX11_grade 28 = .ok (.athrow, 1) := by decide +kernel
theorem dX11_grade_29 : decode cX11_grade 29 = .ok (.aload_n 0, 1) := by decide +kernel
theorem dX11_grade_30 : decode cX11_grade 30 = .ok (.getfield 30, 3) := by decide +kernel
theorem dX11_grade_33 : decode cX11_grade 33 = .ok (.getfield 105, 3) := by decide +kernel
theorem dX11_grade_36 : decode cX11_grade 36 = .ok (.iload_n 1, 1) := by decide +kernel
theorem dX11_grade_37 : decode cX11_grade 37 = .ok (.invokevirtual 127, 3) := by decide +kernel
theorem dX11_grade_40 : decode cX11_grade 40 = .ok (.ireturn, 1) := by decide +kernel
theorem dX11_halt_0 : decode cX11_halt 0 = .ok (.aload_n 0, 1) := by decide +kernel
theorem dX11_halt_1 : decode cX11_halt 1 = .ok (.iload_n 1, 1) := by decide +kernel
theorem dX11_halt_2 : decode cX11_halt 2 = .ok (.invokevirtual 131, 3) := by decide +kernel
theorem dX11_halt_5 : decode cX11_halt 5 = .ok (.ifCond .eq 12, 3) := by decide +kernel
theorem dX11_halt_8 : decode cX11_halt 8 = .ok (.iload_n 2, 1) := by decide +kernel
theorem dX11_halt_9 : decode cX11_halt 9 = .ok (.ifCond .lt 8, 3) := by decide +kernel
theorem dX11_halt_12 : decode cX11_halt 12 = .ok (.iload_n 2, 1) := by decide +kernel
theorem dX11_halt_13 : decode cX11_halt 13 = .ok (.iconst 2, 1) := by decide +kernel
theorem dX11_halt_14 : decode cX11_halt 14 = .ok (.if_icmp .le 11, 3) := by decide +kernel
theorem dX11_halt_17 : decode cX11_halt 17 = .ok (.new 124, 3) := by decide +kernel
theorem dX11_halt_20 : decode cX11_halt 20 = .ok (.dup, 1) := by decide +kernel
theorem dX11_halt_21 : decode cX11_halt 21 = .ok (.invokespecial 126, 3) := by decide +kernel
theorem dX11_halt_24 : decode cX11_halt 24 = .ok (.athrow, 1) := by decide +kernel
theorem dX11_halt_25 : decode cX11_halt 25 = .ok (.aload_n 0, 1) := by decide +kernel
theorem dX11_halt_26 : decode cX11_halt 26 = .ok (.getfield 30, 3) := by decide +kernel
theorem dX11_halt_29 : decode cX11_halt 29 = .ok (.getfield 105, 3) := by decide +kernel
theorem dX11_halt_32 : decode cX11_halt 32 = .ok (.getfield 135, 3) := by decide +kernel
theorem dX11_halt_35 : decode cX11_halt 35 = .ok (.iconst 3, 1) := by decide +kernel
theorem dX11_halt_36 : decode cX11_halt 36 = .ok (.iload_n 1, 1) := by decide +kernel
theorem dX11_halt_37 : decode cX11_halt 37 = .ok (.imul, 1) := by decide +kernel
theorem dX11_halt_38 : decode cX11_halt 38 = .ok (.iload_n 2, 1) := by decide +kernel
theorem dX11_halt_39 : decode cX11_halt 39 = .ok (.iadd, 1) := by decide +kernel
theorem dX11_halt_40 : decode cX11_halt 40 = .ok (.iaload, 1) := by decide +kernel
theorem dX11_halt_41 : decode cX11_halt 41 = .ok (.ireturn, 1) := by decide +kernel
theorem dX11_isHalt_0 : decode cX11_isHalt 0 = .ok (.iload_n 1, 1) := by decide +kernel
theorem dX11_isHalt_1 : decode cX11_isHalt 1 = .ok (.ifCond .lt 21, 3) := by decide +kernel
theorem dX11_isHalt_4 : decode cX11_isHalt 4 = .ok (.iload_n 1, 1) := by decide +kernel
theorem dX11_isHalt_5 : decode cX11_isHalt 5 = .ok (.aload_n 0, 1) := by decide +kernel
theorem dX11_isHalt_6 : decode cX11_isHalt 6 = .ok (.getfield 30, 3) := by decide +kernel
theorem dX11_isHalt_9 : decode cX11_isHalt 9 = .ok (.getfield 105, 3) := by decide +kernel
theorem dX11_isHalt_12 : decode cX11_isHalt 12 = .ok (.getfield 138, 3) := by decide +kernel
theorem dX11_isHalt_15 : decode cX11_isHalt 15 = .ok (.if_icmp .ge 7, 3) := by decide +kernel
theorem dX11_isHalt_18 : decode cX11_isHalt 18 = .ok (.iconst 1, 1) := by decide +kernel
theorem dX11_isHalt_19 : decode cX11_isHalt 19 = .ok (.goto 4, 3) := by decide +kernel
theorem dX11_isHalt_22 : decode cX11_isHalt 22 = .ok (.iconst 0, 1) := by decide +kernel
theorem dX11_isHalt_23 : decode cX11_isHalt 23 = .ok (.ireturn, 1) := by decide +kernel
theorem dX11_kind_0 : decode cX11_kind 0 = .ok (.aload_n 0, 1) := by decide +kernel
theorem dX11_kind_1 : decode cX11_kind 1 = .ok (.iload_n 1, 1) := by decide +kernel
theorem dX11_kind_2 : decode cX11_kind 2 = .ok (.invokevirtual 141, 3) := by decide +kernel
theorem dX11_kind_5 : decode cX11_kind 5 = .ok (.ifCond .eq 12, 3) := by decide +kernel
theorem dX11_kind_8 : decode cX11_kind 8 = .ok (.iload_n 2, 1) := by decide +kernel
theorem dX11_kind_9 : decode cX11_kind 9 = .ok (.ifCond .lt 8, 3) := by decide +kernel
theorem dX11_kind_12 : decode cX11_kind 12 = .ok (.iload_n 2, 1) := by decide +kernel
theorem dX11_kind_13 : decode cX11_kind 13 = .ok (.iconst 2, 1) := by decide +kernel
theorem dX11_kind_14 : decode cX11_kind 14 = .ok (.if_icmp .le 11, 3) := by decide +kernel
theorem dX11_kind_17 : decode cX11_kind 17 = .ok (.new 124, 3) := by decide +kernel
theorem dX11_kind_20 : decode cX11_kind 20 = .ok (.dup, 1) := by decide +kernel
theorem dX11_kind_21 : decode cX11_kind 21 = .ok (.invokespecial 126, 3) := by decide +kernel
theorem dX11_kind_24 : decode cX11_kind 24 = .ok (.athrow, 1) := by decide +kernel
theorem dX11_kind_25 : decode cX11_kind 25 = .ok (.aload_n 0, 1) := by decide +kernel
theorem dX11_kind_26 : decode cX11_kind 26 = .ok (.getfield 30, 3) := by decide +kernel
theorem dX11_kind_29 : decode cX11_kind 29 = .ok (.getfield 105, 3) := by decide +kernel
theorem dX11_kind_32 : decode cX11_kind 32 = .ok (.getfield 144, 3) := by decide +kernel
theorem dX11_kind_35 : decode cX11_kind 35 = .ok (.iconst 3, 1) := by decide +kernel
theorem dX11_kind_36 : decode cX11_kind 36 = .ok (.iload_n 1, 1) := by decide +kernel
theorem dX11_kind_37 : decode cX11_kind 37 = .ok (.imul, 1) := by decide +kernel
theorem dX11_kind_38 : decode cX11_kind 38 = .ok (.iload_n 2, 1) := by decide +kernel
theorem dX11_kind_39 : decode cX11_kind 39 = .ok (.iadd, 1) := by decide +kernel
theorem dX11_kind_40 : decode cX11_kind 40 = .ok (.iaload, 1) := by decide +kernel
theorem dX11_kind_41 : decode cX11_kind 41 = .ok (.ireturn, 1) := by decide +kernel
theorem dX11_isKind_0 : decode cX11_isKind 0 = .ok (.iload_n 1, 1) := by decide +kernel
theorem dX11_isKind_1 : decode cX11_isKind 1 = .ok (.ifCond .lt 21, 3) := by decide +kernel
theorem dX11_isKind_4 : decode cX11_isKind 4 = .ok (.iload_n 1, 1) := by decide +kernel
theorem dX11_isKind_5 : decode cX11_isKind 5 = .ok (.aload_n 0, 1) := by decide +kernel
theorem dX11_isKind_6 : decode cX11_isKind 6 = .ok (.getfield 30, 3) := by decide +kernel
theorem dX11_isKind_9 : decode cX11_isKind 9 = .ok (.getfield 105, 3) := by decide +kernel
theorem dX11_isKind_12 : decode cX11_isKind 12 = .ok (.getfield 147, 3) := by decide +kernel
theorem dX11_isKind_15 : decode cX11_isKind 15 = .ok (.if_icmp .ge 7, 3) := by decide +kernel
theorem dX11_isKind_18 : decode cX11_isKind 18 = .ok (.iconst 1, 1) := by decide +kernel
theorem dX11_isKind_19 : decode cX11_isKind 19 = .ok (.goto 4, 3) := by decide +kernel
theorem dX11_isKind_22 : decode cX11_isKind 22 = .ok (.iconst 0, 1) := by decide +kernel
theorem dX11_isKind_23 : decode cX11_isKind 23 = .ok (.ireturn, 1) := by decide +kernel
theorem dX11_train_0 : decode cX11_train 0 = .ok (.aload_n 0, 1) := by decide +kernel
theorem dX11_train_1 : decode cX11_train 1 = .ok (.getfield 30, 3) := by decide +kernel
theorem dX11_train_4 : decode cX11_train 4 = .ok (.getfield 108, 3) := by decide +kernel
theorem dX11_train_7 : decode cX11_train 7 = .ok (.getfield 150, 3) := by decide +kernel
theorem dX11_train_10 : decode cX11_train 10 = .ok (.astore_n 2, 1) := by decide +kernel
theorem dX11_train_11 : decode cX11_train 11 = .ok (.iload_n 1, 1) := by decide +kernel
theorem dX11_train_12 : decode cX11_train 12 = .ok (.tableswitch 123 0 7 #[48, 53, 58, 69, 76, 92, 104, 109], 48) := by decide +kernel
theorem dX11_train_60 : decode cX11_train 60 = .ok (.aload_n 2, 1) := by decide +kernel
theorem dX11_train_61 : decode cX11_train 61 = .ok (.getfield 154, 3) := by decide +kernel
theorem dX11_train_64 : decode cX11_train 64 = .ok (.ireturn, 1) := by decide +kernel
theorem dX11_train_65 : decode cX11_train 65 = .ok (.aload_n 2, 1) := by decide +kernel
theorem dX11_train_66 : decode cX11_train 66 = .ok (.getfield 159, 3) := by decide +kernel
theorem dX11_train_69 : decode cX11_train 69 = .ok (.ireturn, 1) := by decide +kernel
theorem dX11_train_70 : decode cX11_train 70 = .ok (.aload_n 0, 1) := by decide +kernel
theorem dX11_train_71 : decode cX11_train 71 = .ok (.getfield 30, 3) := by decide +kernel
theorem dX11_train_74 : decode cX11_train 74 = .ok (.getfield 108, 3) := by decide +kernel
theorem dX11_train_77 : decode cX11_train 77 = .ok (.getfield 162, 3) := by decide +kernel
theorem dX11_train_80 : decode cX11_train 80 = .ok (.ireturn, 1) := by decide +kernel
theorem dX11_train_81 : decode cX11_train 81 = .ok (.iconst 1, 1) := by decide +kernel
theorem dX11_train_82 : decode cX11_train 82 = .ok (.aload_n 2, 1) := by decide +kernel
theorem dX11_train_83 : decode cX11_train 83 = .ok (.getfield 165, 3) := by decide +kernel
theorem dX11_train_86 : decode cX11_train 86 = .ok (.iadd, 1) := by decide +kernel
theorem dX11_train_87 : decode cX11_train 87 = .ok (.ireturn, 1) := by decide +kernel
theorem dX11_train_88 : decode cX11_train 88 = .ok (.aload_n 0, 1) := by decide +kernel
theorem dX11_train_89 : decode cX11_train 89 = .ok (.getfield 30, 3) := by decide +kernel
theorem dX11_train_92 : decode cX11_train 92 = .ok (.getfield 105, 3) := by decide +kernel
theorem dX11_train_95 : decode cX11_train 95 = .ok (.getfield 168, 3) := by decide +kernel
theorem dX11_train_98 : decode cX11_train 98 = .ok (.aload_n 2, 1) := by decide +kernel
theorem dX11_train_99 : decode cX11_train 99 = .ok (.invokevirtual 171, 3) := by decide +kernel
theorem dX11_train_102 : decode cX11_train 102 = .ok (.iadd, 1) := by decide +kernel
theorem dX11_train_103 : decode cX11_train 103 = .ok (.ireturn, 1) := by decide +kernel
theorem dX11_train_104 : decode cX11_train 104 = .ok (.aload_n 2, 1) := by decide +kernel
theorem dX11_train_105 : decode cX11_train 105 = .ok (.aload_n 0, 1) := by decide +kernel
theorem dX11_train_106 : decode cX11_train 106 = .ok (.getfield 30, 3) := by decide +kernel
theorem dX11_train_109 : decode cX11_train 109 = .ok (.getfield 105, 3) := by decide +kernel
theorem dX11_train_112 : decode cX11_train 112 = .ok (.invokevirtual 174, 3) := by decide +kernel
theorem dX11_train_115 : decode cX11_train 115 = .ok (.ireturn, 1) := by decide +kernel
theorem dX11_train_116 : decode cX11_train 116 = .ok (.aload_n 2, 1) := by decide +kernel
theorem dX11_train_117 : decode cX11_train 117 = .ok (.invokevirtual 178, 3) := by decide +kernel
theorem dX11_train_120 : decode cX11_train 120 = .ok (.ireturn, 1) := by decide +kernel
theorem dX11_train_121 : decode cX11_train 121 = .ok (.aload_n 0, 1) := by decide +kernel
theorem dX11_train_122 : decode cX11_train 122 = .ok (.getfield 30, 3) := by decide +kernel
theorem dX11_train_125 : decode cX11_train 125 = .ok (.getfield 108, 3) := by decide +kernel
theorem dX11_train_128 : decode cX11_train 128 = .ok (.getfield 181, 3) := by decide +kernel
theorem dX11_train_131 : decode cX11_train 131 = .ok (.getfield 185, 3) := by decide +kernel
theorem dX11_train_134 : decode cX11_train 134 = .ok (.ireturn, 1) := by decide +kernel
theorem dX11_train_135 : decode cX11_train 135 = .ok (.iconst (-1), 1) := by decide +kernel
theorem dX11_train_136 : decode cX11_train 136 = .ok (.ireturn, 1) := by decide +kernel
theorem dX11_wagon_0 : decode cX11_wagon 0 = .ok (.aload_n 0, 1) := by decide +kernel
theorem dX11_wagon_1 : decode cX11_wagon 1 = .ok (.getfield 30, 3) := by decide +kernel
theorem dX11_wagon_4 : decode cX11_wagon 4 = .ok (.getfield 108, 3) := by decide +kernel
theorem dX11_wagon_7 : decode cX11_wagon 7 = .ok (.getfield 150, 3) := by decide +kernel
theorem dX11_wagon_10 : decode cX11_wagon 10 = .ok (.astore_n 3, 1) := by decide +kernel
theorem dX11_wagon_11 : decode cX11_wagon 11 = .ok (.iload_n 1, 1) := by decide +kernel
theorem dX11_wagon_12 : decode cX11_wagon 12 = .ok (.ifCond .lt 20, 3) := by decide +kernel
theorem dX11_wagon_15 : decode cX11_wagon 15 = .ok (.iload_n 1, 1) := by decide +kernel
theorem dX11_wagon_16 : decode cX11_wagon 16 = .ok (.aload_n 3, 1) := by decide +kernel
theorem dX11_wagon_17 : decode cX11_wagon 17 = .ok (.getfield 159, 3) := by decide +kernel
theorem dX11_wagon_20 : decode cX11_wagon 20 = .ok (.if_icmp .ge 12, 3) := by decide +kernel
theorem dX11_wagon_23 : decode cX11_wagon 23 = .ok (.iload_n 2, 1) := by decide +kernel
theorem dX11_wagon_24 : decode cX11_wagon 24 = .ok (.ifCond .lt 8, 3) := by decide +kernel
theorem dX11_wagon_27 : decode cX11_wagon 27 = .ok (.iload_n 2, 1) := by decide +kernel
theorem dX11_wagon_28 : decode cX11_wagon 28 = .ok (.iconst 4, 1) := by decide +kernel
theorem dX11_wagon_29 : decode cX11_wagon 29 = .ok (.if_icmp .le 11, 3) := by decide +kernel
theorem dX11_wagon_32 : decode cX11_wagon 32 = .ok (.new 124, 3) := by decide +kernel
theorem dX11_wagon_35 : decode cX11_wagon 35 = .ok (.dup, 1) := by decide +kernel
theorem dX11_wagon_36 : decode cX11_wagon 36 = .ok (.invokespecial 126, 3) := by decide +kernel
theorem dX11_wagon_39 : decode cX11_wagon 39 = .ok (.athrow, 1) := by decide +kernel
theorem dX11_wagon_40 : decode cX11_wagon 40 = .ok (.iload_n 2, 1) := by decide +kernel
theorem dX11_wagon_41 : decode cX11_wagon 41 = .ok (.tableswitch 64 0 3 #[31, 38, 44, 57], 31) := by decide +kernel
theorem dX11_wagon_72 : decode cX11_wagon 72 = .ok (.aload_n 3, 1) := by decide +kernel
theorem dX11_wagon_73 : decode cX11_wagon 73 = .ok (.getfield 188, 3) := by decide +kernel
theorem dX11_wagon_76 : decode cX11_wagon 76 = .ok (.iload_n 1, 1) := by decide +kernel
theorem dX11_wagon_77 : decode cX11_wagon 77 = .ok (.iaload, 1) := by decide +kernel
theorem dX11_wagon_78 : decode cX11_wagon 78 = .ok (.ireturn, 1) := by decide +kernel
theorem dX11_wagon_79 : decode cX11_wagon 79 = .ok (.aload_n 3, 1) := by decide +kernel
theorem dX11_wagon_80 : decode cX11_wagon 80 = .ok (.iload_n 1, 1) := by decide +kernel
theorem dX11_wagon_81 : decode cX11_wagon 81 = .ok (.invokevirtual 189, 3) := by decide +kernel
theorem dX11_wagon_84 : decode cX11_wagon 84 = .ok (.ireturn, 1) := by decide +kernel
theorem dX11_wagon_85 : decode cX11_wagon 85 = .ok (.aload_n 3, 1) := by decide +kernel
theorem dX11_wagon_86 : decode cX11_wagon 86 = .ok (.iload_n 1, 1) := by decide +kernel
theorem dX11_wagon_87 : decode cX11_wagon 87 = .ok (.aload_n 0, 1) := by decide +kernel
theorem dX11_wagon_88 : decode cX11_wagon 88 = .ok (.getfield 30, 3) := by decide +kernel
theorem dX11_wagon_91 : decode cX11_wagon 91 = .ok (.getfield 105, 3) := by decide +kernel
theorem dX11_wagon_94 : decode cX11_wagon 94 = .ok (.invokevirtual 192, 3) := by decide +kernel
theorem dX11_wagon_97 : decode cX11_wagon 97 = .ok (.ireturn, 1) := by decide +kernel
theorem dX11_wagon_98 : decode cX11_wagon 98 = .ok (.aload_n 3, 1) := by decide +kernel
theorem dX11_wagon_99 : decode cX11_wagon 99 = .ok (.getfield 196, 3) := by decide +kernel
theorem dX11_wagon_102 : decode cX11_wagon 102 = .ok (.iload_n 1, 1) := by decide +kernel
theorem dX11_wagon_103 : decode cX11_wagon 103 = .ok (.iaload, 1) := by decide +kernel
theorem dX11_wagon_104 : decode cX11_wagon 104 = .ok (.ireturn, 1) := by decide +kernel
theorem dX11_wagon_105 : decode cX11_wagon 105 = .ok (.aload_n 0, 1) := by decide +kernel
theorem dX11_wagon_106 : decode cX11_wagon 106 = .ok (.getfield 30, 3) := by decide +kernel
theorem dX11_wagon_109 : decode cX11_wagon 109 = .ok (.getfield 105, 3) := by decide +kernel
theorem dX11_wagon_112 : decode cX11_wagon 112 = .ok (.aload_n 3, 1) := by decide +kernel
theorem dX11_wagon_113 : decode cX11_wagon 113 = .ok (.getfield 199, 3) := by decide +kernel
theorem dX11_wagon_116 : decode cX11_wagon 116 = .ok (.iload_n 1, 1) := by decide +kernel
theorem dX11_wagon_117 : decode cX11_wagon 117 = .ok (.iaload, 1) := by decide +kernel
theorem dX11_wagon_118 : decode cX11_wagon 118 = .ok (.aload_n 3, 1) := by decide +kernel
theorem dX11_wagon_119 : decode cX11_wagon 119 = .ok (.iload_n 1, 1) := by decide +kernel
theorem dX11_wagon_120 : decode cX11_wagon 120 = .ok (.invokevirtual 189, 3) := by decide +kernel
theorem dX11_wagon_123 : decode cX11_wagon 123 = .ok (.invokevirtual 202, 3) := by decide +kernel
theorem dX11_wagon_126 : decode cX11_wagon 126 = .ok (.ireturn, 1) := by decide +kernel
theorem dX11_half_0 : decode cX11_half 0 = .ok (.aload_n 0, 1) := by decide +kernel
theorem dX11_half_1 : decode cX11_half 1 = .ok (.getfield 30, 3) := by decide +kernel
theorem dX11_half_4 : decode cX11_half 4 = .ok (.getfield 108, 3) := by decide +kernel
theorem dX11_half_7 : decode cX11_half 7 = .ok (.getfield 181, 3) := by decide +kernel
theorem dX11_half_10 : decode cX11_half 10 = .ok (.astore_n 3, 1) := by decide +kernel
theorem dX11_half_11 : decode cX11_half 11 = .ok (.iload_n 1, 1) := by decide +kernel
theorem dX11_half_12 : decode cX11_half 12 = .ok (.ifCond .lt 20, 3) := by decide +kernel
theorem dX11_half_15 : decode cX11_half 15 = .ok (.iload_n 1, 1) := by decide +kernel
theorem dX11_half_16 : decode cX11_half 16 = .ok (.aload_n 3, 1) := by decide +kernel
theorem dX11_half_17 : decode cX11_half 17 = .ok (.getfield 185, 3) := by decide +kernel
theorem dX11_half_20 : decode cX11_half 20 = .ok (.if_icmp .ge 12, 3) := by decide +kernel
theorem dX11_half_23 : decode cX11_half 23 = .ok (.iload_n 2, 1) := by decide +kernel
theorem dX11_half_24 : decode cX11_half 24 = .ok (.ifCond .lt 8, 3) := by decide +kernel
theorem dX11_half_27 : decode cX11_half 27 = .ok (.iload_n 2, 1) := by decide +kernel
theorem dX11_half_28 : decode cX11_half 28 = .ok (.iconst 4, 1) := by decide +kernel
theorem dX11_half_29 : decode cX11_half 29 = .ok (.if_icmp .le 11, 3) := by decide +kernel
theorem dX11_half_32 : decode cX11_half 32 = .ok (.new 124, 3) := by decide +kernel
theorem dX11_half_35 : decode cX11_half 35 = .ok (.dup, 1) := by decide +kernel
theorem dX11_half_36 : decode cX11_half 36 = .ok (.invokespecial 126, 3) := by decide +kernel
theorem dX11_half_39 : decode cX11_half 39 = .ok (.athrow, 1) := by decide +kernel
theorem dX11_half_40 : decode cX11_half 40 = .ok (.iload_n 2, 1) := by decide +kernel
theorem dX11_half_41 : decode cX11_half 41 = .ok (.tableswitch 75 0 3 #[31, 38, 45, 58], 31) := by decide +kernel
theorem dX11_half_72 : decode cX11_half 72 = .ok (.aload_n 3, 1) := by decide +kernel
theorem dX11_half_73 : decode cX11_half 73 = .ok (.getfield 206, 3) := by decide +kernel
theorem dX11_half_76 : decode cX11_half 76 = .ok (.iload_n 1, 1) := by decide +kernel
theorem dX11_half_77 : decode cX11_half 77 = .ok (.iaload, 1) := by decide +kernel
theorem dX11_half_78 : decode cX11_half 78 = .ok (.ireturn, 1) := by decide +kernel
theorem dX11_half_79 : decode cX11_half 79 = .ok (.aload_n 3, 1) := by decide +kernel
theorem dX11_half_80 : decode cX11_half 80 = .ok (.getfield 209, 3) := by decide +kernel
theorem dX11_half_83 : decode cX11_half 83 = .ok (.iload_n 1, 1) := by decide +kernel
theorem dX11_half_84 : decode cX11_half 84 = .ok (.iaload, 1) := by decide +kernel
theorem dX11_half_85 : decode cX11_half 85 = .ok (.ireturn, 1) := by decide +kernel
theorem dX11_half_86 : decode cX11_half 86 = .ok (.aload_n 3, 1) := by decide +kernel
theorem dX11_half_87 : decode cX11_half 87 = .ok (.iload_n 1, 1) := by decide +kernel
theorem dX11_half_88 : decode cX11_half 88 = .ok (.aload_n 0, 1) := by decide +kernel
theorem dX11_half_89 : decode cX11_half 89 = .ok (.getfield 30, 3) := by decide +kernel
theorem dX11_half_92 : decode cX11_half 92 = .ok (.getfield 105, 3) := by decide +kernel
theorem dX11_half_95 : decode cX11_half 95 = .ok (.invokevirtual 211, 3) := by decide +kernel
theorem dX11_half_98 : decode cX11_half 98 = .ok (.ireturn, 1) := by decide +kernel
theorem dX11_half_99 : decode cX11_half 99 = .ok (.aload_n 0, 1) := by decide +kernel
theorem dX11_half_100 : decode cX11_half 100 = .ok (.getfield 30, 3) := by decide +kernel
theorem dX11_half_103 : decode cX11_half 103 = .ok (.getfield 105, 3) := by decide +kernel
theorem dX11_half_106 : decode cX11_half 106 = .ok (.aload_n 3, 1) := by decide +kernel
theorem dX11_half_107 : decode cX11_half 107 = .ok (.getfield 209, 3) := by decide +kernel
theorem dX11_half_110 : decode cX11_half 110 = .ok (.iload_n 1, 1) := by decide +kernel
theorem dX11_half_111 : decode cX11_half 111 = .ok (.iaload, 1) := by decide +kernel
theorem dX11_half_112 : decode cX11_half 112 = .ok (.invokevirtual 214, 3) := by decide +kernel
theorem dX11_half_115 : decode cX11_half 115 = .ok (.ireturn, 1) := by decide +kernel
theorem dX11_half_116 : decode cX11_half 116 = .ok (.aload_n 3, 1) := by decide +kernel
theorem dX11_half_117 : decode cX11_half 117 = .ok (.iload_n 1, 1) := by decide +kernel
theorem dX11_half_118 : decode cX11_half 118 = .ok (.aload_n 0, 1) := by decide +kernel
theorem dX11_half_119 : decode cX11_half 119 = .ok (.getfield 30, 3) := by decide +kernel
theorem dX11_half_122 : decode cX11_half 122 = .ok (.getfield 105, 3) := by decide +kernel
theorem dX11_half_125 : decode cX11_half 125 = .ok (.invokevirtual 217, 3) := by decide +kernel
theorem dX11_half_128 : decode cX11_half 128 = .ok (.ireturn, 1) := by decide +kernel
theorem dX11_go_0 : decode cX11_go 0 = .ok (.iload_n 1, 1) := by decide +kernel
theorem dX11_go_1 : decode cX11_go 1 = .ok (.ifCond .lt 19, 3) := by decide +kernel
theorem dX11_go_4 : decode cX11_go 4 = .ok (.iload_n 1, 1) := by decide +kernel
theorem dX11_go_5 : decode cX11_go 5 = .ok (.sipush 400, 3) := by decide +kernel
theorem dX11_go_8 : decode cX11_go 8 = .ok (.if_icmp .gt 12, 3) := by decide +kernel
theorem dX11_go_11 : decode cX11_go 11 = .ok (.iload_n 2, 1) := by decide +kernel
theorem dX11_go_12 : decode cX11_go 12 = .ok (.ifCond .lt 8, 3) := by decide +kernel
theorem dX11_go_15 : decode cX11_go 15 = .ok (.iload_n 2, 1) := by decide +kernel
theorem dX11_go_16 : decode cX11_go 16 = .ok (.iconst 1, 1) := by decide +kernel
theorem dX11_go_17 : decode cX11_go 17 = .ok (.if_icmp .le 5, 3) := by decide +kernel
theorem dX11_go_20 : decode cX11_go 20 = .ok (.iconst (-1), 1) := by decide +kernel
theorem dX11_go_21 : decode cX11_go 21 = .ok (.ireturn, 1) := by decide +kernel
theorem dX11_go_22 : decode cX11_go 22 = .ok (.iconst 0, 1) := by decide +kernel
theorem dX11_go_23 : decode cX11_go 23 = .ok (.istore_n 3, 1) := by decide +kernel
theorem dX11_go_24 : decode cX11_go 24 = .ok (.iload_n 3, 1) := by decide +kernel
theorem dX11_go_25 : decode cX11_go 25 = .ok (.iload_n 1, 1) := by decide +kernel
theorem dX11_go_26 : decode cX11_go 26 = .ok (.if_icmp .ge 39, 3) := by decide +kernel
theorem dX11_go_29 : decode cX11_go 29 = .ok (.aload_n 0, 1) := by decide +kernel
theorem dX11_go_30 : decode cX11_go 30 = .ok (.getfield 30, 3) := by decide +kernel
theorem dX11_go_33 : decode cX11_go 33 = .ok (.getfield 108, 3) := by decide +kernel
theorem dX11_go_36 : decode cX11_go 36 = .ok (.aload_n 0, 1) := by decide +kernel
theorem dX11_go_37 : decode cX11_go 37 = .ok (.getfield 30, 3) := by decide +kernel
theorem dX11_go_40 : decode cX11_go 40 = .ok (.getfield 105, 3) := by decide +kernel
theorem dX11_go_43 : decode cX11_go 43 = .ok (.iload_n 2, 1) := by decide +kernel
theorem dX11_go_44 : decode cX11_go 44 = .ok (.iconst 1, 1) := by decide +kernel
theorem dX11_go_45 : decode cX11_go 45 = .ok (.if_icmp .ne 7, 3) := by decide +kernel
theorem dX11_go_48 : decode cX11_go 48 = .ok (.iconst 1, 1) := by decide +kernel
theorem dX11_go_49 : decode cX11_go 49 = .ok (.goto 4, 3) := by decide +kernel
theorem dX11_go_52 : decode cX11_go 52 = .ok (.iconst 0, 1) := by decide +kernel
theorem dX11_go_53 : decode cX11_go 53 = .ok (.invokevirtual 219, 3) := by decide +kernel
theorem dX11_go_56 : decode cX11_go 56 = .ok (.ifCond .ne 9, 3) := by decide +kernel
theorem dX11_go_59 : decode cX11_go 59 = .ok (.iinc 3 1, 3) := by decide +kernel
theorem dX11_go_62 : decode cX11_go 62 = .ok (.goto (-38), 3) := by decide +kernel
theorem dX11_go_65 : decode cX11_go 65 = .ok (.iload_n 3, 1) := by decide +kernel
theorem dX11_go_66 : decode cX11_go 66 = .ok (.ireturn, 1) := by decide +kernel
theorem dX11_strain_0 : decode cX11_strain 0 = .ok (.aload_n 0, 1) := by decide +kernel
theorem dX11_strain_1 : decode cX11_strain 1 = .ok (.iload_n 1, 1) := by decide +kernel
theorem dX11_strain_2 : decode cX11_strain 2 = .ok (.iload_n 2, 1) := by decide +kernel
theorem dX11_strain_3 : decode cX11_strain 3 = .ok (.iload_n 3, 1) := by decide +kernel
theorem dX11_strain_4 : decode cX11_strain 4 = .ok (.iconst 1, 1) := by decide +kernel
theorem dX11_strain_5 : decode cX11_strain 5 = .ok (.invokevirtual 223, 3) := by decide +kernel
theorem dX11_strain_8 : decode cX11_strain 8 = .ok (.ireturn, 1) := by decide +kernel
theorem dX11_squeeze_0 : decode cX11_squeeze 0 = .ok (.aload_n 0, 1) := by decide +kernel
theorem dX11_squeeze_1 : decode cX11_squeeze 1 = .ok (.iload_n 1, 1) := by decide +kernel
theorem dX11_squeeze_2 : decode cX11_squeeze 2 = .ok (.iload_n 2, 1) := by decide +kernel
theorem dX11_squeeze_3 : decode cX11_squeeze 3 = .ok (.iload_n 3, 1) := by decide +kernel
theorem dX11_squeeze_4 : decode cX11_squeeze 4 = .ok (.iconst 0, 1) := by decide +kernel
theorem dX11_squeeze_5 : decode cX11_squeeze 5 = .ok (.invokevirtual 223, 3) := by decide +kernel
theorem dX11_squeeze_8 : decode cX11_squeeze 8 = .ok (.ireturn, 1) := by decide +kernel
theorem dX11_borne_0 : decode cX11_borne 0 = .ok (.iload_n 3, 1) := by decide +kernel
theorem dX11_borne_1 : decode cX11_borne 1 = .ok (.ifCond .lt 8, 3) := by decide +kernel
theorem dX11_borne_4 : decode cX11_borne 4 = .ok (.iload_n 3, 1) := by decide +kernel
theorem dX11_borne_5 : decode cX11_borne 5 = .ok (.iconst 2, 1) := by decide +kernel
theorem dX11_borne_6 : decode cX11_borne 6 = .ok (.if_icmp .le 11, 3) := by decide +kernel
theorem dX11_borne_9 : decode cX11_borne 9 = .ok (.new 124, 3) := by decide +kernel
theorem dX11_borne_12 : decode cX11_borne 12 = .ok (.dup, 1) := by decide +kernel
theorem dX11_borne_13 : decode cX11_borne 13 = .ok (.invokespecial 126, 3) := by decide +kernel
theorem dX11_borne_16 : decode cX11_borne 16 = .ok (.athrow, 1) := by decide +kernel
theorem dX11_borne_17 : decode cX11_borne 17 = .ok (.aload_n 0, 1) := by decide +kernel
theorem dX11_borne_18 : decode cX11_borne 18 = .ok (.iload_n 1, 1) := by decide +kernel
theorem dX11_borne_19 : decode cX11_borne 19 = .ok (.iload_n 2, 1) := by decide +kernel
theorem dX11_borne_20 : decode cX11_borne 20 = .ok (.invokevirtual 227, 3) := by decide +kernel
theorem dX11_borne_23 : decode cX11_borne 23 = .ok (.ifCond .eq 24, 3) := by decide +kernel
theorem dX11_borne_26 : decode cX11_borne 26 = .ok (.aload_n 0, 1) := by decide +kernel
theorem dX11_borne_27 : decode cX11_borne 27 = .ok (.getfield 55, 3) := by decide +kernel
theorem dX11_borne_30 : decode cX11_borne 30 = .ok (.aload_n 0, 1) := by decide +kernel
theorem dX11_borne_31 : decode cX11_borne 31 = .ok (.getfield 30, 3) := by decide +kernel
theorem dX11_borne_34 : decode cX11_borne 34 = .ok (.getfield 105, 3) := by decide +kernel
theorem dX11_borne_37 : decode cX11_borne 37 = .ok (.iload_n 1, 1) := by decide +kernel
theorem dX11_borne_38 : decode cX11_borne 38 = .ok (.iload_n 2, 1) := by decide +kernel
theorem dX11_borne_39 : decode cX11_borne 39 = .ok (.iload 4, 2) := by decide +kernel
theorem dX11_borne_41 : decode cX11_borne 41 = .ok (.invokevirtual 231, 3) := by decide +kernel
theorem dX11_borne_44 : decode cX11_borne 44 = .ok (.ifCond .ne 5, 3) := by decide +kernel
theorem dX11_borne_47 : decode cX11_borne 47 = .ok (.iconst (-1), 1) := by decide +kernel
theorem dX11_borne_48 : decode cX11_borne 48 = .ok (.ireturn, 1) := by decide +kernel
theorem dX11_borne_49 : decode cX11_borne 49 = .ok (.iload_n 3, 1) := by decide +kernel
theorem dX11_borne_50 : decode cX11_borne 50 = .ok (.ifCond .ne 13, 3) := by decide +kernel
theorem dX11_borne_53 : decode cX11_borne 53 = .ok (.aload_n 0, 1) := by decide +kernel
theorem dX11_borne_54 : decode cX11_borne 54 = .ok (.getfield 55, 3) := by decide +kernel
theorem dX11_borne_57 : decode cX11_borne 57 = .ok (.getfield 235, 3) := by decide +kernel
theorem dX11_borne_60 : decode cX11_borne 60 = .ok (.goto 25, 3) := by decide +kernel
theorem dX11_borne_63 : decode cX11_borne 63 = .ok (.iload_n 3, 1) := by decide +kernel
theorem dX11_borne_64 : decode cX11_borne 64 = .ok (.iconst 1, 1) := by decide +kernel
theorem dX11_borne_65 : decode cX11_borne 65 = .ok (.if_icmp .ne 13, 3) := by decide +kernel
theorem dX11_borne_68 : decode cX11_borne 68 = .ok (.aload_n 0, 1) := by decide +kernel
theorem dX11_borne_69 : decode cX11_borne 69 = .ok (.getfield 55, 3) := by decide +kernel
theorem dX11_borne_72 : decode cX11_borne 72 = .ok (.getfield 238, 3) := by decide +kernel
theorem dX11_borne_75 : decode cX11_borne 75 = .ok (.goto 10, 3) := by decide +kernel
theorem dX11_borne_78 : decode cX11_borne 78 = .ok (.aload_n 0, 1) := by decide +kernel
theorem dX11_borne_79 : decode cX11_borne 79 = .ok (.getfield 55, 3) := by decide +kernel
theorem dX11_borne_82 : decode cX11_borne 82 = .ok (.getfield 241, 3) := by decide +kernel
theorem dX11_borne_85 : decode cX11_borne 85 = .ok (.ireturn, 1) := by decide +kernel
theorem dX11_isUnit_0 : decode cX11_isUnit 0 = .ok (.iload_n 1, 1) := by decide +kernel
theorem dX11_isUnit_1 : decode cX11_isUnit 1 = .ok (.ifCond .lt 21, 3) := by decide +kernel
theorem dX11_isUnit_4 : decode cX11_isUnit 4 = .ok (.iload_n 1, 1) := by decide +kernel
theorem dX11_isUnit_5 : decode cX11_isUnit 5 = .ok (.aload_n 0, 1) := by decide +kernel
theorem dX11_isUnit_6 : decode cX11_isUnit 6 = .ok (.getfield 30, 3) := by decide +kernel
theorem dX11_isUnit_9 : decode cX11_isUnit 9 = .ok (.getfield 105, 3) := by decide +kernel
theorem dX11_isUnit_12 : decode cX11_isUnit 12 = .ok (.getfield 121, 3) := by decide +kernel
theorem dX11_isUnit_15 : decode cX11_isUnit 15 = .ok (.if_icmp .ge 7, 3) := by decide +kernel
theorem dX11_isUnit_18 : decode cX11_isUnit 18 = .ok (.iconst 1, 1) := by decide +kernel
theorem dX11_isUnit_19 : decode cX11_isUnit 19 = .ok (.goto 4, 3) := by decide +kernel
theorem dX11_isUnit_22 : decode cX11_isUnit 22 = .ok (.iconst 0, 1) := by decide +kernel
theorem dX11_isUnit_23 : decode cX11_isUnit 23 = .ok (.ireturn, 1) := by decide +kernel
theorem dX11_isWay_0 : decode cX11_isWay 0 = .ok (.aload_n 0, 1) := by decide +kernel
theorem dX11_isWay_1 : decode cX11_isWay 1 = .ok (.iload_n 1, 1) := by decide +kernel
theorem dX11_isWay_2 : decode cX11_isWay 2 = .ok (.invokevirtual 244, 3) := by decide +kernel
theorem dX11_isWay_5 : decode cX11_isWay 5 = .ok (.ifCond .eq 20, 3) := by decide +kernel
theorem dX11_isWay_8 : decode cX11_isWay 8 = .ok (.aload_n 0, 1) := by decide +kernel
theorem dX11_isWay_9 : decode cX11_isWay 9 = .ok (.iload_n 2, 1) := by decide +kernel
theorem dX11_isWay_10 : decode cX11_isWay 10 = .ok (.invokevirtual 244, 3) := by decide +kernel
theorem dX11_isWay_13 : decode cX11_isWay 13 = .ok (.ifCond .eq 12, 3) := by decide +kernel
theorem dX11_isWay_16 : decode cX11_isWay 16 = .ok (.iload_n 1, 1) := by decide +kernel
theorem dX11_isWay_17 : decode cX11_isWay 17 = .ok (.iload_n 2, 1) := by decide +kernel
theorem dX11_isWay_18 : decode cX11_isWay 18 = .ok (.if_icmp .gt 7, 3) := by decide +kernel
theorem dX11_isWay_21 : decode cX11_isWay 21 = .ok (.iconst 1, 1) := by decide +kernel
theorem dX11_isWay_22 : decode cX11_isWay 22 = .ok (.goto 4, 3) := by decide +kernel
theorem dX11_isWay_25 : decode cX11_isWay 25 = .ok (.iconst 0, 1) := by decide +kernel
theorem dX11_isWay_26 : decode cX11_isWay 26 = .ok (.ireturn, 1) := by decide +kernel
theorem dX11_isRunUp_0 : decode cX11_isRunUp 0 = .ok (.iload_n 0, 1) := by decide +kernel
theorem dX11_isRunUp_1 : decode cX11_isRunUp 1 = .ok (.ifCond .lt 13, 3) := by decide +kernel
theorem dX11_isRunUp_4 : decode cX11_isRunUp 4 = .ok (.iload_n 0, 1) := by decide +kernel
theorem dX11_isRunUp_5 : decode cX11_isRunUp 5 = .ok (.ldc 247, 2) := by decide +kernel
theorem dX11_isRunUp_7 : decode cX11_isRunUp 7 = .ok (.if_icmp .gt 7, 3) := by decide +kernel
theorem dX11_isRunUp_10 : decode cX11_isRunUp 10 = .ok (.iconst 1, 1) := by decide +kernel
theorem dX11_isRunUp_11 : decode cX11_isRunUp 11 = .ok (.goto 4, 3) := by decide +kernel
theorem dX11_isRunUp_14 : decode cX11_isRunUp 14 = .ok (.iconst 0, 1) := by decide +kernel
theorem dX11_isRunUp_15 : decode cX11_isRunUp 15 = .ok (.ireturn, 1) := by decide +kernel
theorem dX11_span_0 : decode cX11_span 0 = .ok (.aload_n 0, 1) := by decide +kernel
theorem dX11_span_1 : decode cX11_span 1 = .ok (.iload_n 1, 1) := by decide +kernel
theorem dX11_span_2 : decode cX11_span 2 = .ok (.invokevirtual 244, 3) := by decide +kernel
theorem dX11_span_5 : decode cX11_span 5 = .ok (.ifCond .eq 20, 3) := by decide +kernel
theorem dX11_span_8 : decode cX11_span 8 = .ok (.aload_n 0, 1) := by decide +kernel
theorem dX11_span_9 : decode cX11_span 9 = .ok (.iload_n 2, 1) := by decide +kernel
theorem dX11_span_10 : decode cX11_span 10 = .ok (.invokevirtual 244, 3) := by decide +kernel
theorem dX11_span_13 : decode cX11_span 13 = .ok (.ifCond .eq 12, 3) := by decide +kernel
theorem dX11_span_16 : decode cX11_span 16 = .ok (.iload_n 3, 1) := by decide +kernel
theorem dX11_span_17 : decode cX11_span 17 = .ok (.ifCond .lt 8, 3) := by decide +kernel
theorem dX11_span_20 : decode cX11_span 20 = .ok (.iload_n 3, 1) := by decide +kernel
theorem dX11_span_21 : decode cX11_span 21 = .ok (.iconst 1, 1) := by decide +kernel
theorem dX11_span_22 : decode cX11_span 22 = .ok (.if_icmp .le 5, 3) := by decide +kernel
theorem dX11_span_25 : decode cX11_span 25 = .ok (.iconst (-1), 1) := by decide +kernel
theorem dX11_span_26 : decode cX11_span 26 = .ok (.ireturn, 1) := by decide +kernel
theorem dX11_span_27 : decode cX11_span 27 = .ok (.aload_n 0, 1) := by decide +kernel
theorem dX11_span_28 : decode cX11_span 28 = .ok (.getfield 55, 3) := by decide +kernel
theorem dX11_span_31 : decode cX11_span 31 = .ok (.aload_n 0, 1) := by decide +kernel
theorem dX11_span_32 : decode cX11_span 32 = .ok (.getfield 30, 3) := by decide +kernel
theorem dX11_span_35 : decode cX11_span 35 = .ok (.getfield 105, 3) := by decide +kernel
theorem dX11_span_38 : decode cX11_span 38 = .ok (.iload_n 1, 1) := by decide +kernel
theorem dX11_span_39 : decode cX11_span 39 = .ok (.iload_n 2, 1) := by decide +kernel
theorem dX11_span_40 : decode cX11_span 40 = .ok (.invokestatic 248, 3) := by decide +kernel
theorem dX11_span_43 : decode cX11_span 43 = .ok (.iload_n 1, 1) := by decide +kernel
theorem dX11_span_44 : decode cX11_span 44 = .ok (.iload_n 2, 1) := by decide +kernel
theorem dX11_span_45 : decode cX11_span 45 = .ok (.invokestatic 253, 3) := by decide +kernel
theorem dX11_span_48 : decode cX11_span 48 = .ok (.invokevirtual 256, 3) := by decide +kernel
theorem dX11_span_51 : decode cX11_span 51 = .ok (.iload_n 3, 1) := by decide +kernel
theorem dX11_span_52 : decode cX11_span 52 = .ok (.ifCond .ne 13, 3) := by decide +kernel
theorem dX11_span_55 : decode cX11_span 55 = .ok (.aload_n 0, 1) := by decide +kernel
theorem dX11_span_56 : decode cX11_span 56 = .ok (.getfield 55, 3) := by decide +kernel
theorem dX11_span_59 : decode cX11_span 59 = .ok (.getfield 260, 3) := by decide +kernel
theorem dX11_span_62 : decode cX11_span 62 = .ok (.goto 10, 3) := by decide +kernel
theorem dX11_span_65 : decode cX11_span 65 = .ok (.aload_n 0, 1) := by decide +kernel
theorem dX11_span_66 : decode cX11_span 66 = .ok (.getfield 55, 3) := by decide +kernel
theorem dX11_span_69 : decode cX11_span 69 = .ok (.getfield 238, 3) := by decide +kernel
theorem dX11_span_72 : decode cX11_span 72 = .ok (.ireturn, 1) := by decide +kernel
theorem dX11_loop_0 : decode cX11_loop 0 = .ok (.iload_n 1, 1) := by decide +kernel
theorem dX11_loop_1 : decode cX11_loop 1 = .ok (.ifCond .lt 26, 3) := by decide +kernel
theorem dX11_loop_4 : decode cX11_loop 4 = .ok (.iload_n 1, 1) := by decide +kernel
theorem dX11_loop_5 : decode cX11_loop 5 = .ok (.aload_n 0, 1) := by decide +kernel
theorem dX11_loop_6 : decode cX11_loop 6 = .ok (.getfield 30, 3) := by decide +kernel
theorem dX11_loop_9 : decode cX11_loop 9 = .ok (.getfield 105, 3) := by decide +kernel
theorem dX11_loop_12 : decode cX11_loop 12 = .ok (.getfield 263, 3) := by decide +kernel
theorem dX11_loop_15 : decode cX11_loop 15 = .ok (.if_icmp .ge 12, 3) := by decide +kernel
theorem dX11_loop_18 : decode cX11_loop 18 = .ok (.iload_n 2, 1) := by decide +kernel
theorem dX11_loop_19 : decode cX11_loop 19 = .ok (.ifCond .lt 8, 3) := by decide +kernel
theorem dX11_loop_22 : decode cX11_loop 22 = .ok (.iload_n 2, 1) := by decide +kernel
theorem dX11_loop_23 : decode cX11_loop 23 = .ok (.iconst 1, 1) := by decide +kernel
theorem dX11_loop_24 : decode cX11_loop 24 = .ok (.if_icmp .le 5, 3) := by decide +kernel
theorem dX11_loop_27 : decode cX11_loop 27 = .ok (.iconst (-1), 1) := by decide +kernel
theorem dX11_loop_28 : decode cX11_loop 28 = .ok (.ireturn, 1) := by decide +kernel
theorem dX11_loop_29 : decode cX11_loop 29 = .ok (.aload_n 0, 1) := by decide +kernel
theorem dX11_loop_30 : decode cX11_loop 30 = .ok (.getfield 30, 3) := by decide +kernel
theorem dX11_loop_33 : decode cX11_loop 33 = .ok (.getfield 105, 3) := by decide +kernel
theorem dX11_loop_36 : decode cX11_loop 36 = .ok (.getfield 266, 3) := by decide +kernel
theorem dX11_loop_39 : decode cX11_loop 39 = .ok (.iconst 2, 1) := by decide +kernel
theorem dX11_loop_40 : decode cX11_loop 40 = .ok (.iload_n 1, 1) := by decide +kernel
theorem dX11_loop_41 : decode cX11_loop 41 = .ok (.imul, 1) := by decide +kernel
theorem dX11_loop_42 : decode cX11_loop 42 = .ok (.iload_n 2, 1) := by decide +kernel
theorem dX11_loop_43 : decode cX11_loop 43 = .ok (.iadd, 1) := by decide +kernel
theorem dX11_loop_44 : decode cX11_loop 44 = .ok (.iaload, 1) := by decide +kernel
theorem dX11_loop_45 : decode cX11_loop 45 = .ok (.ireturn, 1) := by decide +kernel
theorem dX11_climb_0 : decode cX11_climb 0 = .ok (.aload_n 0, 1) := by decide +kernel
theorem dX11_climb_1 : decode cX11_climb 1 = .ok (.iload_n 1, 1) := by decide +kernel
theorem dX11_climb_2 : decode cX11_climb 2 = .ok (.iload_n 2, 1) := by decide +kernel
theorem dX11_climb_3 : decode cX11_climb 3 = .ok (.invokevirtual 227, 3) := by decide +kernel
theorem dX11_climb_6 : decode cX11_climb 6 = .ok (.ifCond .eq 30, 3) := by decide +kernel
theorem dX11_climb_9 : decode cX11_climb 9 = .ok (.iload_n 3, 1) := by decide +kernel
theorem dX11_climb_10 : decode cX11_climb 10 = .ok (.invokestatic 269, 3) := by decide +kernel
theorem dX11_climb_13 : decode cX11_climb 13 = .ok (.ifCond .eq 23, 3) := by decide +kernel
theorem dX11_climb_16 : decode cX11_climb 16 = .ok (.aload_n 0, 1) := by decide +kernel
theorem dX11_climb_17 : decode cX11_climb 17 = .ok (.getfield 55, 3) := by decide +kernel
theorem dX11_climb_20 : decode cX11_climb 20 = .ok (.aload_n 0, 1) := by decide +kernel
theorem dX11_climb_21 : decode cX11_climb 21 = .ok (.getfield 30, 3) := by decide +kernel
theorem dX11_climb_24 : decode cX11_climb 24 = .ok (.getfield 105, 3) := by decide +kernel
theorem dX11_climb_27 : decode cX11_climb 27 = .ok (.iload_n 1, 1) := by decide +kernel
theorem dX11_climb_28 : decode cX11_climb 28 = .ok (.iload_n 2, 1) := by decide +kernel
theorem dX11_climb_29 : decode cX11_climb 29 = .ok (.iload_n 3, 1) := by decide +kernel
theorem dX11_climb_30 : decode cX11_climb 30 = .ok (.invokevirtual 272, 3) := by decide +kernel
theorem dX11_climb_33 : decode cX11_climb 33 = .ok (.goto 4, 3) := by decide +kernel
theorem dX11_climb_36 : decode cX11_climb 36 = .ok (.iconst (-1), 1) := by decide +kernel
theorem dX11_climb_37 : decode cX11_climb 37 = .ok (.ireturn, 1) := by decide +kernel
theorem dX11_needed_0 : decode cX11_needed 0 = .ok (.aload_n 0, 1) := by decide +kernel
theorem dX11_needed_1 : decode cX11_needed 1 = .ok (.iload_n 1, 1) := by decide +kernel
theorem dX11_needed_2 : decode cX11_needed 2 = .ok (.iload_n 2, 1) := by decide +kernel
theorem dX11_needed_3 : decode cX11_needed 3 = .ok (.invokevirtual 227, 3) := by decide +kernel
theorem dX11_needed_6 : decode cX11_needed 6 = .ok (.ifCond .eq 22, 3) := by decide +kernel
theorem dX11_needed_9 : decode cX11_needed 9 = .ok (.aload_n 0, 1) := by decide +kernel
theorem dX11_needed_10 : decode cX11_needed 10 = .ok (.getfield 55, 3) := by decide +kernel
theorem dX11_needed_13 : decode cX11_needed 13 = .ok (.aload_n 0, 1) := by decide +kernel
theorem dX11_needed_14 : decode cX11_needed 14 = .ok (.getfield 30, 3) := by decide +kernel
theorem dX11_needed_17 : decode cX11_needed 17 = .ok (.getfield 105, 3) := by decide +kernel
theorem dX11_needed_20 : decode cX11_needed 20 = .ok (.iload_n 1, 1) := by decide +kernel
theorem dX11_needed_21 : decode cX11_needed 21 = .ok (.iload_n 2, 1) := by decide +kernel
theorem dX11_needed_22 : decode cX11_needed 22 = .ok (.invokevirtual 276, 3) := by decide +kernel
theorem dX11_needed_25 : decode cX11_needed 25 = .ok (.goto 4, 3) := by decide +kernel
theorem dX11_needed_28 : decode cX11_needed 28 = .ok (.iconst (-1), 1) := by decide +kernel
theorem dX11_needed_29 : decode cX11_needed 29 = .ok (.ireturn, 1) := by decide +kernel
theorem dX11_sanded_0 : decode cX11_sanded 0 = .ok (.aload_n 0, 1) := by decide +kernel
theorem dX11_sanded_1 : decode cX11_sanded 1 = .ok (.iload_n 1, 1) := by decide +kernel
theorem dX11_sanded_2 : decode cX11_sanded 2 = .ok (.iload_n 2, 1) := by decide +kernel
theorem dX11_sanded_3 : decode cX11_sanded 3 = .ok (.invokevirtual 227, 3) := by decide +kernel
theorem dX11_sanded_6 : decode cX11_sanded 6 = .ok (.ifCond .eq 30, 3) := by decide +kernel
theorem dX11_sanded_9 : decode cX11_sanded 9 = .ok (.iload_n 3, 1) := by decide +kernel
theorem dX11_sanded_10 : decode cX11_sanded 10 = .ok (.invokestatic 269, 3) := by decide +kernel
theorem dX11_sanded_13 : decode cX11_sanded 13 = .ok (.ifCond .eq 23, 3) := by decide +kernel
theorem dX11_sanded_16 : decode cX11_sanded 16 = .ok (.aload_n 0, 1) := by decide +kernel
theorem dX11_sanded_17 : decode cX11_sanded 17 = .ok (.getfield 55, 3) := by decide +kernel
theorem dX11_sanded_20 : decode cX11_sanded 20 = .ok (.aload_n 0, 1) := by decide +kernel
theorem dX11_sanded_21 : decode cX11_sanded 21 = .ok (.getfield 30, 3) := by decide +kernel
theorem dX11_sanded_24 : decode cX11_sanded 24 = .ok (.getfield 105, 3) := by decide +kernel
theorem dX11_sanded_27 : decode cX11_sanded 27 = .ok (.iload_n 1, 1) := by decide +kernel
theorem dX11_sanded_28 : decode cX11_sanded 28 = .ok (.iload_n 2, 1) := by decide +kernel
theorem dX11_sanded_29 : decode cX11_sanded 29 = .ok (.iload_n 3, 1) := by decide +kernel
theorem dX11_sanded_30 : decode cX11_sanded 30 = .ok (.invokevirtual 280, 3) := by decide +kernel
theorem dX11_sanded_33 : decode cX11_sanded 33 = .ok (.goto 4, 3) := by decide +kernel
theorem dX11_sanded_36 : decode cX11_sanded 36 = .ok (.iconst (-1), 1) := by decide +kernel
theorem dX11_sanded_37 : decode cX11_sanded 37 = .ok (.ireturn, 1) := by decide +kernel
theorem dX11_helped_0 : decode cX11_helped 0 = .ok (.aload_n 0, 1) := by decide +kernel
theorem dX11_helped_1 : decode cX11_helped 1 = .ok (.iload_n 1, 1) := by decide +kernel
theorem dX11_helped_2 : decode cX11_helped 2 = .ok (.iload_n 2, 1) := by decide +kernel
theorem dX11_helped_3 : decode cX11_helped 3 = .ok (.invokevirtual 227, 3) := by decide +kernel
theorem dX11_helped_6 : decode cX11_helped 6 = .ok (.ifCond .eq 24, 3) := by decide +kernel
theorem dX11_helped_9 : decode cX11_helped 9 = .ok (.iload_n 3, 1) := by decide +kernel
theorem dX11_helped_10 : decode cX11_helped 10 = .ok (.invokestatic 269, 3) := by decide +kernel
theorem dX11_helped_13 : decode cX11_helped 13 = .ok (.ifCond .eq 17, 3) := by decide +kernel
theorem dX11_helped_16 : decode cX11_helped 16 = .ok (.iload 4, 2) := by decide +kernel
theorem dX11_helped_18 : decode cX11_helped 18 = .ok (.iconst 1, 1) := by decide +kernel
theorem dX11_helped_19 : decode cX11_helped 19 = .ok (.if_icmp .lt 11, 3) := by decide +kernel
theorem dX11_helped_22 : decode cX11_helped 22 = .ok (.iload 4, 2) := by decide +kernel
theorem dX11_helped_24 : decode cX11_helped 24 = .ok (.sipush 999, 3) := by decide +kernel
theorem dX11_helped_27 : decode cX11_helped 27 = .ok (.if_icmp .le 5, 3) := by decide +kernel
theorem dX11_helped_30 : decode cX11_helped 30 = .ok (.iconst (-1), 1) := by decide +kernel
theorem dX11_helped_31 : decode cX11_helped 31 = .ok (.ireturn, 1) := by decide +kernel
theorem dX11_helped_32 : decode cX11_helped 32 = .ok (.aload_n 0, 1) := by decide +kernel
theorem dX11_helped_33 : decode cX11_helped 33 = .ok (.getfield 55, 3) := by decide +kernel
theorem dX11_helped_36 : decode cX11_helped 36 = .ok (.aload_n 0, 1) := by decide +kernel
theorem dX11_helped_37 : decode cX11_helped 37 = .ok (.getfield 30, 3) := by decide +kernel
theorem dX11_helped_40 : decode cX11_helped 40 = .ok (.getfield 105, 3) := by decide +kernel
theorem dX11_helped_43 : decode cX11_helped 43 = .ok (.iload_n 1, 1) := by decide +kernel
theorem dX11_helped_44 : decode cX11_helped 44 = .ok (.iload_n 2, 1) := by decide +kernel
theorem dX11_helped_45 : decode cX11_helped 45 = .ok (.iload_n 3, 1) := by decide +kernel
theorem dX11_helped_46 : decode cX11_helped 46 = .ok (.iload 4, 2) := by decide +kernel
theorem dX11_helped_48 : decode cX11_helped 48 = .ok (.invokevirtual 283, 3) := by decide +kernel
theorem dX11_helped_51 : decode cX11_helped 51 = .ok (.ireturn, 1) := by decide +kernel
theorem dX11_lives_0 : decode cX11_lives 0 = .ok (.iload_n 1, 1) := by decide +kernel
theorem dX11_lives_1 : decode cX11_lives 1 = .ok (.ifCond .lt 8, 3) := by decide +kernel
theorem dX11_lives_4 : decode cX11_lives 4 = .ok (.iload_n 1, 1) := by decide +kernel
theorem dX11_lives_5 : decode cX11_lives 5 = .ok (.iconst 2, 1) := by decide +kernel
theorem dX11_lives_6 : decode cX11_lives 6 = .ok (.if_icmp .le 7, 3) := by decide +kernel
theorem dX11_lives_9 : decode cX11_lives 9 = .ok (.iconst (-1), 1) := by decide +kernel
theorem dX11_lives_10 : decode cX11_lives 10 = .ok (.goto 18, 3) := by decide +kernel
theorem dX11_lives_13 : decode cX11_lives 13 = .ok (.aload_n 0, 1) := by decide +kernel
theorem dX11_lives_14 : decode cX11_lives 14 = .ok (.getfield 62, 3) := by decide +kernel
theorem dX11_lives_17 : decode cX11_lives 17 = .ok (.iload_n 1, 1) := by decide +kernel
theorem dX11_lives_18 : decode cX11_lives 18 = .ok (.aload_n 0, 1) := by decide +kernel
theorem dX11_lives_19 : decode cX11_lives 19 = .ok (.getfield 30, 3) := by decide +kernel
theorem dX11_lives_22 : decode cX11_lives 22 = .ok (.getfield 105, 3) := by decide +kernel
theorem dX11_lives_25 : decode cX11_lives 25 = .ok (.invokevirtual 287, 3) := by decide +kernel
theorem dX11_lives_28 : decode cX11_lives 28 = .ok (.ireturn, 1) := by decide +kernel
theorem dX11_longest_0 : decode cX11_longest 0 = .ok (.aload_n 0, 1) := by decide +kernel
theorem dX11_longest_1 : decode cX11_longest 1 = .ok (.getfield 62, 3) := by decide +kernel
theorem dX11_longest_4 : decode cX11_longest 4 = .ok (.aload_n 0, 1) := by decide +kernel
theorem dX11_longest_5 : decode cX11_longest 5 = .ok (.getfield 30, 3) := by decide +kernel
theorem dX11_longest_8 : decode cX11_longest 8 = .ok (.getfield 105, 3) := by decide +kernel
theorem dX11_longest_11 : decode cX11_longest 11 = .ok (.invokevirtual 290, 3) := by decide +kernel
theorem dX11_longest_14 : decode cX11_longest 14 = .ok (.ireturn, 1) := by decide +kernel
theorem dX11_placed_0 : decode cX11_placed 0 = .ok (.iload_n 1, 1) := by decide +kernel
theorem dX11_placed_1 : decode cX11_placed 1 = .ok (.ifCond .lt 14, 3) := by decide +kernel
theorem dX11_placed_4 : decode cX11_placed 4 = .ok (.iload_n 1, 1) := by decide +kernel
theorem dX11_placed_5 : decode cX11_placed 5 = .ok (.aload_n 0, 1) := by decide +kernel
theorem dX11_placed_6 : decode cX11_placed 6 = .ok (.getfield 62, 3) := by decide +kernel
theorem dX11_placed_9 : decode cX11_placed 9 = .ok (.getfield 293, 3) := by decide +kernel
theorem dX11_placed_12 : decode cX11_placed 12 = .ok (.if_icmp .lt 7, 3) := by decide +kernel
theorem dX11_placed_15 : decode cX11_placed 15 = .ok (.iconst (-1), 1) := by decide +kernel
theorem dX11_placed_16 : decode cX11_placed 16 = .ok (.goto 12, 3) := by decide +kernel
theorem dX11_placed_19 : decode cX11_placed 19 = .ok (.aload_n 0, 1) := by decide +kernel
theorem dX11_placed_20 : decode cX11_placed 20 = .ok (.getfield 62, 3) := by decide +kernel
theorem dX11_placed_23 : decode cX11_placed 23 = .ok (.getfield 296, 3) := by decide +kernel
theorem dX11_placed_26 : decode cX11_placed 26 = .ok (.iload_n 1, 1) := by decide +kernel
theorem dX11_placed_27 : decode cX11_placed 27 = .ok (.iaload, 1) := by decide +kernel
theorem dX11_placed_28 : decode cX11_placed 28 = .ok (.ireturn, 1) := by decide +kernel
theorem dX11_platform_0 : decode cX11_platform 0 = .ok (.aload_n 0, 1) := by decide +kernel
theorem dX11_platform_1 : decode cX11_platform 1 = .ok (.iload_n 1, 1) := by decide +kernel
theorem dX11_platform_2 : decode cX11_platform 2 = .ok (.invokevirtual 131, 3) := by decide +kernel
theorem dX11_platform_5 : decode cX11_platform 5 = .ok (.ifCond .eq 25, 3) := by decide +kernel
theorem dX11_platform_8 : decode cX11_platform 8 = .ok (.iconst 1, 1) := by decide +kernel
theorem dX11_platform_9 : decode cX11_platform 9 = .ok (.aload_n 0, 1) := by decide +kernel
theorem dX11_platform_10 : decode cX11_platform 10 = .ok (.getfield 55, 3) := by decide +kernel
theorem dX11_platform_13 : decode cX11_platform 13 = .ok (.aload_n 0, 1) := by decide +kernel
theorem dX11_platform_14 : decode cX11_platform 14 = .ok (.getfield 30, 3) := by decide +kernel
theorem dX11_platform_17 : decode cX11_platform 17 = .ok (.getfield 105, 3) := by decide +kernel
theorem dX11_platform_20 : decode cX11_platform 20 = .ok (.iload_n 1, 1) := by decide +kernel
theorem dX11_platform_21 : decode cX11_platform 21 = .ok (.invokevirtual 299, 3) := by decide +kernel
theorem dX11_platform_24 : decode cX11_platform 24 = .ok (.ishl, 1) := by decide +kernel
theorem dX11_platform_25 : decode cX11_platform 25 = .ok (.iconst 1, 1) := by decide +kernel
theorem dX11_platform_26 : decode cX11_platform 26 = .ok (.isub, 1) := by decide +kernel
theorem dX11_platform_27 : decode cX11_platform 27 = .ok (.goto 4, 3) := by decide +kernel
theorem dX11_platform_30 : decode cX11_platform 30 = .ok (.iconst (-1), 1) := by decide +kernel
theorem dX11_platform_31 : decode cX11_platform 31 = .ok (.ireturn, 1) := by decide +kernel
theorem dX11_cook_0 : decode cX11_cook 0 = .ok (.aload_n 0, 1) := by decide +kernel
theorem dX11_cook_1 : decode cX11_cook 1 = .ok (.iload_n 1, 1) := by decide +kernel
theorem dX11_cook_2 : decode cX11_cook 2 = .ok (.iload_n 2, 1) := by decide +kernel
theorem dX11_cook_3 : decode cX11_cook 3 = .ok (.iload_n 3, 1) := by decide +kernel
theorem dX11_cook_4 : decode cX11_cook 4 = .ok (.invokevirtual 303, 3) := by decide +kernel
theorem dX11_cook_7 : decode cX11_cook 7 = .ok (.ifCond .eq 13, 3) := by decide +kernel
theorem dX11_cook_10 : decode cX11_cook 10 = .ok (.aload_n 0, 1) := by decide +kernel
theorem dX11_cook_11 : decode cX11_cook 11 = .ok (.iload_n 1, 1) := by decide +kernel
theorem dX11_cook_12 : decode cX11_cook 12 = .ok (.iload_n 2, 1) := by decide +kernel
theorem dX11_cook_13 : decode cX11_cook 13 = .ok (.iload_n 3, 1) := by decide +kernel
theorem dX11_cook_14 : decode cX11_cook 14 = .ok (.invokevirtual 307, 3) := by decide +kernel
theorem dX11_cook_17 : decode cX11_cook 17 = .ok (.goto 4, 3) := by decide +kernel
theorem dX11_cook_20 : decode cX11_cook 20 = .ok (.iconst (-1), 1) := by decide +kernel
theorem dX11_cook_21 : decode cX11_cook 21 = .ok (.ireturn, 1) := by decide +kernel
theorem dX11_back_0 : decode cX11_back 0 = .ok (.aload_n 0, 1) := by decide +kernel
theorem dX11_back_1 : decode cX11_back 1 = .ok (.iload_n 1, 1) := by decide +kernel
theorem dX11_back_2 : decode cX11_back 2 = .ok (.iload_n 2, 1) := by decide +kernel
theorem dX11_back_3 : decode cX11_back 3 = .ok (.iload_n 3, 1) := by decide +kernel
theorem dX11_back_4 : decode cX11_back 4 = .ok (.invokevirtual 303, 3) := by decide +kernel
theorem dX11_back_7 : decode cX11_back 7 = .ok (.ifCond .eq 13, 3) := by decide +kernel
theorem dX11_back_10 : decode cX11_back 10 = .ok (.aload_n 0, 1) := by decide +kernel
theorem dX11_back_11 : decode cX11_back 11 = .ok (.iload_n 2, 1) := by decide +kernel
theorem dX11_back_12 : decode cX11_back 12 = .ok (.iload_n 1, 1) := by decide +kernel
theorem dX11_back_13 : decode cX11_back 13 = .ok (.iload_n 3, 1) := by decide +kernel
theorem dX11_back_14 : decode cX11_back 14 = .ok (.invokevirtual 307, 3) := by decide +kernel
theorem dX11_back_17 : decode cX11_back 17 = .ok (.goto 4, 3) := by decide +kernel
theorem dX11_back_20 : decode cX11_back 20 = .ok (.iconst (-1), 1) := by decide +kernel
theorem dX11_back_21 : decode cX11_back 21 = .ok (.ireturn, 1) := by decide +kernel
theorem dX11_isCooksWay_0 : decode cX11_isCooksWay 0 = .ok (.aload_n 0, 1) := by decide +kernel
theorem dX11_isCooksWay_1 : decode cX11_isCooksWay 1 = .ok (.iload_n 3, 1) := by decide +kernel
theorem dX11_isCooksWay_2 : decode cX11_isCooksWay 2 = .ok (.invokevirtual 244, 3) := by decide +kernel
theorem dX11_isCooksWay_5 : decode cX11_isCooksWay 5 = .ok (.ifCond .eq 35, 3) := by decide +kernel
theorem dX11_isCooksWay_8 : decode cX11_isCooksWay 8 = .ok (.iload_n 1, 1) := by decide +kernel
theorem dX11_isCooksWay_9 : decode cX11_isCooksWay 9 = .ok (.ifCond .lt 31, 3) := by decide +kernel
theorem dX11_isCooksWay_12 : decode cX11_isCooksWay 12 = .ok (.iload_n 1, 1) := by decide +kernel
theorem dX11_isCooksWay_13 : decode cX11_isCooksWay 13 = .ok (.iload_n 2, 1) := by decide +kernel
theorem dX11_isCooksWay_14 : decode cX11_isCooksWay 14 = .ok (.if_icmp .gt 26, 3) := by decide +kernel
theorem dX11_isCooksWay_17 : decode cX11_isCooksWay 17 = .ok (.aload_n 0, 1) := by decide +kernel
theorem dX11_isCooksWay_18 : decode cX11_isCooksWay 18 = .ok (.getfield 55, 3) := by decide +kernel
theorem dX11_isCooksWay_21 : decode cX11_isCooksWay 21 = .ok (.aload_n 0, 1) := by decide +kernel
theorem dX11_isCooksWay_22 : decode cX11_isCooksWay 22 = .ok (.getfield 30, 3) := by decide +kernel
theorem dX11_isCooksWay_25 : decode cX11_isCooksWay 25 = .ok (.getfield 105, 3) := by decide +kernel
theorem dX11_isCooksWay_28 : decode cX11_isCooksWay 28 = .ok (.iload_n 2, 1) := by decide +kernel
theorem dX11_isCooksWay_29 : decode cX11_isCooksWay 29 = .ok (.iload_n 3, 1) := by decide +kernel
theorem dX11_isCooksWay_30 : decode cX11_isCooksWay 30 = .ok (.invokevirtual 311, 3) := by decide +kernel
theorem dX11_isCooksWay_33 : decode cX11_isCooksWay 33 = .ok (.ifCond .eq 7, 3) := by decide +kernel
theorem dX11_isCooksWay_36 : decode cX11_isCooksWay 36 = .ok (.iconst 1, 1) := by decide +kernel
theorem dX11_isCooksWay_37 : decode cX11_isCooksWay 37 = .ok (.goto 4, 3) := by decide +kernel
theorem dX11_isCooksWay_40 : decode cX11_isCooksWay 40 = .ok (.iconst 0, 1) := by decide +kernel
theorem dX11_isCooksWay_41 : decode cX11_isCooksWay 41 = .ok (.ireturn, 1) := by decide +kernel
theorem dX11_cooksMinutes_0 : decode cX11_cooksMinutes 0 = .ok (.iload_n 1, 1) := by decide +kernel
theorem dX11_cooksMinutes_1 : decode cX11_cooksMinutes 1 = .ok (.iload_n 2, 1) := by decide +kernel
theorem dX11_cooksMinutes_2 : decode cX11_cooksMinutes 2 = .ok (.if_icmp .ne 7, 3) := by decide +kernel
theorem dX11_cooksMinutes_5 : decode cX11_cooksMinutes 5 = .ok (.iconst 0, 1) := by decide +kernel
theorem dX11_cooksMinutes_6 : decode cX11_cooksMinutes 6 = .ok (.goto 20, 3) := by decide +kernel
theorem dX11_cooksMinutes_9 : decode cX11_cooksMinutes 9 = .ok (.aload_n 0, 1) := by decide +kernel
theorem dX11_cooksMinutes_10 : decode cX11_cooksMinutes 10 = .ok (.getfield 55, 3) := by decide +kernel
theorem dX11_cooksMinutes_13 : decode cX11_cooksMinutes 13 = .ok (.aload_n 0, 1) := by decide +kernel
theorem dX11_cooksMinutes_14 : decode cX11_cooksMinutes 14 = .ok (.getfield 30, 3) := by decide +kernel
theorem dX11_cooksMinutes_17 : decode cX11_cooksMinutes 17 = .ok (.getfield 105, 3) := by decide +kernel
theorem dX11_cooksMinutes_20 : decode cX11_cooksMinutes 20 = .ok (.iload_n 1, 1) := by decide +kernel
theorem dX11_cooksMinutes_21 : decode cX11_cooksMinutes 21 = .ok (.iload_n 2, 1) := by decide +kernel
theorem dX11_cooksMinutes_22 : decode cX11_cooksMinutes 22 = .ok (.iload_n 3, 1) := by decide +kernel
theorem dX11_cooksMinutes_23 : decode cX11_cooksMinutes 23 = .ok (.invokevirtual 315, 3) := by decide +kernel
theorem dX11_cooksMinutes_26 : decode cX11_cooksMinutes 26 = .ok (.ireturn, 1) := by decide +kernel
theorem dX11_room_0 : decode cX11_room 0 = .ok (.aload_n 0, 1) := by decide +kernel
theorem dX11_room_1 : decode cX11_room 1 = .ok (.iload_n 1, 1) := by decide +kernel
theorem dX11_room_2 : decode cX11_room 2 = .ok (.invokevirtual 131, 3) := by decide +kernel
theorem dX11_room_5 : decode cX11_room 5 = .ok (.ifCond .eq 21, 3) := by decide +kernel
theorem dX11_room_8 : decode cX11_room 8 = .ok (.aload_n 0, 1) := by decide +kernel
theorem dX11_room_9 : decode cX11_room 9 = .ok (.getfield 55, 3) := by decide +kernel
theorem dX11_room_12 : decode cX11_room 12 = .ok (.aload_n 0, 1) := by decide +kernel
theorem dX11_room_13 : decode cX11_room 13 = .ok (.getfield 30, 3) := by decide +kernel
theorem dX11_room_16 : decode cX11_room 16 = .ok (.getfield 105, 3) := by decide +kernel
theorem dX11_room_19 : decode cX11_room 19 = .ok (.iload_n 1, 1) := by decide +kernel
theorem dX11_room_20 : decode cX11_room 20 = .ok (.invokevirtual 318, 3) := by decide +kernel
theorem dX11_room_23 : decode cX11_room 23 = .ok (.goto 4, 3) := by decide +kernel
theorem dX11_room_26 : decode cX11_room 26 = .ok (.iconst (-1), 1) := by decide +kernel
theorem dX11_room_27 : decode cX11_room 27 = .ok (.ireturn, 1) := by decide +kernel
theorem dX11_loads_0 : decode cX11_loads 0 = .ok (.aload_n 0, 1) := by decide +kernel
theorem dX11_loads_1 : decode cX11_loads 1 = .ok (.invokevirtual 88, 3) := by decide +kernel
theorem dX11_loads_4 : decode cX11_loads 4 = .ok (.istore_n 1, 1) := by decide +kernel
theorem dX11_loads_5 : decode cX11_loads 5 = .ok (.iload_n 1, 1) := by decide +kernel
theorem dX11_loads_6 : decode cX11_loads 6 = .ok (.iconst 1, 1) := by decide +kernel
theorem dX11_loads_7 : decode cX11_loads 7 = .ok (.if_icmp .lt 9, 3) := by decide +kernel
theorem dX11_loads_10 : decode cX11_loads 10 = .ok (.iload_n 1, 1) := by decide +kernel
theorem dX11_loads_11 : decode cX11_loads 11 = .ok (.bipush 8, 2) := by decide +kernel
theorem dX11_loads_13 : decode cX11_loads 13 = .ok (.if_icmp .le 5, 3) := by decide +kernel
theorem dX11_loads_16 : decode cX11_loads 16 = .ok (.iconst (-1), 1) := by decide +kernel
theorem dX11_loads_17 : decode cX11_loads 17 = .ok (.ireturn, 1) := by decide +kernel
theorem dX11_loads_18 : decode cX11_loads 18 = .ok (.iconst 0, 1) := by decide +kernel
theorem dX11_loads_19 : decode cX11_loads 19 = .ok (.istore_n 2, 1) := by decide +kernel
theorem dX11_loads_20 : decode cX11_loads 20 = .ok (.iload_n 2, 1) := by decide +kernel
theorem dX11_loads_21 : decode cX11_loads 21 = .ok (.iload_n 1, 1) := by decide +kernel
theorem dX11_loads_22 : decode cX11_loads 22 = .ok (.if_icmp .ge 24, 3) := by decide +kernel
theorem dX11_loads_25 : decode cX11_loads 25 = .ok (.aload_n 0, 1) := by decide +kernel
theorem dX11_loads_26 : decode cX11_loads 26 = .ok (.aload_n 0, 1) := by decide +kernel
theorem dX11_loads_27 : decode cX11_loads 27 = .ok (.getfield 9, 3) := by decide +kernel
theorem dX11_loads_30 : decode cX11_loads 30 = .ok (.iload_n 2, 1) := by decide +kernel
theorem dX11_loads_31 : decode cX11_loads 31 = .ok (.iaload, 1) := by decide +kernel
theorem dX11_loads_32 : decode cX11_loads 32 = .ok (.invokevirtual 131, 3) := by decide +kernel
theorem dX11_loads_35 : decode cX11_loads 35 = .ok (.ifCond .ne 5, 3) := by decide +kernel
theorem dX11_loads_38 : decode cX11_loads 38 = .ok (.iconst (-1), 1) := by decide +kernel
theorem dX11_loads_39 : decode cX11_loads 39 = .ok (.ireturn, 1) := by decide +kernel
theorem dX11_loads_40 : decode cX11_loads 40 = .ok (.iinc 2 1, 3) := by decide +kernel
theorem dX11_loads_43 : decode cX11_loads 43 = .ok (.goto (-23), 3) := by decide +kernel
theorem dX11_loads_46 : decode cX11_loads 46 = .ok (.aload_n 0, 1) := by decide +kernel
theorem dX11_loads_47 : decode cX11_loads 47 = .ok (.getfield 55, 3) := by decide +kernel
theorem dX11_loads_50 : decode cX11_loads 50 = .ok (.aload_n 0, 1) := by decide +kernel
theorem dX11_loads_51 : decode cX11_loads 51 = .ok (.getfield 30, 3) := by decide +kernel
theorem dX11_loads_54 : decode cX11_loads 54 = .ok (.getfield 105, 3) := by decide +kernel
theorem dX11_loads_57 : decode cX11_loads 57 = .ok (.aload_n 0, 1) := by decide +kernel
theorem dX11_loads_58 : decode cX11_loads 58 = .ok (.getfield 9, 3) := by decide +kernel
theorem dX11_loads_61 : decode cX11_loads 61 = .ok (.iload_n 1, 1) := by decide +kernel
theorem dX11_loads_62 : decode cX11_loads 62 = .ok (.invokevirtual 321, 3) := by decide +kernel
theorem dX11_loads_65 : decode cX11_loads 65 = .ok (.ireturn, 1) := by decide +kernel
theorem dX11_load_0 : decode cX11_load 0 = .ok (.iload_n 1, 1) := by decide +kernel
theorem dX11_load_1 : decode cX11_load 1 = .ok (.ifCond .lt 14, 3) := by decide +kernel
theorem dX11_load_4 : decode cX11_load 4 = .ok (.iload_n 1, 1) := by decide +kernel
theorem dX11_load_5 : decode cX11_load 5 = .ok (.aload_n 0, 1) := by decide +kernel
theorem dX11_load_6 : decode cX11_load 6 = .ok (.getfield 55, 3) := by decide +kernel
theorem dX11_load_9 : decode cX11_load 9 = .ok (.getfield 325, 3) := by decide +kernel
theorem dX11_load_12 : decode cX11_load 12 = .ok (.if_icmp .lt 7, 3) := by decide +kernel
theorem dX11_load_15 : decode cX11_load 15 = .ok (.iconst (-1), 1) := by decide +kernel
theorem dX11_load_16 : decode cX11_load 16 = .ok (.goto 12, 3) := by decide +kernel
theorem dX11_load_19 : decode cX11_load 19 = .ok (.aload_n 0, 1) := by decide +kernel
theorem dX11_load_20 : decode cX11_load 20 = .ok (.getfield 55, 3) := by decide +kernel
theorem dX11_load_23 : decode cX11_load 23 = .ok (.getfield 328, 3) := by decide +kernel
theorem dX11_load_26 : decode cX11_load 26 = .ok (.iload_n 1, 1) := by decide +kernel
theorem dX11_load_27 : decode cX11_load 27 = .ok (.iaload, 1) := by decide +kernel
theorem dX11_load_28 : decode cX11_load 28 = .ok (.ireturn, 1) := by decide +kernel
theorem dX11_cross_0 : decode cX11_cross 0 = .ok (.iload_n 1, 1) := by decide +kernel
theorem dX11_cross_1 : decode cX11_cross 1 = .ok (.invokestatic 331, 3) := by decide +kernel
theorem dX11_cross_4 : decode cX11_cross 4 = .ok (.ifCond .eq 37, 3) := by decide +kernel
theorem dX11_cross_7 : decode cX11_cross 7 = .ok (.iload_n 2, 1) := by decide +kernel
theorem dX11_cross_8 : decode cX11_cross 8 = .ok (.invokestatic 331, 3) := by decide +kernel
theorem dX11_cross_11 : decode cX11_cross 11 = .ok (.ifCond .eq 30, 3) := by decide +kernel
theorem dX11_cross_14 : decode cX11_cross 14 = .ok (.aload_n 0, 1) := by decide +kernel
theorem dX11_cross_15 : decode cX11_cross 15 = .ok (.iload_n 3, 1) := by decide +kernel
theorem dX11_cross_16 : decode cX11_cross 16 = .ok (.invokevirtual 244, 3) := by decide +kernel
theorem dX11_cross_19 : decode cX11_cross 19 = .ok (.ifCond .eq 22, 3) := by decide +kernel
theorem dX11_cross_22 : decode cX11_cross 22 = .ok (.aload_n 0, 1) := by decide +kernel
theorem dX11_cross_23 : decode cX11_cross 23 = .ok (.iload 4, 2) := by decide +kernel
theorem dX11_cross_25 : decode cX11_cross 25 = .ok (.invokevirtual 244, 3) := by decide +kernel
theorem dX11_cross_28 : decode cX11_cross 28 = .ok (.ifCond .eq 13, 3) := by decide +kernel
theorem dX11_cross_31 : decode cX11_cross 31 = .ok (.iload_n 3, 1) := by decide +kernel
theorem dX11_cross_32 : decode cX11_cross 32 = .ok (.iload 4, 2) := by decide +kernel
theorem dX11_cross_34 : decode cX11_cross 34 = .ok (.if_icmp .ge 7, 3) := by decide +kernel
theorem dX11_cross_37 : decode cX11_cross 37 = .ok (.iconst 1, 1) := by decide +kernel
theorem dX11_cross_38 : decode cX11_cross 38 = .ok (.goto 4, 3) := by decide +kernel
theorem dX11_cross_41 : decode cX11_cross 41 = .ok (.iconst 0, 1) := by decide +kernel
theorem dX11_cross_42 : decode cX11_cross 42 = .ok (.istore 6, 2) := by decide +kernel
theorem dX11_cross_44 : decode cX11_cross 44 = .ok (.iload 6, 2) := by decide +kernel
theorem dX11_cross_46 : decode cX11_cross 46 = .ok (.ifCond .eq 14, 3) := by decide +kernel
theorem dX11_cross_49 : decode cX11_cross 49 = .ok (.iload 5, 2) := by decide +kernel
theorem dX11_cross_51 : decode cX11_cross 51 = .ok (.ifCond .lt 9, 3) := by decide +kernel
theorem dX11_cross_54 : decode cX11_cross 54 = .ok (.iload 5, 2) := by decide +kernel
theorem dX11_cross_56 : decode cX11_cross 56 = .ok (.iconst 1, 1) := by decide +kernel
theorem dX11_cross_57 : decode cX11_cross 57 = .ok (.if_icmp .le 5, 3) := by decide +kernel
theorem dX11_cross_60 : decode cX11_cross 60 = .ok (.iconst (-1), 1) := by decide +kernel
theorem dX11_cross_61 : decode cX11_cross 61 = .ok (.ireturn, 1) := by decide +kernel
theorem dX11_cross_62 : decode cX11_cross 62 = .ok (.aload_n 0, 1) := by decide +kernel
theorem dX11_cross_63 : decode cX11_cross 63 = .ok (.getfield 30, 3) := by decide +kernel
theorem dX11_cross_66 : decode cX11_cross 66 = .ok (.getfield 105, 3) := by decide +kernel
theorem dX11_cross_69 : decode cX11_cross 69 = .ok (.astore 7, 2) := by decide +kernel
theorem dX11_cross_71 : decode cX11_cross 71 = .ok (.iconst (-1), 1) := by decide +kernel
theorem dX11_cross_72 : decode cX11_cross 72 = .ok (.istore 8, 2) := by decide +kernel
theorem dX11_cross_74 : decode cX11_cross 74 = .ok (.iconst (-1), 1) := by decide +kernel
theorem dX11_cross_75 : decode cX11_cross 75 = .ok (.istore 9, 2) := by decide +kernel
theorem dX11_cross_77 : decode cX11_cross 77 = .ok (.iconst 0, 1) := by decide +kernel
theorem dX11_cross_78 : decode cX11_cross 78 = .ok (.istore 10, 2) := by decide +kernel
theorem dX11_cross_80 : decode cX11_cross 80 = .ok (.iload 10, 2) := by decide +kernel
theorem dX11_cross_82 : decode cX11_cross 82 = .ok (.aload 7, 2) := by decide +kernel
theorem dX11_cross_84 : decode cX11_cross 84 = .ok (.getfield 263, 3) := by decide +kernel
theorem dX11_cross_87 : decode cX11_cross 87 = .ok (.if_icmp .ge 122, 3) := by decide +kernel
theorem dX11_cross_90 : decode cX11_cross 90 = .ok (.aload 7, 2) := by decide +kernel
theorem dX11_cross_92 : decode cX11_cross 92 = .ok (.getfield 266, 3) := by decide +kernel
theorem dX11_cross_95 : decode cX11_cross 95 = .ok (.iconst 2, 1) := by decide +kernel
theorem dX11_cross_96 : decode cX11_cross 96 = .ok (.iload 10, 2) := by decide +kernel
theorem dX11_cross_98 : decode cX11_cross 98 = .ok (.imul, 1) := by decide +kernel
theorem dX11_cross_99 : decode cX11_cross 99 = .ok (.iaload, 1) := by decide +kernel
theorem dX11_cross_100 : decode cX11_cross 100 = .ok (.istore 11, 2) := by decide +kernel
theorem dX11_cross_102 : decode cX11_cross 102 = .ok (.iload 11, 2) := by decide +kernel
theorem dX11_cross_104 : decode cX11_cross 104 = .ok (.iload_n 3, 1) := by decide +kernel
theorem dX11_cross_105 : decode cX11_cross 105 = .ok (.if_icmp .lt 98, 3) := by decide +kernel
theorem dX11_cross_108 : decode cX11_cross 108 = .ok (.iload 11, 2) := by decide +kernel
theorem dX11_cross_110 : decode cX11_cross 110 = .ok (.iload 4, 2) := by decide +kernel
theorem dX11_cross_112 : decode cX11_cross 112 = .ok (.if_icmp .gt 91, 3) := by decide +kernel
theorem dX11_cross_115 : decode cX11_cross 115 = .ok (.aload 7, 2) := by decide +kernel
theorem dX11_cross_117 : decode cX11_cross 117 = .ok (.getfield 266, 3) := by decide +kernel
theorem dX11_cross_120 : decode cX11_cross 120 = .ok (.iconst 2, 1) := by decide +kernel
theorem dX11_cross_121 : decode cX11_cross 121 = .ok (.iload 10, 2) := by decide +kernel
theorem dX11_cross_123 : decode cX11_cross 123 = .ok (.imul, 1) := by decide +kernel
theorem dX11_cross_124 : decode cX11_cross 124 = .ok (.iconst 1, 1) := by decide +kernel
theorem dX11_cross_125 : decode cX11_cross 125 = .ok (.iadd, 1) := by decide +kernel
theorem dX11_cross_126 : decode cX11_cross 126 = .ok (.iaload, 1) := by decide +kernel
theorem dX11_cross_127 : decode cX11_cross 127 = .ok (.iload_n 1, 1) := by decide +kernel
theorem dX11_cross_128 : decode cX11_cross 128 = .ok (.iload_n 2, 1) := by decide +kernel
theorem dX11_cross_129 : decode cX11_cross 129 = .ok (.invokestatic 248, 3) := by decide +kernel
theorem dX11_cross_132 : decode cX11_cross 132 = .ok (.if_icmp .ge 6, 3) := by decide +kernel
theorem dX11_cross_135 : decode cX11_cross 135 = .ok (.goto 68, 3) := by decide +kernel
theorem dX11_cross_138 : decode cX11_cross 138 = .ok (.iload 11, 2) := by decide +kernel
theorem dX11_cross_140 : decode cX11_cross 140 = .ok (.iload_n 3, 1) := by decide +kernel
theorem dX11_cross_141 : decode cX11_cross 141 = .ok (.isub, 1) := by decide +kernel
theorem dX11_cross_142 : decode cX11_cross 142 = .ok (.iload_n 1, 1) := by decide +kernel
theorem dX11_cross_143 : decode cX11_cross 143 = .ok (.iload_n 2, 1) := by decide +kernel
theorem dX11_cross_144 : decode cX11_cross 144 = .ok (.if_icmp .gt 7, 3) := by decide +kernel
theorem dX11_cross_147 : decode cX11_cross 147 = .ok (.iload_n 1, 1) := by decide +kernel
theorem dX11_cross_148 : decode cX11_cross 148 = .ok (.goto 4, 3) := by decide +kernel
theorem dX11_cross_151 : decode cX11_cross 151 = .ok (.iconst 0, 1) := by decide +kernel
theorem dX11_cross_152 : decode cX11_cross 152 = .ok (.iadd, 1) := by decide +kernel
theorem dX11_cross_153 : decode cX11_cross 153 = .ok (.istore 12, 2) := by decide +kernel
theorem dX11_cross_155 : decode cX11_cross 155 = .ok (.iload 4, 2) := by decide +kernel
theorem dX11_cross_157 : decode cX11_cross 157 = .ok (.iload 11, 2) := by decide +kernel
theorem dX11_cross_159 : decode cX11_cross 159 = .ok (.isub, 1) := by decide +kernel
theorem dX11_cross_160 : decode cX11_cross 160 = .ok (.iload_n 1, 1) := by decide +kernel
theorem dX11_cross_161 : decode cX11_cross 161 = .ok (.iload_n 2, 1) := by decide +kernel
theorem dX11_cross_162 : decode cX11_cross 162 = .ok (.if_icmp .gt 7, 3) := by decide +kernel
theorem dX11_cross_165 : decode cX11_cross 165 = .ok (.iconst 0, 1) := by decide +kernel
theorem dX11_cross_166 : decode cX11_cross 166 = .ok (.goto 4, 3) := by decide +kernel
theorem dX11_cross_169 : decode cX11_cross 169 = .ok (.iload_n 2, 1) := by decide +kernel
theorem dX11_cross_170 : decode cX11_cross 170 = .ok (.iadd, 1) := by decide +kernel
theorem dX11_cross_171 : decode cX11_cross 171 = .ok (.istore 13, 2) := by decide +kernel
theorem dX11_cross_173 : decode cX11_cross 173 = .ok (.iload 12, 2) := by decide +kernel
theorem dX11_cross_175 : decode cX11_cross 175 = .ok (.iload 13, 2) := by decide +kernel
theorem dX11_cross_177 : decode cX11_cross 177 = .ok (.invokestatic 253, 3) := by decide +kernel
theorem dX11_cross_180 : decode cX11_cross 180 = .ok (.istore 14, 2) := by decide +kernel
theorem dX11_cross_182 : decode cX11_cross 182 = .ok (.iload 8, 2) := by decide +kernel
theorem dX11_cross_184 : decode cX11_cross 184 = .ok (.iconst (-1), 1) := by decide +kernel
theorem dX11_cross_185 : decode cX11_cross 185 = .ok (.if_icmp .eq 10, 3) := by decide +kernel
theorem dX11_cross_188 : decode cX11_cross 188 = .ok (.iload 14, 2) := by decide +kernel
theorem dX11_cross_190 : decode cX11_cross 190 = .ok (.iload 9, 2) := by decide +kernel
theorem dX11_cross_192 : decode cX11_cross 192 = .ok (.if_icmp .ge 11, 3) := by decide +kernel
theorem dX11_cross_195 : decode cX11_cross 195 = .ok (.iload 10, 2) := by decide +kernel
theorem dX11_cross_197 : decode cX11_cross 197 = .ok (.istore 8, 2) := by decide +kernel
theorem dX11_cross_199 : decode cX11_cross 199 = .ok (.iload 14, 2) := by decide +kernel
theorem dX11_cross_201 : decode cX11_cross 201 = .ok (.istore 9, 2) := by decide +kernel
theorem dX11_cross_203 : decode cX11_cross 203 = .ok (.iinc 10 1, 3) := by decide +kernel
theorem dX11_cross_206 : decode cX11_cross 206 = .ok (.goto (-126), 3) := by decide +kernel
theorem dX11_cross_209 : decode cX11_cross 209 = .ok (.iload 5, 2) := by decide +kernel
theorem dX11_cross_211 : decode cX11_cross 211 = .ok (.ifCond .ne 8, 3) := by decide +kernel
theorem dX11_cross_214 : decode cX11_cross 214 = .ok (.iload 8, 2) := by decide +kernel
theorem dX11_cross_216 : decode cX11_cross 216 = .ok (.goto 5, 3) := by decide +kernel
theorem dX11_cross_219 : decode cX11_cross 219 = .ok (.iload 9, 2) := by decide +kernel
theorem dX11_cross_221 : decode cX11_cross 221 = .ok (.ireturn, 1) := by decide +kernel
theorem dX11_isLongTrain_0 : decode cX11_isLongTrain 0 = .ok (.iload_n 0, 1) := by decide +kernel
theorem dX11_isLongTrain_1 : decode cX11_isLongTrain 1 = .ok (.iconst 1, 1) := by decide +kernel
theorem dX11_isLongTrain_2 : decode cX11_isLongTrain 2 = .ok (.if_icmp .lt 14, 3) := by decide +kernel
theorem dX11_isLongTrain_5 : decode cX11_isLongTrain 5 = .ok (.iload_n 0, 1) := by decide +kernel
theorem dX11_isLongTrain_6 : decode cX11_isLongTrain 6 = .ok (.sipush 400, 3) := by decide +kernel
theorem dX11_isLongTrain_9 : decode cX11_isLongTrain 9 = .ok (.if_icmp .gt 7, 3) := by decide +kernel
theorem dX11_isLongTrain_12 : decode cX11_isLongTrain 12 = .ok (.iconst 1, 1) := by decide +kernel
theorem dX11_isLongTrain_13 : decode cX11_isLongTrain 13 = .ok (.goto 4, 3) := by decide +kernel
theorem dX11_isLongTrain_16 : decode cX11_isLongTrain 16 = .ok (.iconst 0, 1) := by decide +kernel
theorem dX11_isLongTrain_17 : decode cX11_isLongTrain 17 = .ok (.ireturn, 1) := by decide +kernel
theorem dX11_ring_0 : decode cX11_ring 0 = .ok (.iload_n 1, 1) := by decide +kernel
theorem dX11_ring_1 : decode cX11_ring 1 = .ok (.iconst 1, 1) := by decide +kernel
theorem dX11_ring_2 : decode cX11_ring 2 = .ok (.if_icmp .lt 38, 3) := by decide +kernel
theorem dX11_ring_5 : decode cX11_ring 5 = .ok (.iload_n 1, 1) := by decide +kernel
theorem dX11_ring_6 : decode cX11_ring 6 = .ok (.sipush 9999, 3) := by decide +kernel
theorem dX11_ring_9 : decode cX11_ring 9 = .ok (.if_icmp .gt 31, 3) := by decide +kernel
theorem dX11_ring_12 : decode cX11_ring 12 = .ok (.iload_n 2, 1) := by decide +kernel
theorem dX11_ring_13 : decode cX11_ring 13 = .ok (.iconst 1, 1) := by decide +kernel
theorem dX11_ring_14 : decode cX11_ring 14 = .ok (.if_icmp .lt 26, 3) := by decide +kernel
theorem dX11_ring_17 : decode cX11_ring 17 = .ok (.iload_n 2, 1) := by decide +kernel
theorem dX11_ring_18 : decode cX11_ring 18 = .ok (.sipush 999, 3) := by decide +kernel
theorem dX11_ring_21 : decode cX11_ring 21 = .ok (.if_icmp .gt 19, 3) := by decide +kernel
theorem dX11_ring_24 : decode cX11_ring 24 = .ok (.iload_n 3, 1) := by decide +kernel
theorem dX11_ring_25 : decode cX11_ring 25 = .ok (.iconst 1, 1) := by decide +kernel
theorem dX11_ring_26 : decode cX11_ring 26 = .ok (.if_icmp .lt 14, 3) := by decide +kernel
theorem dX11_ring_29 : decode cX11_ring 29 = .ok (.iload_n 3, 1) := by decide +kernel
theorem dX11_ring_30 : decode cX11_ring 30 = .ok (.sipush 999, 3) := by decide +kernel
theorem dX11_ring_33 : decode cX11_ring 33 = .ok (.if_icmp .gt 7, 3) := by decide +kernel
theorem dX11_ring_36 : decode cX11_ring 36 = .ok (.iconst 1, 1) := by decide +kernel
theorem dX11_ring_37 : decode cX11_ring 37 = .ok (.goto 4, 3) := by decide +kernel
theorem dX11_ring_40 : decode cX11_ring 40 = .ok (.iconst 0, 1) := by decide +kernel
theorem dX11_ring_41 : decode cX11_ring 41 = .ok (.istore 5, 2) := by decide +kernel
theorem dX11_ring_43 : decode cX11_ring 43 = .ok (.iload 5, 2) := by decide +kernel
theorem dX11_ring_45 : decode cX11_ring 45 = .ok (.ifCond .eq 12, 3) := by decide +kernel
theorem dX11_ring_48 : decode cX11_ring 48 = .ok (.aload_n 0, 1) := by decide +kernel
theorem dX11_ring_49 : decode cX11_ring 49 = .ok (.iload 4, 2) := by decide +kernel
theorem dX11_ring_51 : decode cX11_ring 51 = .ok (.invokevirtual 141, 3) := by decide +kernel
theorem dX11_ring_54 : decode cX11_ring 54 = .ok (.ifCond .ne 5, 3) := by decide +kernel
theorem dX11_ring_57 : decode cX11_ring 57 = .ok (.iconst (-1), 1) := by decide +kernel
theorem dX11_ring_58 : decode cX11_ring 58 = .ok (.ireturn, 1) := by decide +kernel
theorem dX11_ring_59 : decode cX11_ring 59 = .ok (.iload_n 1, 1) := by decide +kernel
theorem dX11_ring_60 : decode cX11_ring 60 = .ok (.iload_n 2, 1) := by decide +kernel
theorem dX11_ring_61 : decode cX11_ring 61 = .ok (.isub, 1) := by decide +kernel
theorem dX11_ring_62 : decode cX11_ring 62 = .ok (.iload_n 3, 1) := by decide +kernel
theorem dX11_ring_63 : decode cX11_ring 63 = .ok (.isub, 1) := by decide +kernel
theorem dX11_ring_64 : decode cX11_ring 64 = .ok (.istore 6, 2) := by decide +kernel
theorem dX11_ring_66 : decode cX11_ring 66 = .ok (.aload_n 0, 1) := by decide +kernel
theorem dX11_ring_67 : decode cX11_ring 67 = .ok (.getfield 30, 3) := by decide +kernel
theorem dX11_ring_70 : decode cX11_ring 70 = .ok (.getfield 105, 3) := by decide +kernel
theorem dX11_ring_73 : decode cX11_ring 73 = .ok (.iload 4, 2) := by decide +kernel
theorem dX11_ring_75 : decode cX11_ring 75 = .ok (.invokevirtual 334, 3) := by decide +kernel
theorem dX11_ring_78 : decode cX11_ring 78 = .ok (.istore 7, 2) := by decide +kernel
theorem dX11_ring_80 : decode cX11_ring 80 = .ok (.iload 6, 2) := by decide +kernel
theorem dX11_ring_82 : decode cX11_ring 82 = .ok (.ifCond .lt 8, 3) := by decide +kernel
theorem dX11_ring_85 : decode cX11_ring 85 = .ok (.iload 7, 2) := by decide +kernel
theorem dX11_ring_87 : decode cX11_ring 87 = .ok (.ifCond .gt 7, 3) := by decide +kernel
theorem dX11_ring_90 : decode cX11_ring 90 = .ok (.iconst 0, 1) := by decide +kernel
theorem dX11_ring_91 : decode cX11_ring 91 = .ok (.goto 8, 3) := by decide +kernel
theorem dX11_ring_94 : decode cX11_ring 94 = .ok (.iload 6, 2) := by decide +kernel
theorem dX11_ring_96 : decode cX11_ring 96 = .ok (.iload 7, 2) := by decide +kernel
theorem dX11_ring_98 : decode cX11_ring 98 = .ok (.idiv, 1) := by decide +kernel
theorem dX11_ring_99 : decode cX11_ring 99 = .ok (.ireturn, 1) := by decide +kernel
theorem dX11_plan_0 : decode cX11_plan 0 = .ok (.aload_n 0, 1) := by decide +kernel
theorem dX11_plan_1 : decode cX11_plan 1 = .ok (.getfield 48, 3) := by decide +kernel
theorem dX11_plan_4 : decode cX11_plan 4 = .ok (.aload_n 0, 1) := by decide +kernel
theorem dX11_plan_5 : decode cX11_plan 5 = .ok (.getfield 23, 3) := by decide +kernel
theorem dX11_plan_8 : decode cX11_plan 8 = .ok (.aload_n 0, 1) := by decide +kernel
theorem dX11_plan_9 : decode cX11_plan 9 = .ok (.getfield 9, 3) := by decide +kernel
theorem dX11_plan_12 : decode cX11_plan 12 = .ok (.aload_n 0, 1) := by decide +kernel
theorem dX11_plan_13 : decode cX11_plan 13 = .ok (.invokevirtual 88, 3) := by decide +kernel
theorem dX11_plan_16 : decode cX11_plan 16 = .ok (.invokevirtual 337, 3) := by decide +kernel
theorem dX11_plan_19 : decode cX11_plan 19 = .ok (.istore_n 1, 1) := by decide +kernel
theorem dX11_plan_20 : decode cX11_plan 20 = .ok (.aload_n 0, 1) := by decide +kernel
theorem dX11_plan_21 : decode cX11_plan 21 = .ok (.aload_n 0, 1) := by decide +kernel
theorem dX11_plan_22 : decode cX11_plan 22 = .ok (.getfield 23, 3) := by decide +kernel
theorem dX11_plan_25 : decode cX11_plan 25 = .ok (.getfield 99, 3) := by decide +kernel
theorem dX11_plan_28 : decode cX11_plan 28 = .ok (.putfield 102, 3) := by decide +kernel
theorem dX11_plan_31 : decode cX11_plan 31 = .ok (.iload_n 1, 1) := by decide +kernel
theorem dX11_plan_32 : decode cX11_plan 32 = .ok (.ifCond .lt 27, 3) := by decide +kernel
theorem dX11_plan_35 : decode cX11_plan 35 = .ok (.aload_n 0, 1) := by decide +kernel
theorem dX11_plan_36 : decode cX11_plan 36 = .ok (.getfield 30, 3) := by decide +kernel
theorem dX11_plan_39 : decode cX11_plan 39 = .ok (.getfield 115, 3) := by decide +kernel
theorem dX11_plan_42 : decode cX11_plan 42 = .ok (.astore_n 2, 1) := by decide +kernel
theorem dX11_plan_43 : decode cX11_plan 43 = .ok (.aload_n 0, 1) := by decide +kernel
theorem dX11_plan_44 : decode cX11_plan 44 = .ok (.getfield 30, 3) := by decide +kernel
theorem dX11_plan_47 : decode cX11_plan 47 = .ok (.aload_n 0, 1) := by decide +kernel
theorem dX11_plan_48 : decode cX11_plan 48 = .ok (.getfield 48, 3) := by decide +kernel
theorem dX11_plan_51 : decode cX11_plan 51 = .ok (.putfield 115, 3) := by decide +kernel
theorem dX11_plan_54 : decode cX11_plan 54 = .ok (.aload_n 0, 1) := by decide +kernel
theorem dX11_plan_55 : decode cX11_plan 55 = .ok (.aload_n 2, 1) := by decide +kernel
theorem dX11_plan_56 : decode cX11_plan 56 = .ok (.putfield 48, 3) := by decide +kernel
theorem dX11_plan_59 : decode cX11_plan 59 = .ok (.iload_n 1, 1) := by decide +kernel
theorem dX11_plan_60 : decode cX11_plan 60 = .ok (.ireturn, 1) := by decide +kernel
theorem dX11_judge_0 : decode cX11_judge 0 = .ok (.iload_n 1, 1) := by decide +kernel
theorem dX11_judge_1 : decode cX11_judge 1 = .ok (.iconst 1, 1) := by decide +kernel
theorem dX11_judge_2 : decode cX11_judge 2 = .ok (.if_icmp .ne 32, 3) := by decide +kernel
theorem dX11_judge_5 : decode cX11_judge 5 = .ok (.aload_n 0, 1) := by decide +kernel
theorem dX11_judge_6 : decode cX11_judge 6 = .ok (.getfield 69, 3) := by decide +kernel
theorem dX11_judge_9 : decode cX11_judge 9 = .ok (.aload_n 0, 1) := by decide +kernel
theorem dX11_judge_10 : decode cX11_judge 10 = .ok (.getfield 30, 3) := by decide +kernel
theorem dX11_judge_13 : decode cX11_judge 13 = .ok (.getfield 115, 3) := by decide +kernel
theorem dX11_judge_16 : decode cX11_judge 16 = .ok (.aload_n 0, 1) := by decide +kernel
theorem dX11_judge_17 : decode cX11_judge 17 = .ok (.getfield 30, 3) := by decide +kernel
theorem dX11_judge_20 : decode cX11_judge 20 = .ok (.getfield 105, 3) := by decide +kernel
theorem dX11_judge_23 : decode cX11_judge 23 = .ok (.aload_n 0, 1) := by decide +kernel
theorem dX11_judge_24 : decode cX11_judge 24 = .ok (.getfield 30, 3) := by decide +kernel
theorem dX11_judge_27 : decode cX11_judge 27 = .ok (.getfield 108, 3) := by decide +kernel
theorem dX11_judge_30 : decode cX11_judge 30 = .ok (.invokevirtual 340, 3) := by decide +kernel
theorem dX11_judge_33 : decode cX11_judge 33 = .ok (.ireturn, 1) := by decide +kernel
theorem dX11_judge_34 : decode cX11_judge 34 = .ok (.iload_n 1, 1) := by decide +kernel
theorem dX11_judge_35 : decode cX11_judge 35 = .ok (.ifCond .eq 6, 3) := by decide +kernel
theorem dX11_judge_38 : decode cX11_judge 38 = .ok (.bipush (-2), 2) := by decide +kernel
theorem dX11_judge_40 : decode cX11_judge 40 = .ok (.ireturn, 1) := by decide +kernel
theorem dX11_judge_41 : decode cX11_judge 41 = .ok (.aload_n 0, 1) := by decide +kernel
theorem dX11_judge_42 : decode cX11_judge 42 = .ok (.getfield 76, 3) := by decide +kernel
theorem dX11_judge_45 : decode cX11_judge 45 = .ok (.aload_n 0, 1) := by decide +kernel
theorem dX11_judge_46 : decode cX11_judge 46 = .ok (.getfield 30, 3) := by decide +kernel
theorem dX11_judge_49 : decode cX11_judge 49 = .ok (.getfield 108, 3) := by decide +kernel
theorem dX11_judge_52 : decode cX11_judge 52 = .ok (.invokevirtual 344, 3) := by decide +kernel
theorem dX11_judge_55 : decode cX11_judge 55 = .ok (.aload_n 0, 1) := by decide +kernel
theorem dX11_judge_56 : decode cX11_judge 56 = .ok (.getfield 69, 3) := by decide +kernel
theorem dX11_judge_59 : decode cX11_judge 59 = .ok (.aload_n 0, 1) := by decide +kernel
theorem dX11_judge_60 : decode cX11_judge 60 = .ok (.getfield 30, 3) := by decide +kernel
theorem dX11_judge_63 : decode cX11_judge 63 = .ok (.getfield 115, 3) := by decide +kernel
theorem dX11_judge_66 : decode cX11_judge 66 = .ok (.aload_n 0, 1) := by decide +kernel
theorem dX11_judge_67 : decode cX11_judge 67 = .ok (.getfield 30, 3) := by decide +kernel
theorem dX11_judge_70 : decode cX11_judge 70 = .ok (.getfield 105, 3) := by decide +kernel
theorem dX11_judge_73 : decode cX11_judge 73 = .ok (.aload_n 0, 1) := by decide +kernel
theorem dX11_judge_74 : decode cX11_judge 74 = .ok (.getfield 76, 3) := by decide +kernel
theorem dX11_judge_77 : decode cX11_judge 77 = .ok (.invokevirtual 340, 3) := by decide +kernel
theorem dX11_judge_80 : decode cX11_judge 80 = .ok (.ireturn, 1) := by decide +kernel
theorem dX11_judged_0 : decode cX11_judged 0 = .ok (.iload_n 1, 1) := by decide +kernel
theorem dX11_judged_1 : decode cX11_judged 1 = .ok (.ifCond .lt 18, 3) := by decide +kernel
theorem dX11_judged_4 : decode cX11_judged 4 = .ok (.iload_n 1, 1) := by decide +kernel
theorem dX11_judged_5 : decode cX11_judged 5 = .ok (.iconst 5, 1) := by decide +kernel
theorem dX11_judged_6 : decode cX11_judged 6 = .ok (.if_icmp .gt 13, 3) := by decide +kernel
theorem dX11_judged_9 : decode cX11_judged 9 = .ok (.aload_n 0, 1) := by decide +kernel
theorem dX11_judged_10 : decode cX11_judged 10 = .ok (.getfield 69, 3) := by decide +kernel
theorem dX11_judged_13 : decode cX11_judged 13 = .ok (.getfield 348, 3) := by decide +kernel
theorem dX11_judged_16 : decode cX11_judged 16 = .ok (.ifCond .ne 7, 3) := by decide +kernel
theorem dX11_judged_19 : decode cX11_judged 19 = .ok (.iconst (-1), 1) := by decide +kernel
theorem dX11_judged_20 : decode cX11_judged 20 = .ok (.goto 12, 3) := by decide +kernel
theorem dX11_judged_23 : decode cX11_judged 23 = .ok (.aload_n 0, 1) := by decide +kernel
theorem dX11_judged_24 : decode cX11_judged 24 = .ok (.getfield 69, 3) := by decide +kernel
theorem dX11_judged_27 : decode cX11_judged 27 = .ok (.getfield 352, 3) := by decide +kernel
theorem dX11_judged_30 : decode cX11_judged 30 = .ok (.iload_n 1, 1) := by decide +kernel
theorem dX11_judged_31 : decode cX11_judged 31 = .ok (.iaload, 1) := by decide +kernel
theorem dX11_judged_32 : decode cX11_judged 32 = .ok (.ireturn, 1) := by decide +kernel
theorem dX11_bet_0 : decode cX11_bet 0 = .ok (.aload_n 0, 1) := by decide +kernel
theorem dX11_bet_1 : decode cX11_bet 1 = .ok (.getfield 62, 3) := by decide +kernel
theorem dX11_bet_4 : decode cX11_bet 4 = .ok (.aload_n 0, 1) := by decide +kernel
theorem dX11_bet_5 : decode cX11_bet 5 = .ok (.getfield 30, 3) := by decide +kernel
theorem dX11_bet_8 : decode cX11_bet 8 = .ok (.getfield 105, 3) := by decide +kernel
theorem dX11_bet_11 : decode cX11_bet 11 = .ok (.iload_n 1, 1) := by decide +kernel
theorem dX11_bet_12 : decode cX11_bet 12 = .ok (.invokevirtual 355, 3) := by decide +kernel
theorem dX11_bet_15 : decode cX11_bet 15 = .ok (.ireturn, 1) := by decide +kernel
theorem dX11_bets_0 : decode cX11_bets 0 = .ok (.iload_n 1, 1) := by decide +kernel
theorem dX11_bets_1 : decode cX11_bets 1 = .ok (.iconst 1, 1) := by decide +kernel
theorem dX11_bets_2 : decode cX11_bets 2 = .ok (.if_icmp .lt 18, 3) := by decide +kernel
theorem dX11_bets_5 : decode cX11_bets 5 = .ok (.iload_n 1, 1) := by decide +kernel
theorem dX11_bets_6 : decode cX11_bets 6 = .ok (.sipush 200, 3) := by decide +kernel
theorem dX11_bets_9 : decode cX11_bets 9 = .ok (.if_icmp .gt 11, 3) := by decide +kernel
theorem dX11_bets_12 : decode cX11_bets 12 = .ok (.aload_n 0, 1) := by decide +kernel
theorem dX11_bets_13 : decode cX11_bets 13 = .ok (.iload_n 3, 1) := by decide +kernel
theorem dX11_bets_14 : decode cX11_bets 14 = .ok (.invokevirtual 244, 3) := by decide +kernel
theorem dX11_bets_17 : decode cX11_bets 17 = .ok (.ifCond .ne 5, 3) := by decide +kernel
theorem dX11_bets_20 : decode cX11_bets 20 = .ok (.iconst (-1), 1) := by decide +kernel
theorem dX11_bets_21 : decode cX11_bets 21 = .ok (.ireturn, 1) := by decide +kernel
theorem dX11_bets_22 : decode cX11_bets 22 = .ok (.aload_n 0, 1) := by decide +kernel
theorem dX11_bets_23 : decode cX11_bets 23 = .ok (.getfield 62, 3) := by decide +kernel
theorem dX11_bets_26 : decode cX11_bets 26 = .ok (.aload_n 0, 1) := by decide +kernel
theorem dX11_bets_27 : decode cX11_bets 27 = .ok (.getfield 30, 3) := by decide +kernel
theorem dX11_bets_30 : decode cX11_bets 30 = .ok (.getfield 105, 3) := by decide +kernel
theorem dX11_bets_33 : decode cX11_bets 33 = .ok (.iload_n 1, 1) := by decide +kernel
theorem dX11_bets_34 : decode cX11_bets 34 = .ok (.iload_n 2, 1) := by decide +kernel
theorem dX11_bets_35 : decode cX11_bets 35 = .ok (.iload_n 3, 1) := by decide +kernel
theorem dX11_bets_36 : decode cX11_bets 36 = .ok (.invokevirtual 358, 3) := by decide +kernel
theorem dX11_bets_39 : decode cX11_bets 39 = .ok (.ireturn, 1) := by decide +kernel
theorem dX11_image_0 : decode cX11_image 0 = .ok (.iload_n 1, 1) := by decide +kernel
theorem dX11_image_1 : decode cX11_image 1 = .ok (.ifCond .lt 8, 3) := by decide +kernel
theorem dX11_image_4 : decode cX11_image 4 = .ok (.iload_n 1, 1) := by decide +kernel
theorem dX11_image_5 : decode cX11_image 5 = .ok (.iconst 2, 1) := by decide +kernel
theorem dX11_image_6 : decode cX11_image 6 = .ok (.if_icmp .lt 5, 3) := by decide +kernel
theorem dX11_image_9 : decode cX11_image 9 = .ok (.iconst 0, 1) := by decide +kernel
theorem dX11_image_10 : decode cX11_image 10 = .ok (.ireturn, 1) := by decide +kernel
theorem dX11_image_11 : decode cX11_image 11 = .ok (.aload_n 0, 1) := by decide +kernel
theorem dX11_image_12 : decode cX11_image 12 = .ok (.getfield 34, 3) := by decide +kernel
theorem dX11_image_15 : decode cX11_image 15 = .ok (.iload_n 1, 1) := by decide +kernel
theorem dX11_image_16 : decode cX11_image 16 = .ok (.aaload, 1) := by decide +kernel
theorem dX11_image_17 : decode cX11_image 17 = .ok (.ifnonnull 16, 3) := by decide +kernel
theorem dX11_image_20 : decode cX11_image 20 = .ok (.aload_n 0, 1) := by decide +kernel
theorem dX11_image_21 : decode cX11_image 21 = .ok (.getfield 34, 3) := by decide +kernel
theorem dX11_image_24 : decode cX11_image 24 = .ok (.iload_n 1, 1) := by decide +kernel
theorem dX11_image_25 : decode cX11_image 25 = .ok (.new 27, 3) := by decide +kernel
theorem dX11_image_28 : decode cX11_image 28 = .ok (.dup, 1) := by decide +kernel
theorem dX11_image_29 : decode cX11_image 29 = .ok (.invokespecial 29, 3) := by decide +kernel
theorem dX11_image_32 : decode cX11_image 32 = .ok (.aastore, 1) := by decide +kernel
theorem dX11_image_33 : decode cX11_image 33 = .ok (.aload_n 0, 1) := by decide +kernel
theorem dX11_image_34 : decode cX11_image 34 = .ok (.getfield 34, 3) := by decide +kernel
theorem dX11_image_37 : decode cX11_image 37 = .ok (.iload_n 1, 1) := by decide +kernel
theorem dX11_image_38 : decode cX11_image 38 = .ok (.aaload, 1) := by decide +kernel
theorem dX11_image_39 : decode cX11_image 39 = .ok (.aload_n 0, 1) := by decide +kernel
theorem dX11_image_40 : decode cX11_image 40 = .ok (.getfield 30, 3) := by decide +kernel
theorem dX11_image_43 : decode cX11_image 43 = .ok (.invokevirtual 361, 3) := by decide +kernel
theorem dX11_image_46 : decode cX11_image 46 = .ok (.iconst 1, 1) := by decide +kernel
theorem dX11_image_47 : decode cX11_image 47 = .ok (.ireturn, 1) := by decide +kernel
theorem dX11_restore_0 : decode cX11_restore 0 = .ok (.iload_n 1, 1) := by decide +kernel
theorem dX11_restore_1 : decode cX11_restore 1 = .ok (.ifCond .lt 17, 3) := by decide +kernel
theorem dX11_restore_4 : decode cX11_restore 4 = .ok (.iload_n 1, 1) := by decide +kernel
theorem dX11_restore_5 : decode cX11_restore 5 = .ok (.iconst 2, 1) := by decide +kernel
theorem dX11_restore_6 : decode cX11_restore 6 = .ok (.if_icmp .ge 12, 3) := by decide +kernel
theorem dX11_restore_9 : decode cX11_restore 9 = .ok (.aload_n 0, 1) := by decide +kernel
theorem dX11_restore_10 : decode cX11_restore 10 = .ok (.getfield 34, 3) := by decide +kernel
theorem dX11_restore_13 : decode cX11_restore 13 = .ok (.iload_n 1, 1) := by decide +kernel
theorem dX11_restore_14 : decode cX11_restore 14 = .ok (.aaload, 1) := by decide +kernel
theorem dX11_restore_15 : decode cX11_restore 15 = .ok (.ifnonnull 5, 3) := by decide +kernel
theorem dX11_restore_18 : decode cX11_restore 18 = .ok (.iconst 0, 1) := by decide +kernel
theorem dX11_restore_19 : decode cX11_restore 19 = .ok (.ireturn, 1) := by decide +kernel
theorem dX11_restore_20 : decode cX11_restore 20 = .ok (.aload_n 0, 1) := by decide +kernel
theorem dX11_restore_21 : decode cX11_restore 21 = .ok (.getfield 30, 3) := by decide +kernel
theorem dX11_restore_24 : decode cX11_restore 24 = .ok (.aload_n 0, 1) := by decide +kernel
theorem dX11_restore_25 : decode cX11_restore 25 = .ok (.getfield 34, 3) := by decide +kernel
theorem dX11_restore_28 : decode cX11_restore 28 = .ok (.iload_n 1, 1) := by decide +kernel
theorem dX11_restore_29 : decode cX11_restore 29 = .ok (.aaload, 1) := by decide +kernel
theorem dX11_restore_30 : decode cX11_restore 30 = .ok (.invokevirtual 361, 3) := by decide +kernel
theorem dX11_restore_33 : decode cX11_restore 33 = .ok (.iconst 1, 1) := by decide +kernel
theorem dX11_restore_34 : decode cX11_restore 34 = .ok (.ireturn, 1) := by decide +kernel
theorem dX11_count_0 : decode cX11_count 0 = .ok (.aload_n 0, 1) := by decide +kernel
theorem dX11_count_1 : decode cX11_count 1 = .ok (.getfield 30, 3) := by decide +kernel
theorem dX11_count_4 : decode cX11_count 4 = .ok (.getfield 105, 3) := by decide +kernel
theorem dX11_count_7 : decode cX11_count 7 = .ok (.astore_n 2, 1) := by decide +kernel
theorem dX11_count_8 : decode cX11_count 8 = .ok (.iload_n 1, 1) := by decide +kernel
theorem dX11_count_9 : decode cX11_count 9 = .ok (.tableswitch 120 0 10 #[59, 64, 69, 74, 79, 84, 89, 94, 99, 104, 115], 59) := by decide +kernel
theorem dX11_count_68 : decode cX11_count 68 = .ok (.aload_n 2, 1) := by decide +kernel
theorem dX11_count_69 : decode cX11_count 69 = .ok (.getfield 121, 3) := by decide +kernel
theorem dX11_count_72 : decode cX11_count 72 = .ok (.ireturn, 1) := by decide +kernel
theorem dX11_count_73 : decode cX11_count 73 = .ok (.aload_n 2, 1) := by decide +kernel
theorem dX11_count_74 : decode cX11_count 74 = .ok (.getfield 138, 3) := by decide +kernel
theorem dX11_count_77 : decode cX11_count 77 = .ok (.ireturn, 1) := by decide +kernel
theorem dX11_count_78 : decode cX11_count 78 = .ok (.aload_n 2, 1) := by decide +kernel
theorem dX11_count_79 : decode cX11_count 79 = .ok (.getfield 263, 3) := by decide +kernel
theorem dX11_count_82 : decode cX11_count 82 = .ok (.ireturn, 1) := by decide +kernel
theorem dX11_count_83 : decode cX11_count 83 = .ok (.aload_n 2, 1) := by decide +kernel
theorem dX11_count_84 : decode cX11_count 84 = .ok (.getfield 147, 3) := by decide +kernel
theorem dX11_count_87 : decode cX11_count 87 = .ok (.ireturn, 1) := by decide +kernel
theorem dX11_count_88 : decode cX11_count 88 = .ok (.aload_n 2, 1) := by decide +kernel
theorem dX11_count_89 : decode cX11_count 89 = .ok (.getfield 364, 3) := by decide +kernel
theorem dX11_count_92 : decode cX11_count 92 = .ok (.ireturn, 1) := by decide +kernel
theorem dX11_count_93 : decode cX11_count 93 = .ok (.aload_n 2, 1) := by decide +kernel
theorem dX11_count_94 : decode cX11_count 94 = .ok (.getfield 367, 3) := by decide +kernel
theorem dX11_count_97 : decode cX11_count 97 = .ok (.ireturn, 1) := by decide +kernel
theorem dX11_count_98 : decode cX11_count 98 = .ok (.aload_n 2, 1) := by decide +kernel
theorem dX11_count_99 : decode cX11_count 99 = .ok (.getfield 370, 3) := by decide +kernel
theorem dX11_count_102 : decode cX11_count 102 = .ok (.ireturn, 1) := by decide +kernel
theorem dX11_count_103 : decode cX11_count 103 = .ok (.aload_n 2, 1) := by decide +kernel
theorem dX11_count_104 : decode cX11_count 104 = .ok (.getfield 373, 3) := by decide +kernel
theorem dX11_count_107 : decode cX11_count 107 = .ok (.ireturn, 1) := by decide +kernel
theorem dX11_count_108 : decode cX11_count 108 = .ok (.aload_n 2, 1) := by decide +kernel
theorem dX11_count_109 : decode cX11_count 109 = .ok (.getfield 376, 3) := by decide +kernel
theorem dX11_count_112 : decode cX11_count 112 = .ok (.ireturn, 1) := by decide +kernel
theorem dX11_count_113 : decode cX11_count 113 = .ok (.aload_n 0, 1) := by decide +kernel
theorem dX11_count_114 : decode cX11_count 114 = .ok (.getfield 30, 3) := by decide +kernel
theorem dX11_count_117 : decode cX11_count 117 = .ok (.getfield 115, 3) := by decide +kernel
theorem dX11_count_120 : decode cX11_count 120 = .ok (.getfield 379, 3) := by decide +kernel
theorem dX11_count_123 : decode cX11_count 123 = .ok (.ireturn, 1) := by decide +kernel
theorem dX11_count_124 : decode cX11_count 124 = .ok (.aload_n 0, 1) := by decide +kernel
theorem dX11_count_125 : decode cX11_count 125 = .ok (.getfield 80, 3) := by decide +kernel
theorem dX11_count_128 : decode cX11_count 128 = .ok (.ireturn, 1) := by decide +kernel
theorem dX11_count_129 : decode cX11_count 129 = .ok (.iconst (-1), 1) := by decide +kernel
theorem dX11_count_130 : decode cX11_count 130 = .ok (.ireturn, 1) := by decide +kernel
theorem dX12_thrown_0 : decode cX12_thrown 0 = .ok (.aload_n 0, 1) := by decide +kernel
theorem dX12_thrown_1 : decode cX12_thrown 1 = .ok (.getfield 1, 3) := by decide +kernel
theorem dX12_thrown_4 : decode cX12_thrown 4 = .ok (.ireturn, 1) := by decide +kernel
theorem dX12_throwsIf_0 : decode cX12_throwsIf 0 = .ok (.aload_n 0, 1) := by decide +kernel
theorem dX12_throwsIf_1 : decode cX12_throwsIf 1 = .ok (.iload_n 1, 1) := by decide +kernel
theorem dX12_throwsIf_2 : decode cX12_throwsIf 2 = .ok (.ifCond .eq 7, 3) := by decide +kernel
theorem dX12_throwsIf_5 : decode cX12_throwsIf 5 = .ok (.iconst 1, 1) := by decide +kernel
theorem dX12_throwsIf_6 : decode cX12_throwsIf 6 = .ok (.goto 4, 3) := by decide +kernel
theorem dX12_throwsIf_9 : decode cX12_throwsIf 9 = .ok (.iconst 0, 1) := by decide +kernel
theorem dX12_throwsIf_10 : decode cX12_throwsIf 10 = .ok (.putfield 1, 3) := by decide +kernel
theorem dX12_throwsIf_13 : decode cX12_throwsIf 13 = .ok (.iload_n 1, 1) := by decide +kernel
theorem dX12_throwsIf_14 : decode cX12_throwsIf 14 = .ok (.ireturn, 1) := by decide +kernel
theorem dX12_feed_0 : decode cX12_feed 0 = .ok (.aload_n 0, 1) := by decide +kernel
theorem dX12_feed_1 : decode cX12_feed 1 = .ok (.iconst 0, 1) := by decide +kernel
theorem dX12_feed_2 : decode cX12_feed 2 = .ok (.putfield 1, 3) := by decide +kernel
theorem dX12_feed_5 : decode cX12_feed 5 = .ok (.aload_n 0, 1) := by decide +kernel
theorem dX12_feed_6 : decode cX12_feed 6 = .ok (.getfield 7, 3) := by decide +kernel
theorem dX12_feed_9 : decode cX12_feed 9 = .ok (.bipush 20, 2) := by decide +kernel
theorem dX12_feed_11 : decode cX12_feed 11 = .ok (.iadd, 1) := by decide +kernel
theorem dX12_feed_12 : decode cX12_feed 12 = .ok (.sipush 940, 3) := by decide +kernel
theorem dX12_feed_15 : decode cX12_feed 15 = .ok (.if_icmp .le 5, 3) := by decide +kernel
theorem dX12_feed_18 : decode cX12_feed 18 = .ok (.iconst (-1), 1) := by decide +kernel
theorem dX12_feed_19 : decode cX12_feed 19 = .ok (.ireturn, 1) := by decide +kernel
theorem dX12_feed_20 : decode cX12_feed 20 = .ok (.aload_n 0, 1) := by decide +kernel
theorem dX12_feed_21 : decode cX12_feed 21 = .ok (.iload_n 1, 1) := by decide +kernel
theorem dX12_feed_22 : decode cX12_feed 22 = .ok (.invokevirtual 10, 3) := by decide +kernel
theorem dX12_feed_25 : decode cX12_feed 25 = .ok (.aload_n 0, 1) := by decide +kernel
theorem dX12_feed_26 : decode cX12_feed 26 = .ok (.iload_n 2, 1) := by decide +kernel
theorem dX12_feed_27 : decode cX12_feed 27 = .ok (.invokevirtual 10, 3) := by decide +kernel
theorem dX12_feed_30 : decode cX12_feed 30 = .ok (.aload_n 0, 1) := by decide +kernel
theorem dX12_feed_31 : decode cX12_feed 31 = .ok (.iload_n 3, 1) := by decide +kernel
theorem dX12_feed_32 : decode cX12_feed 32 = .ok (.invokevirtual 10, 3) := by decide +kernel
theorem dX12_feed_35 : decode cX12_feed 35 = .ok (.aload_n 0, 1) := by decide +kernel
theorem dX12_feed_36 : decode cX12_feed 36 = .ok (.iload 4, 2) := by decide +kernel
theorem dX12_feed_38 : decode cX12_feed 38 = .ok (.invokevirtual 10, 3) := by decide +kernel
theorem dX12_feed_41 : decode cX12_feed 41 = .ok (.aload_n 0, 1) := by decide +kernel
theorem dX12_feed_42 : decode cX12_feed 42 = .ok (.iload 5, 2) := by decide +kernel
theorem dX12_feed_44 : decode cX12_feed 44 = .ok (.invokevirtual 10, 3) := by decide +kernel
theorem dX12_feed_47 : decode cX12_feed 47 = .ok (.aload_n 0, 1) := by decide +kernel
theorem dX12_feed_48 : decode cX12_feed 48 = .ok (.getfield 7, 3) := by decide +kernel
theorem dX12_feed_51 : decode cX12_feed 51 = .ok (.ireturn, 1) := by decide +kernel
theorem dX12_four_0 : decode cX12_four 0 = .ok (.bipush 24, 2) := by decide +kernel
theorem dX12_four_2 : decode cX12_four 2 = .ok (.istore_n 2, 1) := by decide +kernel
theorem dX12_four_3 : decode cX12_four 3 = .ok (.iload_n 2, 1) := by decide +kernel
theorem dX12_four_4 : decode cX12_four 4 = .ok (.ifCond .lt 32, 3) := by decide +kernel
theorem dX12_four_7 : decode cX12_four 7 = .ok (.aload_n 0, 1) := by decide +kernel
theorem dX12_four_8 : decode cX12_four 8 = .ok (.getfield 14, 3) := by decide +kernel
theorem dX12_four_11 : decode cX12_four 11 = .ok (.aload_n 0, 1) := by decide +kernel
theorem dX12_four_12 : decode cX12_four 12 = .ok (.getfield 7, 3) := by decide +kernel
theorem dX12_four_15 : decode cX12_four 15 = .ok (.iload_n 1, 1) := by decide +kernel
theorem dX12_four_16 : decode cX12_four 16 = .ok (.iload_n 2, 1) := by decide +kernel
theorem dX12_four_17 : decode cX12_four 17 = .ok (.ishr, 1) := by decide +kernel
theorem dX12_four_18 : decode cX12_four 18 = .ok (.i2b, 1) := by decide +kernel
theorem dX12_four_19 : decode cX12_four 19 = .ok (.bastore, 1) := by decide +kernel
theorem dX12_four_20 : decode cX12_four 20 = .ok (.aload_n 0, 1) := by decide +kernel
theorem dX12_four_21 : decode cX12_four 21 = .ok (.dup, 1) := by decide +kernel
theorem dX12_four_22 : decode cX12_four 22 = .ok (.getfield 7, 3) := by decide +kernel
theorem dX12_four_25 : decode cX12_four 25 = .ok (.iconst 1, 1) := by decide +kernel
theorem dX12_four_26 : decode cX12_four 26 = .ok (.iadd, 1) := by decide +kernel
theorem dX12_four_27 : decode cX12_four 27 = .ok (.putfield 7, 3) := by decide +kernel
theorem dX12_four_30 : decode cX12_four 30 = .ok (.iinc 2 (-8), 3) := by decide +kernel
theorem dX12_four_33 : decode cX12_four 33 = .ok (.goto (-30), 3) := by decide +kernel
theorem dX12_four_36 : decode cX12_four 36 = .ok (.return_, 1) := by decide +kernel
theorem dX12_end_0 : decode cX12_end 0 = .ok (.aload_n 0, 1) := by decide +kernel
theorem dX12_end_1 : decode cX12_end 1 = .ok (.iconst 0, 1) := by decide +kernel
theorem dX12_end_2 : decode cX12_end 2 = .ok (.putfield 1, 3) := by decide +kernel
theorem dX12_end_5 : decode cX12_end 5 = .ok (.iload_n 1, 1) := by decide +kernel
theorem dX12_end_6 : decode cX12_end 6 = .ok (.ifCond .lt 11, 3) := by decide +kernel
theorem dX12_end_9 : decode cX12_end 9 = .ok (.iload_n 1, 1) := by decide +kernel
theorem dX12_end_10 : decode cX12_end 10 = .ok (.aload_n 0, 1) := by decide +kernel
theorem dX12_end_11 : decode cX12_end 11 = .ok (.getfield 7, 3) := by decide +kernel
theorem dX12_end_14 : decode cX12_end 14 = .ok (.if_icmp .le 5, 3) := by decide +kernel
theorem dX12_end_17 : decode cX12_end 17 = .ok (.iconst 0, 1) := by decide +kernel
theorem dX12_end_18 : decode cX12_end 18 = .ok (.ireturn, 1) := by decide +kernel
theorem dX12_end_19 : decode cX12_end 19 = .ok (.aload_n 0, 1) := by decide +kernel
theorem dX12_end_20 : decode cX12_end 20 = .ok (.iload_n 1, 1) := by decide +kernel
theorem dX12_end_21 : decode cX12_end 21 = .ok (.putfield 7, 3) := by decide +kernel
theorem dX12_end_24 : decode cX12_end 24 = .ok (.iconst 1, 1) := by decide +kernel
theorem dX12_end_25 : decode cX12_end 25 = .ok (.ireturn, 1) := by decide +kernel
theorem dX12_taken_0 : decode cX12_taken 0 = .ok (.aload_n 0, 1) := by decide +kernel
theorem dX12_taken_1 : decode cX12_taken 1 = .ok (.aload_n 0, 1) := by decide +kernel
theorem dX12_taken_2 : decode cX12_taken 2 = .ok (.getfield 7, 3) := by decide +kernel
theorem dX12_taken_5 : decode cX12_taken 5 = .ok (.putfield 18, 3) := by decide +kernel
theorem dX12_taken_8 : decode cX12_taken 8 = .ok (.aload_n 0, 1) := by decide +kernel
theorem dX12_taken_9 : decode cX12_taken 9 = .ok (.iconst 0, 1) := by decide +kernel
theorem dX12_taken_10 : decode cX12_taken 10 = .ok (.putfield 7, 3) := by decide +kernel
theorem dX12_taken_13 : decode cX12_taken 13 = .ok (.aload_n 0, 1) := by decide +kernel
theorem dX12_taken_14 : decode cX12_taken 14 = .ok (.iconst 0, 1) := by decide +kernel
theorem dX12_taken_15 : decode cX12_taken 15 = .ok (.putfield 21, 3) := by decide +kernel
theorem dX12_taken_18 : decode cX12_taken 18 = .ok (.aload_n 0, 1) := by decide +kernel
theorem dX12_taken_19 : decode cX12_taken 19 = .ok (.iload_n 1, 1) := by decide +kernel
theorem dX12_taken_20 : decode cX12_taken 20 = .ok (.putfield 24, 3) := by decide +kernel
theorem dX12_taken_23 : decode cX12_taken 23 = .ok (.return_, 1) := by decide +kernel
theorem dX12_isIn_0 : decode cX12_isIn 0 = .ok (.iload_n 0, 1) := by decide +kernel
theorem dX12_isIn_1 : decode cX12_isIn 1 = .ok (.iload_n 1, 1) := by decide +kernel
theorem dX12_isIn_2 : decode cX12_isIn 2 = .ok (.if_icmp .lt 12, 3) := by decide +kernel
theorem dX12_isIn_5 : decode cX12_isIn 5 = .ok (.iload_n 0, 1) := by decide +kernel
theorem dX12_isIn_6 : decode cX12_isIn 6 = .ok (.iload_n 2, 1) := by decide +kernel
theorem dX12_isIn_7 : decode cX12_isIn 7 = .ok (.if_icmp .gt 7, 3) := by decide +kernel
theorem dX12_isIn_10 : decode cX12_isIn 10 = .ok (.iconst 1, 1) := by decide +kernel
theorem dX12_isIn_11 : decode cX12_isIn 11 = .ok (.goto 4, 3) := by decide +kernel
theorem dX12_isIn_14 : decode cX12_isIn 14 = .ok (.iconst 0, 1) := by decide +kernel
theorem dX12_isIn_15 : decode cX12_isIn 15 = .ok (.ireturn, 1) := by decide +kernel
theorem dX12_has_0 : decode cX12_has 0 = .ok (.iload_n 0, 1) := by decide +kernel
theorem dX12_has_1 : decode cX12_has 1 = .ok (.iload_n 1, 1) := by decide +kernel
theorem dX12_has_2 : decode cX12_has 2 = .ok (.ishr, 1) := by decide +kernel
theorem dX12_has_3 : decode cX12_has 3 = .ok (.iconst 1, 1) := by decide +kernel
theorem dX12_has_4 : decode cX12_has 4 = .ok (.iand, 1) := by decide +kernel
theorem dX12_has_5 : decode cX12_has 5 = .ok (.iconst 1, 1) := by decide +kernel
theorem dX12_has_6 : decode cX12_has 6 = .ok (.if_icmp .ne 7, 3) := by decide +kernel
theorem dX12_has_9 : decode cX12_has 9 = .ok (.iconst 1, 1) := by decide +kernel
theorem dX12_has_10 : decode cX12_has 10 = .ok (.goto 4, 3) := by decide +kernel
theorem dX12_has_13 : decode cX12_has 13 = .ok (.iconst 0, 1) := by decide +kernel
theorem dX12_has_14 : decode cX12_has 14 = .ok (.ireturn, 1) := by decide +kernel
theorem dX12_octet_0 : decode cX12_octet 0 = .ok (.aload_n 0, 1) := by decide +kernel
theorem dX12_octet_1 : decode cX12_octet 1 = .ok (.getfield 14, 3) := by decide +kernel
theorem dX12_octet_4 : decode cX12_octet 4 = .ok (.iload_n 1, 1) := by decide +kernel
theorem dX12_octet_5 : decode cX12_octet 5 = .ok (.baload, 1) := by decide +kernel
theorem dX12_octet_6 : decode cX12_octet 6 = .ok (.sipush 255, 3) := by decide +kernel
theorem dX12_octet_9 : decode cX12_octet 9 = .ok (.iand, 1) := by decide +kernel
theorem dX12_octet_10 : decode cX12_octet 10 = .ok (.ireturn, 1) := by decide +kernel
theorem dX12_init_0 : decode cX12_init 0 = .ok (.aload_n 0, 1) := by decide +kernel
theorem dX12_init_1 : decode cX12_init 1 = .ok (.invokespecial 27, 3) := by decide +kernel
theorem dX12_init_4 : decode cX12_init 4 = .ok (.aload_n 0, 1) := by decide +kernel
theorem dX12_init_5 : decode cX12_init 5 = .ok (.sipush 940, 3) := by decide +kernel
theorem dX12_init_8 : decode cX12_init 8 = .ok (.newarray .byte, 2) := by decide +kernel
theorem dX12_init_10 : decode cX12_init 10 = .ok (.putfield 14, 3) := by decide +kernel
theorem dX12_init_13 : decode cX12_init 13 = .ok (.aload_n 0, 1) := by decide +kernel
theorem dX12_init_14 : decode cX12_init 14 = .ok (.sipush 1068, 3) := by decide +kernel
theorem dX12_init_17 : decode cX12_init 17 = .ok (.newarray .int, 2) := by decide +kernel
theorem dX12_init_19 : decode cX12_init 19 = .ok (.putfield 33, 3) := by decide +kernel
theorem dX12_init_22 : decode cX12_init 22 = .ok (.aload_n 0, 1) := by decide +kernel
theorem dX12_init_23 : decode cX12_init 23 = .ok (.sipush 483, 3) := by decide +kernel
theorem dX12_init_26 : decode cX12_init 26 = .ok (.newarray .int, 2) := by decide +kernel
theorem dX12_init_28 : decode cX12_init 28 = .ok (.putfield 37, 3) := by decide +kernel
theorem dX12_init_31 : decode cX12_init 31 = .ok (.aload_n 0, 1) := by decide +kernel
theorem dX12_init_32 : decode cX12_init 32 = .ok (.bipush 91, 2) := by decide +kernel
theorem dX12_init_34 : decode cX12_init 34 = .ok (.newarray .int, 2) := by decide +kernel
theorem dX12_init_36 : decode cX12_init 36 = .ok (.putfield 40, 3) := by decide +kernel
theorem dX12_init_39 : decode cX12_init 39 = .ok (.aload_n 0, 1) := by decide +kernel
theorem dX12_init_40 : decode cX12_init 40 = .ok (.bipush 32, 2) := by decide +kernel
theorem dX12_init_42 : decode cX12_init 42 = .ok (.newarray .long, 2) := by decide +kernel
theorem dX12_init_44 : decode cX12_init 44 = .ok (.putfield 43, 3) := by decide +kernel
theorem dX12_init_47 : decode cX12_init 47 = .ok (.aload_n 0, 1) := by decide +kernel
theorem dX12_init_48 : decode cX12_init 48 = .ok (.bipush 16, 2) := by decide +kernel
theorem dX12_init_50 : decode cX12_init 50 = .ok (.newarray .long, 2) := by decide +kernel
theorem dX12_init_52 : decode cX12_init 52 = .ok (.putfield 47, 3) := by decide +kernel
theorem dX12_init_55 : decode cX12_init 55 = .ok (.aload_n 0, 1) := by decide +kernel
theorem dX12_init_56 : decode cX12_init 56 = .ok (.bipush 20, 2) := by decide +kernel
theorem dX12_init_58 : decode cX12_init 58 = .ok (.newarray .int, 2) := by decide +kernel
theorem dX12_init_60 : decode cX12_init 60 = .ok (.putfield 50, 3) := by decide +kernel
theorem dX12_init_63 : decode cX12_init 63 = .ok (.aload_n 0, 1) := by decide +kernel
theorem dX12_init_64 : decode cX12_init 64 = .ok (.bipush 20, 2) := by decide +kernel
theorem dX12_init_66 : decode cX12_init 66 = .ok (.newarray .int, 2) := by decide +kernel
theorem dX12_init_68 : decode cX12_init 68 = .ok (.putfield 53, 3) := by decide +kernel
theorem dX12_init_71 : decode cX12_init 71 = .ok (.aload_n 0, 1) := by decide +kernel
theorem dX12_init_72 : decode cX12_init 72 = .ok (.bipush 20, 2) := by decide +kernel
theorem dX12_init_74 : decode cX12_init 74 = .ok (.newarray .int, 2) := by decide +kernel
theorem dX12_init_76 : decode cX12_init 76 = .ok (.putfield 56, 3) := by decide +kernel
theorem dX12_init_79 : decode cX12_init 79 = .ok (.aload_n 0, 1) := by decide +kernel
theorem dX12_init_80 : decode cX12_init 80 = .ok (.bipush 20, 2) := by decide +kernel
theorem dX12_init_82 : decode cX12_init 82 = .ok (.newarray .int, 2) := by decide +kernel
theorem dX12_init_84 : decode cX12_init 84 = .ok (.putfield 59, 3) := by decide +kernel
theorem dX12_init_87 : decode cX12_init 87 = .ok (.aload_n 0, 1) := by decide +kernel
theorem dX12_init_88 : decode cX12_init 88 = .ok (.bipush 20, 2) := by decide +kernel
theorem dX12_init_90 : decode cX12_init 90 = .ok (.newarray .int, 2) := by decide +kernel
theorem dX12_init_92 : decode cX12_init 92 = .ok (.putfield 62, 3) := by decide +kernel
theorem dX12_init_95 : decode cX12_init 95 = .ok (.aload_n 0, 1) := by decide +kernel
theorem dX12_init_96 : decode cX12_init 96 = .ok (.iconst 3, 1) := by decide +kernel
theorem dX12_init_97 : decode cX12_init 97 = .ok (.newarray .int, 2) := by decide +kernel
theorem dX12_init_99 : decode cX12_init 99 = .ok (.putfield 65, 3) := by decide +kernel
theorem dX12_init_102 : decode cX12_init 102 = .ok (.aload_n 0, 1) := by decide +kernel
theorem dX12_init_103 : decode cX12_init 103 = .ok (.iconst 4, 1) := by decide +kernel
theorem dX12_init_104 : decode cX12_init 104 = .ok (.newarray .int, 2) := by decide +kernel
theorem dX12_init_106 : decode cX12_init 106 = .ok (.putfield 68, 3) := by decide +kernel
theorem dX12_init_109 : decode cX12_init 109 = .ok (.aload_n 0, 1) := by decide +kernel
theorem dX12_init_110 : decode cX12_init 110 = .ok (.iconst 4, 1) := by decide +kernel
theorem dX12_init_111 : decode cX12_init 111 = .ok (.newarray .int, 2) := by decide +kernel
theorem dX12_init_113 : decode cX12_init 113 = .ok (.putfield 71, 3) := by decide +kernel
theorem dX12_init_116 : decode cX12_init 116 = .ok (.aload_n 0, 1) := by decide +kernel
theorem dX12_init_117 : decode cX12_init 117 = .ok (.bipush 8, 2) := by decide +kernel
theorem dX12_init_119 : decode cX12_init 119 = .ok (.newarray .int, 2) := by decide +kernel
theorem dX12_init_121 : decode cX12_init 121 = .ok (.putfield 74, 3) := by decide +kernel
theorem dX12_init_124 : decode cX12_init 124 = .ok (.aload_n 0, 1) := by decide +kernel
theorem dX12_init_125 : decode cX12_init 125 = .ok (.bipush 8, 2) := by decide +kernel
theorem dX12_init_127 : decode cX12_init 127 = .ok (.newarray .int, 2) := by decide +kernel
theorem dX12_init_129 : decode cX12_init 129 = .ok (.putfield 77, 3) := by decide +kernel
theorem dX12_init_132 : decode cX12_init 132 = .ok (.aload_n 0, 1) := by decide +kernel
theorem dX12_init_133 : decode cX12_init 133 = .ok (.bipush 8, 2) := by decide +kernel
theorem dX12_init_135 : decode cX12_init 135 = .ok (.newarray .int, 2) := by decide +kernel
theorem dX12_init_137 : decode cX12_init 137 = .ok (.putfield 80, 3) := by decide +kernel
theorem dX12_init_140 : decode cX12_init 140 = .ok (.aload_n 0, 1) := by decide +kernel
theorem dX12_init_141 : decode cX12_init 141 = .ok (.sipush 2304, 3) := by decide +kernel
theorem dX12_init_144 : decode cX12_init 144 = .ok (.newarray .int, 2) := by decide +kernel
theorem dX12_init_146 : decode cX12_init 146 = .ok (.putfield 83, 3) := by decide +kernel
theorem dX12_init_149 : decode cX12_init 149 = .ok (.aload_n 0, 1) := by decide +kernel
theorem dX12_init_150 : decode cX12_init 150 = .ok (.iconst (-1), 1) := by decide +kernel
theorem dX12_init_151 : decode cX12_init 151 = .ok (.putfield 86, 3) := by decide +kernel
theorem dX12_init_154 : decode cX12_init 154 = .ok (.aload_n 0, 1) := by decide +kernel
theorem dX12_init_155 : decode cX12_init 155 = .ok (.bipush 6, 2) := by decide +kernel
theorem dX12_init_157 : decode cX12_init 157 = .ok (.newarray .int, 2) := by decide +kernel
theorem dX12_init_159 : decode cX12_init 159 = .ok (.putfield 89, 3) := by decide +kernel
theorem dX12_init_162 : decode cX12_init 162 = .ok (.aload_n 0, 1) := by decide +kernel
theorem dX12_init_163 : decode cX12_init 163 = .ok (.sipush 1068, 3) := by decide +kernel
theorem dX12_init_166 : decode cX12_init 166 = .ok (.newarray .int, 2) := by decide +kernel
theorem dX12_init_168 : decode cX12_init 168 = .ok (.putfield 92, 3) := by decide +kernel
theorem dX12_init_171 : decode cX12_init 171 = .ok (.aload_n 0, 1) := by decide +kernel
theorem dX12_init_172 : decode cX12_init 172 = .ok (.sipush 2136, 3) := by decide +kernel
theorem dX12_init_175 : decode cX12_init 175 = .ok (.newarray .int, 2) := by decide +kernel
theorem dX12_init_177 : decode cX12_init 177 = .ok (.putfield 95, 3) := by decide +kernel
theorem dX12_init_180 : decode cX12_init 180 = .ok (.aload_n 0, 1) := by decide +kernel
theorem dX12_init_181 : decode cX12_init 181 = .ok (.bipush 32, 2) := by decide +kernel
theorem dX12_init_183 : decode cX12_init 183 = .ok (.newarray .long, 2) := by decide +kernel
theorem dX12_init_185 : decode cX12_init 185 = .ok (.putfield 98, 3) := by decide +kernel
theorem dX12_init_188 : decode cX12_init 188 = .ok (.aload_n 0, 1) := by decide +kernel
theorem dX12_init_189 : decode cX12_init 189 = .ok (.iconst 2, 1) := by decide +kernel
theorem dX12_init_190 : decode cX12_init 190 = .ok (.newarray .boolean, 2) := by decide +kernel
theorem dX12_init_192 : decode cX12_init 192 = .ok (.putfield 101, 3) := by decide +kernel
theorem dX12_init_195 : decode cX12_init 195 = .ok (.aload_n 0, 1) := by decide +kernel
theorem dX12_init_196 : decode cX12_init 196 = .ok (.getfield 47, 3) := by decide +kernel
theorem dX12_init_199 : decode cX12_init 199 = .ok (.iconst 0, 1) := by decide +kernel
theorem dX12_init_200 : decode cX12_init 200 = .ok (.ldc2_w 105, 3) := by decide +kernel
theorem dX12_init_203 : decode cX12_init 203 = .ok (.lastore, 1) := by decide +kernel
theorem dX12_init_204 : decode cX12_init 204 = .ok (.aload_n 0, 1) := by decide +kernel
theorem dX12_init_205 : decode cX12_init 205 = .ok (.getfield 47, 3) := by decide +kernel
theorem dX12_init_208 : decode cX12_init 208 = .ok (.iconst 1, 1) := by decide +kernel
theorem dX12_init_209 : decode cX12_init 209 = .ok (.ldc2_w 107, 3) := by decide +kernel
theorem dX12_init_212 : decode cX12_init 212 = .ok (.lastore, 1) := by decide +kernel
theorem dX12_init_213 : decode cX12_init 213 = .ok (.aload_n 0, 1) := by decide +kernel
theorem dX12_init_214 : decode cX12_init 214 = .ok (.getfield 47, 3) := by decide +kernel
theorem dX12_init_217 : decode cX12_init 217 = .ok (.iconst 2, 1) := by decide +kernel
theorem dX12_init_218 : decode cX12_init 218 = .ok (.ldc2_w 109, 3) := by decide +kernel
theorem dX12_init_221 : decode cX12_init 221 = .ok (.lastore, 1) := by decide +kernel
theorem dX12_init_222 : decode cX12_init 222 = .ok (.aload_n 0, 1) := by decide +kernel
theorem dX12_init_223 : decode cX12_init 223 = .ok (.getfield 47, 3) := by decide +kernel
theorem dX12_init_226 : decode cX12_init 226 = .ok (.iconst 3, 1) := by decide +kernel
theorem dX12_init_227 : decode cX12_init 227 = .ok (.ldc2_w 111, 3) := by decide +kernel
theorem dX12_init_230 : decode cX12_init 230 = .ok (.lastore, 1) := by decide +kernel
theorem dX12_init_231 : decode cX12_init 231 = .ok (.aload_n 0, 1) := by decide +kernel
theorem dX12_init_232 : decode cX12_init 232 = .ok (.getfield 47, 3) := by decide +kernel
theorem dX12_init_235 : decode cX12_init 235 = .ok (.iconst 4, 1) := by decide +kernel
theorem dX12_init_236 : decode cX12_init 236 = .ok (.ldc2_w 113, 3) := by decide +kernel
theorem dX12_init_239 : decode cX12_init 239 = .ok (.lastore, 1) := by decide +kernel
theorem dX12_init_240 : decode cX12_init 240 = .ok (.aload_n 0, 1) := by decide +kernel
theorem dX12_init_241 : decode cX12_init 241 = .ok (.getfield 47, 3) := by decide +kernel
theorem dX12_init_244 : decode cX12_init 244 = .ok (.iconst 5, 1) := by decide +kernel
theorem dX12_init_245 : decode cX12_init 245 = .ok (.ldc2_w 115, 3) := by decide +kernel
theorem dX12_init_248 : decode cX12_init 248 = .ok (.lastore, 1) := by decide +kernel
theorem dX12_init_249 : decode cX12_init 249 = .ok (.aload_n 0, 1) := by decide +kernel
theorem dX12_init_250 : decode cX12_init 250 = .ok (.getfield 47, 3) := by decide +kernel
theorem dX12_init_253 : decode cX12_init 253 = .ok (.bipush 6, 2) := by decide +kernel
theorem dX12_init_255 : decode cX12_init 255 = .ok (.ldc2_w 117, 3) := by decide +kernel
theorem dX12_init_258 : decode cX12_init 258 = .ok (.lastore, 1) := by decide +kernel
theorem dX12_init_259 : decode cX12_init 259 = .ok (.aload_n 0, 1) := by decide +kernel
theorem dX12_init_260 : decode cX12_init 260 = .ok (.getfield 47, 3) := by decide +kernel
theorem dX12_init_263 : decode cX12_init 263 = .ok (.bipush 7, 2) := by decide +kernel
theorem dX12_init_265 : decode cX12_init 265 = .ok (.ldc2_w 119, 3) := by decide +kernel
theorem dX12_init_268 : decode cX12_init 268 = .ok (.lastore, 1) := by decide +kernel
theorem dX12_init_269 : decode cX12_init 269 = .ok (.aload_n 0, 1) := by decide +kernel
theorem dX12_init_270 : decode cX12_init 270 = .ok (.getfield 47, 3) := by decide +kernel
theorem dX12_init_273 : decode cX12_init 273 = .ok (.bipush 8, 2) := by decide +kernel
theorem dX12_init_275 : decode cX12_init 275 = .ok (.ldc2_w 121, 3) := by decide +kernel
theorem dX12_init_278 : decode cX12_init 278 = .ok (.lastore, 1) := by decide +kernel
theorem dX12_init_279 : decode cX12_init 279 = .ok (.aload_n 0, 1) := by decide +kernel
theorem dX12_init_280 : decode cX12_init 280 = .ok (.getfield 47, 3) := by decide +kernel
theorem dX12_init_283 : decode cX12_init 283 = .ok (.bipush 9, 2) := by decide +kernel
theorem dX12_init_285 : decode cX12_init 285 = .ok (.ldc2_w 123, 3) := by decide +kernel
theorem dX12_init_288 : decode cX12_init 288 = .ok (.lastore, 1) := by decide +kernel
theorem dX12_init_289 : decode cX12_init 289 = .ok (.aload_n 0, 1) := by decide +kernel
theorem dX12_init_290 : decode cX12_init 290 = .ok (.getfield 47, 3) := by decide +kernel
theorem dX12_init_293 : decode cX12_init 293 = .ok (.bipush 10, 2) := by decide +kernel
theorem dX12_init_295 : decode cX12_init 295 = .ok (.ldc2_w 125, 3) := by decide +kernel
theorem dX12_init_298 : decode cX12_init 298 = .ok (.lastore, 1) := by decide +kernel
theorem dX12_init_299 : decode cX12_init 299 = .ok (.aload_n 0, 1) := by decide +kernel
theorem dX12_init_300 : decode cX12_init 300 = .ok (.getfield 47, 3) := by decide +kernel
theorem dX12_init_303 : decode cX12_init 303 = .ok (.bipush 11, 2) := by decide +kernel
theorem dX12_init_305 : decode cX12_init 305 = .ok (.ldc2_w 127, 3) := by decide +kernel
theorem dX12_init_308 : decode cX12_init 308 = .ok (.lastore, 1) := by decide +kernel
theorem dX12_init_309 : decode cX12_init 309 = .ok (.aload_n 0, 1) := by decide +kernel
theorem dX12_init_310 : decode cX12_init 310 = .ok (.getfield 47, 3) := by decide +kernel
theorem dX12_init_313 : decode cX12_init 313 = .ok (.bipush 12, 2) := by decide +kernel
theorem dX12_init_315 : decode cX12_init 315 = .ok (.ldc2_w 129, 3) := by decide +kernel
theorem dX12_init_318 : decode cX12_init 318 = .ok (.lastore, 1) := by decide +kernel
theorem dX12_init_319 : decode cX12_init 319 = .ok (.aload_n 0, 1) := by decide +kernel
theorem dX12_init_320 : decode cX12_init 320 = .ok (.getfield 47, 3) := by decide +kernel
theorem dX12_init_323 : decode cX12_init 323 = .ok (.bipush 13, 2) := by decide +kernel
theorem dX12_init_325 : decode cX12_init 325 = .ok (.ldc2_w 131, 3) := by decide +kernel
theorem dX12_init_328 : decode cX12_init 328 = .ok (.lastore, 1) := by decide +kernel
theorem dX12_init_329 : decode cX12_init 329 = .ok (.aload_n 0, 1) := by decide +kernel
theorem dX12_init_330 : decode cX12_init 330 = .ok (.getfield 47, 3) := by decide +kernel
theorem dX12_init_333 : decode cX12_init 333 = .ok (.bipush 14, 2) := by decide +kernel
theorem dX12_init_335 : decode cX12_init 335 = .ok (.ldc2_w 133, 3) := by decide +kernel
theorem dX12_init_338 : decode cX12_init 338 = .ok (.lastore, 1) := by decide +kernel
theorem dX12_init_339 : decode cX12_init 339 = .ok (.aload_n 0, 1) := by decide +kernel
theorem dX12_init_340 : decode cX12_init 340 = .ok (.getfield 47, 3) := by decide +kernel
theorem dX12_init_343 : decode cX12_init 343 = .ok (.bipush 15, 2) := by decide +kernel
theorem dX12_init_345 : decode cX12_init 345 = .ok (.ldc2_w 135, 3) := by decide +kernel
theorem dX12_init_348 : decode cX12_init 348 = .ok (.lastore, 1) := by decide +kernel
theorem dX12_init_349 : decode cX12_init 349 = .ok (.aload_n 0, 1) := by decide +kernel
theorem dX12_init_350 : decode cX12_init 350 = .ok (.invokevirtual 137, 3) := by decide +kernel
theorem dX12_init_353 : decode cX12_init 353 = .ok (.iconst 0, 1) := by decide +kernel
theorem dX12_init_354 : decode cX12_init 354 = .ok (.istore_n 1, 1) := by decide +kernel
theorem dX12_init_355 : decode cX12_init 355 = .ok (.iload_n 1, 1) := by decide +kernel
theorem dX12_init_356 : decode cX12_init 356 = .ok (.sipush 483, 3) := by decide +kernel
theorem dX12_init_359 : decode cX12_init 359 = .ok (.if_icmp .ge 21, 3) := by decide +kernel
theorem dX12_init_362 : decode cX12_init 362 = .ok (.aload_n 0, 1) := by decide +kernel
theorem dX12_init_363 : decode cX12_init 363 = .ok (.getfield 33, 3) := by decide +kernel
theorem dX12_init_366 : decode cX12_init 366 = .ok (.iload_n 1, 1) := by decide +kernel
theorem dX12_init_367 : decode cX12_init 367 = .ok (.aload_n 0, 1) := by decide +kernel
theorem dX12_init_368 : decode cX12_init 368 = .ok (.getfield 37, 3) := by decide +kernel
theorem dX12_init_371 : decode cX12_init 371 = .ok (.iload_n 1, 1) := by decide +kernel
theorem dX12_init_372 : decode cX12_init 372 = .ok (.iaload, 1) := by decide +kernel
theorem dX12_init_373 : decode cX12_init 373 = .ok (.iastore, 1) := by decide +kernel
theorem dX12_init_374 : decode cX12_init 374 = .ok (.iinc 1 1, 3) := by decide +kernel
theorem dX12_init_377 : decode cX12_init 377 = .ok (.goto (-22), 3) := by decide +kernel
theorem dX12_init_380 : decode cX12_init 380 = .ok (.return_, 1) := by decide +kernel
theorem dX12_plainLine_0 : decode cX12_plainLine 0 = .ok (.iconst 0, 1) := by decide +kernel
theorem dX12_plainLine_1 : decode cX12_plainLine 1 = .ok (.istore_n 1, 1) := by decide +kernel
theorem dX12_plainLine_2 : decode cX12_plainLine 2 = .ok (.iload_n 1, 1) := by decide +kernel
theorem dX12_plainLine_3 : decode cX12_plainLine 3 = .ok (.sipush 483, 3) := by decide +kernel
theorem dX12_plainLine_6 : decode cX12_plainLine 6 = .ok (.if_icmp .ge 16, 3) := by decide +kernel
theorem dX12_plainLine_9 : decode cX12_plainLine 9 = .ok (.aload_n 0, 1) := by decide +kernel
theorem dX12_plainLine_10 : decode cX12_plainLine 10 = .ok (.getfield 37, 3) := by decide +kernel
theorem dX12_plainLine_13 : decode cX12_plainLine 13 = .ok (.iload_n 1, 1) := by decide +kernel
theorem dX12_plainLine_14 : decode cX12_plainLine 14 = .ok (.iconst 0, 1) := by decide +kernel
theorem dX12_plainLine_15 : decode cX12_plainLine 15 = .ok (.iastore, 1) := by decide +kernel
theorem dX12_plainLine_16 : decode cX12_plainLine 16 = .ok (.iinc 1 1, 3) := by decide +kernel
theorem dX12_plainLine_19 : decode cX12_plainLine 19 = .ok (.goto (-17), 3) := by decide +kernel
theorem dX12_plainLine_22 : decode cX12_plainLine 22 = .ok (.aload_n 0, 1) := by decide +kernel
theorem dX12_plainLine_23 : decode cX12_plainLine 23 = .ok (.getfield 37, 3) := by decide +kernel
theorem dX12_plainLine_26 : decode cX12_plainLine 26 = .ok (.iconst 4, 1) := by decide +kernel
theorem dX12_plainLine_27 : decode cX12_plainLine 27 = .ok (.bipush 100, 2) := by decide +kernel
theorem dX12_plainLine_29 : decode cX12_plainLine 29 = .ok (.iastore, 1) := by decide +kernel
theorem dX12_plainLine_30 : decode cX12_plainLine 30 = .ok (.aload_n 0, 1) := by decide +kernel
theorem dX12_plainLine_31 : decode cX12_plainLine 31 = .ok (.getfield 37, 3) := by decide +kernel
theorem dX12_plainLine_34 : decode cX12_plainLine 34 = .ok (.iconst 5, 1) := by decide +kernel
theorem dX12_plainLine_35 : decode cX12_plainLine 35 = .ok (.bipush 10, 2) := by decide +kernel
theorem dX12_plainLine_37 : decode cX12_plainLine 37 = .ok (.iastore, 1) := by decide +kernel
theorem dX12_plainLine_38 : decode cX12_plainLine 38 = .ok (.aload_n 0, 1) := by decide +kernel
theorem dX12_plainLine_39 : decode cX12_plainLine 39 = .ok (.getfield 37, 3) := by decide +kernel
theorem dX12_plainLine_42 : decode cX12_plainLine 42 = .ok (.bipush 6, 2) := by decide +kernel
theorem dX12_plainLine_44 : decode cX12_plainLine 44 = .ok (.iconst 1, 1) := by decide +kernel
theorem dX12_plainLine_45 : decode cX12_plainLine 45 = .ok (.iastore, 1) := by decide +kernel
theorem dX12_plainLine_46 : decode cX12_plainLine 46 = .ok (.aload_n 0, 1) := by decide +kernel
theorem dX12_plainLine_47 : decode cX12_plainLine 47 = .ok (.getfield 37, 3) := by decide +kernel
theorem dX12_plainLine_50 : decode cX12_plainLine 50 = .ok (.bipush 7, 2) := by decide +kernel
theorem dX12_plainLine_52 : decode cX12_plainLine 52 = .ok (.bipush 10, 2) := by decide +kernel
theorem dX12_plainLine_54 : decode cX12_plainLine 54 = .ok (.iastore, 1) := by decide +kernel
theorem dX12_plainLine_55 : decode cX12_plainLine 55 = .ok (.aload_n 0, 1) := by decide +kernel
theorem dX12_plainLine_56 : decode cX12_plainLine 56 = .ok (.getfield 37, 3) := by decide +kernel
theorem dX12_plainLine_59 : decode cX12_plainLine 59 = .ok (.bipush 8, 2) := by decide +kernel
theorem dX12_plainLine_61 : decode cX12_plainLine 61 = .ok (.bipush 10, 2) := by decide +kernel
theorem dX12_plainLine_63 : decode cX12_plainLine 63 = .ok (.iastore, 1) := by decide +kernel
theorem dX12_plainLine_64 : decode cX12_plainLine 64 = .ok (.aload_n 0, 1) := by decide +kernel
theorem dX12_plainLine_65 : decode cX12_plainLine 65 = .ok (.getfield 37, 3) := by decide +kernel
theorem dX12_plainLine_68 : decode cX12_plainLine 68 = .ok (.bipush 9, 2) := by decide +kernel
theorem dX12_plainLine_70 : decode cX12_plainLine 70 = .ok (.iconst 2, 1) := by decide +kernel
theorem dX12_plainLine_71 : decode cX12_plainLine 71 = .ok (.iastore, 1) := by decide +kernel
theorem dX12_plainLine_72 : decode cX12_plainLine 72 = .ok (.return_, 1) := by decide +kernel
theorem dX12_peek_0 : decode cX12_peek 0 = .ok (.aload_n 0, 1) := by decide +kernel
theorem dX12_peek_1 : decode cX12_peek 1 = .ok (.getfield 21, 3) := by decide +kernel
theorem dX12_peek_4 : decode cX12_peek 4 = .ok (.aload_n 0, 1) := by decide +kernel
theorem dX12_peek_5 : decode cX12_peek 5 = .ok (.getfield 18, 3) := by decide +kernel
theorem dX12_peek_8 : decode cX12_peek 8 = .ok (.if_icmp .ge 19, 3) := by decide +kernel
theorem dX12_peek_11 : decode cX12_peek 11 = .ok (.aload_n 0, 1) := by decide +kernel
theorem dX12_peek_12 : decode cX12_peek 12 = .ok (.getfield 14, 3) := by decide +kernel
theorem dX12_peek_15 : decode cX12_peek 15 = .ok (.aload_n 0, 1) := by decide +kernel
theorem dX12_peek_16 : decode cX12_peek 16 = .ok (.getfield 21, 3) := by decide +kernel
theorem dX12_peek_19 : decode cX12_peek 19 = .ok (.baload, 1) := by decide +kernel
theorem dX12_peek_20 : decode cX12_peek 20 = .ok (.sipush 255, 3) := by decide +kernel
theorem dX12_peek_23 : decode cX12_peek 23 = .ok (.iand, 1) := by decide +kernel
theorem dX12_peek_24 : decode cX12_peek 24 = .ok (.goto 4, 3) := by decide +kernel
theorem dX12_peek_27 : decode cX12_peek 27 = .ok (.iconst (-1), 1) := by decide +kernel
theorem dX12_peek_28 : decode cX12_peek 28 = .ok (.ireturn, 1) := by decide +kernel
theorem dX12_isSmall_0 : decode cX12_isSmall 0 = .ok (.iload_n 0, 1) := by decide +kernel
theorem dX12_isSmall_1 : decode cX12_isSmall 1 = .ok (.bipush 97, 2) := by decide +kernel
theorem dX12_isSmall_3 : decode cX12_isSmall 3 = .ok (.if_icmp .lt 13, 3) := by decide +kernel
theorem dX12_isSmall_6 : decode cX12_isSmall 6 = .ok (.iload_n 0, 1) := by decide +kernel
theorem dX12_isSmall_7 : decode cX12_isSmall 7 = .ok (.bipush 122, 2) := by decide +kernel
theorem dX12_isSmall_9 : decode cX12_isSmall 9 = .ok (.if_icmp .gt 7, 3) := by decide +kernel
theorem dX12_isSmall_12 : decode cX12_isSmall 12 = .ok (.iconst 1, 1) := by decide +kernel
theorem dX12_isSmall_13 : decode cX12_isSmall 13 = .ok (.goto 4, 3) := by decide +kernel
theorem dX12_isSmall_16 : decode cX12_isSmall 16 = .ok (.iconst 0, 1) := by decide +kernel
theorem dX12_isSmall_17 : decode cX12_isSmall 17 = .ok (.ireturn, 1) := by decide +kernel
theorem dX12_isDigit_0 : decode cX12_isDigit 0 = .ok (.iload_n 0, 1) := by decide +kernel
theorem dX12_isDigit_1 : decode cX12_isDigit 1 = .ok (.bipush 48, 2) := by decide +kernel
theorem dX12_isDigit_3 : decode cX12_isDigit 3 = .ok (.if_icmp .lt 13, 3) := by decide +kernel
theorem dX12_isDigit_6 : decode cX12_isDigit 6 = .ok (.iload_n 0, 1) := by decide +kernel
theorem dX12_isDigit_7 : decode cX12_isDigit 7 = .ok (.bipush 57, 2) := by decide +kernel
theorem dX12_isDigit_9 : decode cX12_isDigit 9 = .ok (.if_icmp .gt 7, 3) := by decide +kernel
theorem dX12_isDigit_12 : decode cX12_isDigit 12 = .ok (.iconst 1, 1) := by decide +kernel
theorem dX12_isDigit_13 : decode cX12_isDigit 13 = .ok (.goto 4, 3) := by decide +kernel
theorem dX12_isDigit_16 : decode cX12_isDigit 16 = .ok (.iconst 0, 1) := by decide +kernel
theorem dX12_isDigit_17 : decode cX12_isDigit 17 = .ok (.ireturn, 1) := by decide +kernel
theorem dX12_next_0 : decode cX12_next 0 = .ok (.aload_n 0, 1) := by decide +kernel
theorem dX12_next_1 : decode cX12_next 1 = .ok (.invokevirtual 140, 3) := by decide +kernel
theorem dX12_next_4 : decode cX12_next 4 = .ok (.bipush 32, 2) := by decide +kernel
theorem dX12_next_6 : decode cX12_next 6 = .ok (.if_icmp .eq 12, 3) := by decide +kernel
theorem dX12_next_9 : decode cX12_next 9 = .ok (.aload_n 0, 1) := by decide +kernel
theorem dX12_next_10 : decode cX12_next 10 = .ok (.invokevirtual 140, 3) := by decide +kernel
theorem dX12_next_13 : decode cX12_next 13 = .ok (.bipush 10, 2) := by decide +kernel
theorem dX12_next_15 : decode cX12_next 15 = .ok (.if_icmp .ne 16, 3) := by decide +kernel
theorem dX12_next_18 : decode cX12_next 18 = .ok (.aload_n 0, 1) := by decide +kernel
theorem dX12_next_19 : decode cX12_next 19 = .ok (.dup, 1) := by decide +kernel
theorem dX12_next_20 : decode cX12_next 20 = .ok (.getfield 21, 3) := by decide +kernel
theorem dX12_next_23 : decode cX12_next 23 = .ok (.iconst 1, 1) := by decide +kernel
theorem dX12_next_24 : decode cX12_next 24 = .ok (.iadd, 1) := by decide +kernel
theorem dX12_next_25 : decode cX12_next 25 = .ok (.putfield 21, 3) := by decide +kernel
theorem dX12_next_28 : decode cX12_next 28 = .ok (.goto (-28), 3) := by decide +kernel
theorem dX12_next_31 : decode cX12_next 31 = .ok (.aload_n 0, 1) := by decide +kernel
theorem dX12_next_32 : decode cX12_next 32 = .ok (.aload_n 0, 1) := by decide +kernel
theorem dX12_next_33 : decode cX12_next 33 = .ok (.getfield 21, 3) := by decide +kernel
theorem dX12_next_36 : decode cX12_next 36 = .ok (.putfield 144, 3) := by decide +kernel
theorem dX12_next_39 : decode cX12_next 39 = .ok (.aload_n 0, 1) := by decide +kernel
theorem dX12_next_40 : decode cX12_next 40 = .ok (.iconst 0, 1) := by decide +kernel
theorem dX12_next_41 : decode cX12_next 41 = .ok (.putfield 147, 3) := by decide +kernel
theorem dX12_next_44 : decode cX12_next 44 = .ok (.aload_n 0, 1) := by decide +kernel
theorem dX12_next_45 : decode cX12_next 45 = .ok (.getfield 18, 3) := by decide +kernel
theorem dX12_next_48 : decode cX12_next 48 = .ok (.aload_n 0, 1) := by decide +kernel
theorem dX12_next_49 : decode cX12_next 49 = .ok (.getfield 24, 3) := by decide +kernel
theorem dX12_next_52 : decode cX12_next 52 = .ok (.if_icmp .le 28, 3) := by decide +kernel
theorem dX12_next_55 : decode cX12_next 55 = .ok (.aload_n 0, 1) := by decide +kernel
theorem dX12_next_56 : decode cX12_next 56 = .ok (.getfield 21, 3) := by decide +kernel
theorem dX12_next_59 : decode cX12_next 59 = .ok (.aload_n 0, 1) := by decide +kernel
theorem dX12_next_60 : decode cX12_next 60 = .ok (.getfield 24, 3) := by decide +kernel
theorem dX12_next_63 : decode cX12_next 63 = .ok (.if_icmp .lt 17, 3) := by decide +kernel
theorem dX12_next_66 : decode cX12_next 66 = .ok (.aload_n 0, 1) := by decide +kernel
theorem dX12_next_67 : decode cX12_next 67 = .ok (.aload_n 0, 1) := by decide +kernel
theorem dX12_next_68 : decode cX12_next 68 = .ok (.getfield 24, 3) := by decide +kernel
theorem dX12_next_71 : decode cX12_next 71 = .ok (.putfield 144, 3) := by decide +kernel
theorem dX12_next_74 : decode cX12_next 74 = .ok (.aload_n 0, 1) := by decide +kernel
theorem dX12_next_75 : decode cX12_next 75 = .ok (.iconst 4, 1) := by decide +kernel
theorem dX12_next_76 : decode cX12_next 76 = .ok (.putfield 150, 3) := by decide +kernel
theorem dX12_next_79 : decode cX12_next 79 = .ok (.return_, 1) := by decide +kernel
theorem dX12_next_80 : decode cX12_next 80 = .ok (.aload_n 0, 1) := by decide +kernel
theorem dX12_next_81 : decode cX12_next 81 = .ok (.invokevirtual 140, 3) := by decide +kernel
theorem dX12_next_84 : decode cX12_next 84 = .ok (.istore_n 1, 1) := by decide +kernel
theorem dX12_next_85 : decode cX12_next 85 = .ok (.iload_n 1, 1) := by decide +kernel
theorem dX12_next_86 : decode cX12_next 86 = .ok (.ifCond .ge 9, 3) := by decide +kernel
theorem dX12_next_89 : decode cX12_next 89 = .ok (.aload_n 0, 1) := by decide +kernel
theorem dX12_next_90 : decode cX12_next 90 = .ok (.iconst 0, 1) := by decide +kernel
theorem dX12_next_91 : decode cX12_next 91 = .ok (.putfield 150, 3) := by decide +kernel
theorem dX12_next_94 : decode cX12_next 94 = .ok (.return_, 1) := by decide +kernel
theorem dX12_next_95 : decode cX12_next 95 = .ok (.iload_n 1, 1) := by decide +kernel
theorem dX12_next_96 : decode cX12_next 96 = .ok (.invokestatic 153, 3) := by decide +kernel
theorem dX12_next_99 : decode cX12_next 99 = .ok (.ifCond .ne 47, 3) := by decide +kernel
theorem dX12_next_102 : decode cX12_next 102 = .ok (.iload_n 1, 1) := by decide +kernel
theorem dX12_next_103 : decode cX12_next 103 = .ok (.invokestatic 157, 3) := by decide +kernel
theorem dX12_next_106 : decode cX12_next 106 = .ok (.ifCond .ne 40, 3) := by decide +kernel
theorem dX12_next_109 : decode cX12_next 109 = .ok (.aload_n 0, 1) := by decide +kernel
theorem dX12_next_110 : decode cX12_next 110 = .ok (.iload_n 1, 1) := by decide +kernel
theorem dX12_next_111 : decode cX12_next 111 = .ok (.bipush 59, 2) := by decide +kernel
theorem dX12_next_113 : decode cX12_next 113 = .ok (.if_icmp .eq 9, 3) := by decide +kernel
theorem dX12_next_116 : decode cX12_next 116 = .ok (.iload_n 1, 1) := by decide +kernel
theorem dX12_next_117 : decode cX12_next 117 = .ok (.bipush 45, 2) := by decide +kernel
theorem dX12_next_119 : decode cX12_next 119 = .ok (.if_icmp .ne 7, 3) := by decide +kernel
theorem dX12_next_122 : decode cX12_next 122 = .ok (.iconst 3, 1) := by decide +kernel
theorem dX12_next_123 : decode cX12_next 123 = .ok (.goto 4, 3) := by decide +kernel
theorem dX12_next_126 : decode cX12_next 126 = .ok (.iconst 4, 1) := by decide +kernel
theorem dX12_next_127 : decode cX12_next 127 = .ok (.putfield 150, 3) := by decide +kernel
theorem dX12_next_130 : decode cX12_next 130 = .ok (.aload_n 0, 1) := by decide +kernel
theorem dX12_next_131 : decode cX12_next 131 = .ok (.iload_n 1, 1) := by decide +kernel
theorem dX12_next_132 : decode cX12_next 132 = .ok (.putfield 160, 3) := by decide +kernel
theorem dX12_next_135 : decode cX12_next 135 = .ok (.aload_n 0, 1) := by decide +kernel
theorem dX12_next_136 : decode cX12_next 136 = .ok (.dup, 1) := by decide +kernel
theorem dX12_next_137 : decode cX12_next 137 = .ok (.getfield 21, 3) := by decide +kernel
theorem dX12_next_140 : decode cX12_next 140 = .ok (.iconst 1, 1) := by decide +kernel
theorem dX12_next_141 : decode cX12_next 141 = .ok (.iadd, 1) := by decide +kernel
theorem dX12_next_142 : decode cX12_next 142 = .ok (.putfield 21, 3) := by decide +kernel
theorem dX12_next_145 : decode cX12_next 145 = .ok (.return_, 1) := by decide +kernel
theorem dX12_next_146 : decode cX12_next 146 = .ok (.iload_n 1, 1) := by decide +kernel
theorem dX12_next_147 : decode cX12_next 147 = .ok (.invokestatic 153, 3) := by decide +kernel
theorem dX12_next_150 : decode cX12_next 150 = .ok (.istore_n 2, 1) := by decide +kernel
theorem dX12_next_151 : decode cX12_next 151 = .ok (.iconst 1, 1) := by decide +kernel
theorem dX12_next_152 : decode cX12_next 152 = .ok (.istore_n 3, 1) := by decide +kernel
theorem dX12_next_153 : decode cX12_next 153 = .ok (.aload_n 0, 1) := by decide +kernel
theorem dX12_next_154 : decode cX12_next 154 = .ok (.lconst 0, 1) := by decide +kernel
theorem dX12_next_155 : decode cX12_next 155 = .ok (.putfield 163, 3) := by decide +kernel
theorem dX12_next_158 : decode cX12_next 158 = .ok (.aload_n 0, 1) := by decide +kernel
theorem dX12_next_159 : decode cX12_next 159 = .ok (.iconst 0, 1) := by decide +kernel
theorem dX12_next_160 : decode cX12_next 160 = .ok (.putfield 160, 3) := by decide +kernel
theorem dX12_next_163 : decode cX12_next 163 = .ok (.aload_n 0, 1) := by decide +kernel
theorem dX12_next_164 : decode cX12_next 164 = .ok (.invokevirtual 140, 3) := by decide +kernel
theorem dX12_next_167 : decode cX12_next 167 = .ok (.invokestatic 153, 3) := by decide +kernel
theorem dX12_next_170 : decode cX12_next 170 = .ok (.ifCond .ne 13, 3) := by decide +kernel
theorem dX12_next_173 : decode cX12_next 173 = .ok (.aload_n 0, 1) := by decide +kernel
theorem dX12_next_174 : decode cX12_next 174 = .ok (.invokevirtual 140, 3) := by decide +kernel
theorem dX12_next_177 : decode cX12_next 177 = .ok (.invokestatic 157, 3) := by decide +kernel
theorem dX12_next_180 : decode cX12_next 180 = .ok (.ifCond .eq 100, 3) := by decide +kernel
theorem dX12_next_183 : decode cX12_next 183 = .ok (.iload_n 3, 1) := by decide +kernel
theorem dX12_next_184 : decode cX12_next 184 = .ok (.ifCond .eq 18, 3) := by decide +kernel
theorem dX12_next_187 : decode cX12_next 187 = .ok (.aload_n 0, 1) := by decide +kernel
theorem dX12_next_188 : decode cX12_next 188 = .ok (.invokevirtual 140, 3) := by decide +kernel
theorem dX12_next_191 : decode cX12_next 191 = .ok (.invokestatic 153, 3) := by decide +kernel
theorem dX12_next_194 : decode cX12_next 194 = .ok (.iload_n 2, 1) := by decide +kernel
theorem dX12_next_195 : decode cX12_next 195 = .ok (.if_icmp .ne 7, 3) := by decide +kernel
theorem dX12_next_198 : decode cX12_next 198 = .ok (.iconst 1, 1) := by decide +kernel
theorem dX12_next_199 : decode cX12_next 199 = .ok (.goto 4, 3) := by decide +kernel
theorem dX12_next_202 : decode cX12_next 202 = .ok (.iconst 0, 1) := by decide +kernel
theorem dX12_next_203 : decode cX12_next 203 = .ok (.istore_n 3, 1) := by decide +kernel
theorem dX12_next_204 : decode cX12_next 204 = .ok (.aload_n 0, 1) := by decide +kernel
theorem dX12_next_205 : decode cX12_next 205 = .ok (.getfield 147, 3) := by decide +kernel
theorem dX12_next_208 : decode cX12_next 208 = .ok (.bipush 7, 2) := by decide +kernel
theorem dX12_next_210 : decode cX12_next 210 = .ok (.if_icmp .ge 20, 3) := by decide +kernel
theorem dX12_next_213 : decode cX12_next 213 = .ok (.aload_n 0, 1) := by decide +kernel
theorem dX12_next_214 : decode cX12_next 214 = .ok (.aload_n 0, 1) := by decide +kernel
theorem dX12_next_215 : decode cX12_next 215 = .ok (.getfield 163, 3) := by decide +kernel
theorem dX12_next_218 : decode cX12_next 218 = .ok (.bipush 8, 2) := by decide +kernel
theorem dX12_next_220 : decode cX12_next 220 = .ok (.lshl, 1) := by decide +kernel
theorem dX12_next_221 : decode cX12_next 221 = .ok (.aload_n 0, 1) := by decide +kernel
theorem dX12_next_222 : decode cX12_next 222 = .ok (.invokevirtual 140, 3) := by decide +kernel
theorem dX12_next_225 : decode cX12_next 225 = .ok (.i2l, 1) := by decide +kernel
theorem dX12_next_226 : decode cX12_next 226 = .ok (.lor, 1) := by decide +kernel
theorem dX12_next_227 : decode cX12_next 227 = .ok (.putfield 163, 3) := by decide +kernel
theorem dX12_next_230 : decode cX12_next 230 = .ok (.aload_n 0, 1) := by decide +kernel
theorem dX12_next_231 : decode cX12_next 231 = .ok (.getfield 147, 3) := by decide +kernel
theorem dX12_next_234 : decode cX12_next 234 = .ok (.iconst 3, 1) := by decide +kernel
theorem dX12_next_235 : decode cX12_next 235 = .ok (.if_icmp .ge 22, 3) := by decide +kernel
theorem dX12_next_238 : decode cX12_next 238 = .ok (.aload_n 0, 1) := by decide +kernel
theorem dX12_next_239 : decode cX12_next 239 = .ok (.bipush 10, 2) := by decide +kernel
theorem dX12_next_241 : decode cX12_next 241 = .ok (.aload_n 0, 1) := by decide +kernel
theorem dX12_next_242 : decode cX12_next 242 = .ok (.getfield 160, 3) := by decide +kernel
theorem dX12_next_245 : decode cX12_next 245 = .ok (.imul, 1) := by decide +kernel
theorem dX12_next_246 : decode cX12_next 246 = .ok (.aload_n 0, 1) := by decide +kernel
theorem dX12_next_247 : decode cX12_next 247 = .ok (.invokevirtual 140, 3) := by decide +kernel
theorem dX12_next_250 : decode cX12_next 250 = .ok (.iadd, 1) := by decide +kernel
theorem dX12_next_251 : decode cX12_next 251 = .ok (.bipush 48, 2) := by decide +kernel
theorem dX12_next_253 : decode cX12_next 253 = .ok (.isub, 1) := by decide +kernel
theorem dX12_next_254 : decode cX12_next 254 = .ok (.putfield 160, 3) := by decide +kernel
theorem dX12_next_257 : decode cX12_next 257 = .ok (.aload_n 0, 1) := by decide +kernel
theorem dX12_next_258 : decode cX12_next 258 = .ok (.dup, 1) := by decide +kernel
theorem dX12_next_259 : decode cX12_next 259 = .ok (.getfield 147, 3) := by decide +kernel
theorem dX12_next_262 : decode cX12_next 262 = .ok (.iconst 1, 1) := by decide +kernel
theorem dX12_next_263 : decode cX12_next 263 = .ok (.iadd, 1) := by decide +kernel
theorem dX12_next_264 : decode cX12_next 264 = .ok (.putfield 147, 3) := by decide +kernel
theorem dX12_next_267 : decode cX12_next 267 = .ok (.aload_n 0, 1) := by decide +kernel
theorem dX12_next_268 : decode cX12_next 268 = .ok (.dup, 1) := by decide +kernel
theorem dX12_next_269 : decode cX12_next 269 = .ok (.getfield 21, 3) := by decide +kernel
theorem dX12_next_272 : decode cX12_next 272 = .ok (.iconst 1, 1) := by decide +kernel
theorem dX12_next_273 : decode cX12_next 273 = .ok (.iadd, 1) := by decide +kernel
theorem dX12_next_274 : decode cX12_next 274 = .ok (.putfield 21, 3) := by decide +kernel
theorem dX12_next_277 : decode cX12_next 277 = .ok (.goto (-114), 3) := by decide +kernel
theorem dX12_next_280 : decode cX12_next 280 = .ok (.aload_n 0, 1) := by decide +kernel
theorem dX12_next_281 : decode cX12_next 281 = .ok (.iload_n 3, 1) := by decide +kernel
theorem dX12_next_282 : decode cX12_next 282 = .ok (.ifCond .eq 20, 3) := by decide +kernel
theorem dX12_next_285 : decode cX12_next 285 = .ok (.aload_n 0, 1) := by decide +kernel
theorem dX12_next_286 : decode cX12_next 286 = .ok (.getfield 147, 3) := by decide +kernel
theorem dX12_next_289 : decode cX12_next 289 = .ok (.iload_n 2, 1) := by decide +kernel
theorem dX12_next_290 : decode cX12_next 290 = .ok (.ifCond .eq 8, 3) := by decide +kernel
theorem dX12_next_293 : decode cX12_next 293 = .ok (.bipush 7, 2) := by decide +kernel
theorem dX12_next_295 : decode cX12_next 295 = .ok (.goto 4, 3) := by decide +kernel
theorem dX12_next_298 : decode cX12_next 298 = .ok (.iconst 3, 1) := by decide +kernel
theorem dX12_next_299 : decode cX12_next 299 = .ok (.if_icmp .le 7, 3) := by decide +kernel
theorem dX12_next_302 : decode cX12_next 302 = .ok (.iconst 4, 1) := by decide +kernel
theorem dX12_next_303 : decode cX12_next 303 = .ok (.goto 12, 3) := by decide +kernel
theorem dX12_next_306 : decode cX12_next 306 = .ok (.iload_n 2, 1) := by decide +kernel
theorem dX12_next_307 : decode cX12_next 307 = .ok (.ifCond .eq 7, 3) := by decide +kernel
theorem dX12_next_310 : decode cX12_next 310 = .ok (.iconst 1, 1) := by decide +kernel
theorem dX12_next_311 : decode cX12_next 311 = .ok (.goto 4, 3) := by decide +kernel
theorem dX12_next_314 : decode cX12_next 314 = .ok (.iconst 2, 1) := by decide +kernel
theorem dX12_next_315 : decode cX12_next 315 = .ok (.putfield 150, 3) := by decide +kernel
theorem dX12_next_318 : decode cX12_next 318 = .ok (.return_, 1) := by decide +kernel
theorem dX12_bad_0 : decode cX12_bad 0 = .ok (.aload_n 0, 1) := by decide +kernel
theorem dX12_bad_1 : decode cX12_bad 1 = .ok (.iload_n 1, 1) := by decide +kernel
theorem dX12_bad_2 : decode cX12_bad 2 = .ok (.putfield 167, 3) := by decide +kernel
theorem dX12_bad_5 : decode cX12_bad 5 = .ok (.aload_n 0, 1) := by decide +kernel
theorem dX12_bad_6 : decode cX12_bad 6 = .ok (.aload_n 0, 1) := by decide +kernel
theorem dX12_bad_7 : decode cX12_bad 7 = .ok (.getfield 144, 3) := by decide +kernel
theorem dX12_bad_10 : decode cX12_bad 10 = .ok (.putfield 170, 3) := by decide +kernel
theorem dX12_bad_13 : decode cX12_bad 13 = .ok (.iconst 0, 1) := by decide +kernel
theorem dX12_bad_14 : decode cX12_bad 14 = .ok (.ireturn, 1) := by decide +kernel
theorem dX12_isWord_0 : decode cX12_isWord 0 = .ok (.aload_n 0, 1) := by decide +kernel
theorem dX12_isWord_1 : decode cX12_isWord 1 = .ok (.getfield 150, 3) := by decide +kernel
theorem dX12_isWord_4 : decode cX12_isWord 4 = .ok (.iconst 1, 1) := by decide +kernel
theorem dX12_isWord_5 : decode cX12_isWord 5 = .ok (.if_icmp .ne 16, 3) := by decide +kernel
theorem dX12_isWord_8 : decode cX12_isWord 8 = .ok (.aload_n 0, 1) := by decide +kernel
theorem dX12_isWord_9 : decode cX12_isWord 9 = .ok (.getfield 163, 3) := by decide +kernel
theorem dX12_isWord_12 : decode cX12_isWord 12 = .ok (.lload_n 1, 1) := by decide +kernel
theorem dX12_isWord_13 : decode cX12_isWord 13 = .ok (.lcmp, 1) := by decide +kernel
theorem dX12_isWord_14 : decode cX12_isWord 14 = .ok (.ifCond .ne 7, 3) := by decide +kernel
theorem dX12_isWord_17 : decode cX12_isWord 17 = .ok (.iconst 1, 1) := by decide +kernel
theorem dX12_isWord_18 : decode cX12_isWord 18 = .ok (.goto 4, 3) := by decide +kernel
theorem dX12_isWord_21 : decode cX12_isWord 21 = .ok (.iconst 0, 1) := by decide +kernel
theorem dX12_isWord_22 : decode cX12_isWord 22 = .ok (.ireturn, 1) := by decide +kernel
theorem dX12_isSign_0 : decode cX12_isSign 0 = .ok (.aload_n 0, 1) := by decide +kernel
theorem dX12_isSign_1 : decode cX12_isSign 1 = .ok (.getfield 150, 3) := by decide +kernel
theorem dX12_isSign_4 : decode cX12_isSign 4 = .ok (.iconst 3, 1) := by decide +kernel
theorem dX12_isSign_5 : decode cX12_isSign 5 = .ok (.if_icmp .ne 15, 3) := by decide +kernel
theorem dX12_isSign_8 : decode cX12_isSign 8 = .ok (.aload_n 0, 1) := by decide +kernel
theorem dX12_isSign_9 : decode cX12_isSign 9 = .ok (.getfield 160, 3) := by decide +kernel
theorem dX12_isSign_12 : decode cX12_isSign 12 = .ok (.iload_n 1, 1) := by decide +kernel
theorem dX12_isSign_13 : decode cX12_isSign 13 = .ok (.if_icmp .ne 7, 3) := by decide +kernel
theorem dX12_isSign_16 : decode cX12_isSign 16 = .ok (.iconst 1, 1) := by decide +kernel
theorem dX12_isSign_17 : decode cX12_isSign 17 = .ok (.goto 4, 3) := by decide +kernel
theorem dX12_isSign_20 : decode cX12_isSign 20 = .ok (.iconst 0, 1) := by decide +kernel
theorem dX12_isSign_21 : decode cX12_isSign 21 = .ok (.ireturn, 1) := by decide +kernel
theorem dX12_sign_0 : decode cX12_sign 0 = .ok (.aload_n 0, 1) := by decide +kernel
theorem dX12_sign_1 : decode cX12_sign 1 = .ok (.iload_n 1, 1) := by decide +kernel
theorem dX12_sign_2 : decode cX12_sign 2 = .ok (.invokevirtual 173, 3) := by decide +kernel
theorem dX12_sign_5 : decode cX12_sign 5 = .ok (.ifCond .ne 9, 3) := by decide +kernel
theorem dX12_sign_8 : decode cX12_sign 8 = .ok (.aload_n 0, 1) := by decide +kernel
theorem dX12_sign_9 : decode cX12_sign 9 = .ok (.iconst 1, 1) := by decide +kernel
theorem dX12_sign_10 : decode cX12_sign 10 = .ok (.invokevirtual 176, 3) := by decide +kernel
theorem dX12_sign_13 : decode cX12_sign 13 = .ok (.ireturn, 1) := by decide +kernel
theorem dX12_sign_14 : decode cX12_sign 14 = .ok (.aload_n 0, 1) := by decide +kernel
theorem dX12_sign_15 : decode cX12_sign 15 = .ok (.invokevirtual 179, 3) := by decide +kernel
theorem dX12_sign_18 : decode cX12_sign 18 = .ok (.iconst 1, 1) := by decide +kernel
theorem dX12_sign_19 : decode cX12_sign 19 = .ok (.ireturn, 1) := by decide +kernel
theorem dX12_isName_0 : decode cX12_isName 0 = .ok (.aload_n 0, 1) := by decide +kernel
theorem dX12_isName_1 : decode cX12_isName 1 = .ok (.getfield 150, 3) := by decide +kernel
theorem dX12_isName_4 : decode cX12_isName 4 = .ok (.iconst 1, 1) := by decide +kernel
theorem dX12_isName_5 : decode cX12_isName 5 = .ok (.if_icmp .ne 7, 3) := by decide +kernel
theorem dX12_isName_8 : decode cX12_isName 8 = .ok (.iconst 1, 1) := by decide +kernel
theorem dX12_isName_9 : decode cX12_isName 9 = .ok (.goto 4, 3) := by decide +kernel
theorem dX12_isName_12 : decode cX12_isName 12 = .ok (.iconst 0, 1) := by decide +kernel
theorem dX12_isName_13 : decode cX12_isName 13 = .ok (.istore_n 1, 1) := by decide +kernel
theorem dX12_isName_14 : decode cX12_isName 14 = .ok (.iconst 0, 1) := by decide +kernel
theorem dX12_isName_15 : decode cX12_isName 15 = .ok (.istore_n 2, 1) := by decide +kernel
theorem dX12_isName_16 : decode cX12_isName 16 = .ok (.iload_n 2, 1) := by decide +kernel
theorem dX12_isName_17 : decode cX12_isName 17 = .ok (.bipush 16, 2) := by decide +kernel
theorem dX12_isName_19 : decode cX12_isName 19 = .ok (.if_icmp .ge 33, 3) := by decide +kernel
theorem dX12_isName_22 : decode cX12_isName 22 = .ok (.iload_n 1, 1) := by decide +kernel
theorem dX12_isName_23 : decode cX12_isName 23 = .ok (.ifCond .eq 21, 3) := by decide +kernel
theorem dX12_isName_26 : decode cX12_isName 26 = .ok (.aload_n 0, 1) := by decide +kernel
theorem dX12_isName_27 : decode cX12_isName 27 = .ok (.getfield 163, 3) := by decide +kernel
theorem dX12_isName_30 : decode cX12_isName 30 = .ok (.aload_n 0, 1) := by decide +kernel
theorem dX12_isName_31 : decode cX12_isName 31 = .ok (.getfield 47, 3) := by decide +kernel
theorem dX12_isName_34 : decode cX12_isName 34 = .ok (.iload_n 2, 1) := by decide +kernel
theorem dX12_isName_35 : decode cX12_isName 35 = .ok (.laload, 1) := by decide +kernel
theorem dX12_isName_36 : decode cX12_isName 36 = .ok (.lcmp, 1) := by decide +kernel
theorem dX12_isName_37 : decode cX12_isName 37 = .ok (.ifCond .eq 7, 3) := by decide +kernel
theorem dX12_isName_40 : decode cX12_isName 40 = .ok (.iconst 1, 1) := by decide +kernel
theorem dX12_isName_41 : decode cX12_isName 41 = .ok (.goto 4, 3) := by decide +kernel
theorem dX12_isName_44 : decode cX12_isName 44 = .ok (.iconst 0, 1) := by decide +kernel
theorem dX12_isName_45 : decode cX12_isName 45 = .ok (.istore_n 1, 1) := by decide +kernel
theorem dX12_isName_46 : decode cX12_isName 46 = .ok (.iinc 2 1, 3) := by decide +kernel
theorem dX12_isName_49 : decode cX12_isName 49 = .ok (.goto (-33), 3) := by decide +kernel
theorem dX12_isName_52 : decode cX12_isName 52 = .ok (.iload_n 1, 1) := by decide +kernel
theorem dX12_isName_53 : decode cX12_isName 53 = .ok (.ireturn, 1) := by decide +kernel
theorem dX12_takes_0 : decode cX12_takes 0 = .ok (.aload_n 0, 1) := by decide +kernel
theorem dX12_takes_1 : decode cX12_takes 1 = .ok (.getfield 150, 3) := by decide +kernel
theorem dX12_takes_4 : decode cX12_takes 4 = .ok (.iconst 2, 1) := by decide +kernel
theorem dX12_takes_5 : decode cX12_takes 5 = .ok (.if_icmp .eq 9, 3) := by decide +kernel
theorem dX12_takes_8 : decode cX12_takes 8 = .ok (.aload_n 0, 1) := by decide +kernel
theorem dX12_takes_9 : decode cX12_takes 9 = .ok (.iconst 1, 1) := by decide +kernel
theorem dX12_takes_10 : decode cX12_takes 10 = .ok (.invokevirtual 176, 3) := by decide +kernel
theorem dX12_takes_13 : decode cX12_takes 13 = .ok (.ireturn, 1) := by decide +kernel
theorem dX12_takes_14 : decode cX12_takes 14 = .ok (.aload_n 0, 1) := by decide +kernel
theorem dX12_takes_15 : decode cX12_takes 15 = .ok (.getfield 160, 3) := by decide +kernel
theorem dX12_takes_18 : decode cX12_takes 18 = .ok (.iload_n 1, 1) := by decide +kernel
theorem dX12_takes_19 : decode cX12_takes 19 = .ok (.iload_n 2, 1) := by decide +kernel
theorem dX12_takes_20 : decode cX12_takes 20 = .ok (.invokestatic 182, 3) := by decide +kernel
theorem dX12_takes_23 : decode cX12_takes 23 = .ok (.ifCond .ne 9, 3) := by decide +kernel
theorem dX12_takes_26 : decode cX12_takes 26 = .ok (.aload_n 0, 1) := by decide +kernel
theorem dX12_takes_27 : decode cX12_takes 27 = .ok (.iconst 2, 1) := by decide +kernel
theorem dX12_takes_28 : decode cX12_takes 28 = .ok (.invokevirtual 176, 3) := by decide +kernel
theorem dX12_takes_31 : decode cX12_takes 31 = .ok (.ireturn, 1) := by decide +kernel
theorem dX12_takes_32 : decode cX12_takes 32 = .ok (.aload_n 0, 1) := by decide +kernel
theorem dX12_takes_33 : decode cX12_takes 33 = .ok (.aload_n 0, 1) := by decide +kernel
theorem dX12_takes_34 : decode cX12_takes 34 = .ok (.getfield 160, 3) := by decide +kernel
theorem dX12_takes_37 : decode cX12_takes 37 = .ok (.putfield 186, 3) := by decide +kernel
theorem dX12_takes_40 : decode cX12_takes 40 = .ok (.aload_n 0, 1) := by decide +kernel
theorem dX12_takes_41 : decode cX12_takes 41 = .ok (.invokevirtual 179, 3) := by decide +kernel
theorem dX12_takes_44 : decode cX12_takes 44 = .ok (.iconst 1, 1) := by decide +kernel
theorem dX12_takes_45 : decode cX12_takes 45 = .ok (.ireturn, 1) := by decide +kernel
theorem dX12_find_0 : decode cX12_find 0 = .ok (.iconst 0, 1) := by decide +kernel
theorem dX12_find_1 : decode cX12_find 1 = .ok (.istore_n 3, 1) := by decide +kernel
theorem dX12_find_2 : decode cX12_find 2 = .ok (.iload_n 3, 1) := by decide +kernel
theorem dX12_find_3 : decode cX12_find 3 = .ok (.iload_n 2, 1) := by decide +kernel
theorem dX12_find_4 : decode cX12_find 4 = .ok (.if_icmp .ge 27, 3) := by decide +kernel
theorem dX12_find_7 : decode cX12_find 7 = .ok (.aload_n 0, 1) := by decide +kernel
theorem dX12_find_8 : decode cX12_find 8 = .ok (.getfield 43, 3) := by decide +kernel
theorem dX12_find_11 : decode cX12_find 11 = .ok (.iload_n 1, 1) := by decide +kernel
theorem dX12_find_12 : decode cX12_find 12 = .ok (.iload_n 3, 1) := by decide +kernel
theorem dX12_find_13 : decode cX12_find 13 = .ok (.iadd, 1) := by decide +kernel
theorem dX12_find_14 : decode cX12_find 14 = .ok (.laload, 1) := by decide +kernel
theorem dX12_find_15 : decode cX12_find 15 = .ok (.aload_n 0, 1) := by decide +kernel
theorem dX12_find_16 : decode cX12_find 16 = .ok (.getfield 163, 3) := by decide +kernel
theorem dX12_find_19 : decode cX12_find 19 = .ok (.lcmp, 1) := by decide +kernel
theorem dX12_find_20 : decode cX12_find 20 = .ok (.ifCond .ne 5, 3) := by decide +kernel
theorem dX12_find_23 : decode cX12_find 23 = .ok (.iload_n 3, 1) := by decide +kernel
theorem dX12_find_24 : decode cX12_find 24 = .ok (.ireturn, 1) := by decide +kernel
theorem dX12_find_25 : decode cX12_find 25 = .ok (.iinc 3 1, 3) := by decide +kernel
theorem dX12_find_28 : decode cX12_find 28 = .ok (.goto (-26), 3) := by decide +kernel
theorem dX12_find_31 : decode cX12_find 31 = .ok (.iconst (-1), 1) := by decide +kernel
theorem dX12_find_32 : decode cX12_find 32 = .ok (.ireturn, 1) := by decide +kernel
theorem dX12_fresh_0 : decode cX12_fresh 0 = .ok (.aload_n 0, 1) := by decide +kernel
theorem dX12_fresh_1 : decode cX12_fresh 1 = .ok (.invokevirtual 189, 3) := by decide +kernel
theorem dX12_fresh_4 : decode cX12_fresh 4 = .ok (.ifCond .ne 9, 3) := by decide +kernel
theorem dX12_fresh_7 : decode cX12_fresh 7 = .ok (.aload_n 0, 1) := by decide +kernel
theorem dX12_fresh_8 : decode cX12_fresh 8 = .ok (.iconst 1, 1) := by decide +kernel
theorem dX12_fresh_9 : decode cX12_fresh 9 = .ok (.invokevirtual 176, 3) := by decide +kernel
theorem dX12_fresh_12 : decode cX12_fresh 12 = .ok (.ireturn, 1) := by decide +kernel
theorem dX12_fresh_13 : decode cX12_fresh 13 = .ok (.aload_n 0, 1) := by decide +kernel
theorem dX12_fresh_14 : decode cX12_fresh 14 = .ok (.bipush 16, 2) := by decide +kernel
theorem dX12_fresh_16 : decode cX12_fresh 16 = .ok (.aload_n 0, 1) := by decide +kernel
theorem dX12_fresh_17 : decode cX12_fresh 17 = .ok (.getfield 37, 3) := by decide +kernel
theorem dX12_fresh_20 : decode cX12_fresh 20 = .ok (.iconst 1, 1) := by decide +kernel
theorem dX12_fresh_21 : decode cX12_fresh 21 = .ok (.iaload, 1) := by decide +kernel
theorem dX12_fresh_22 : decode cX12_fresh 22 = .ok (.invokevirtual 193, 3) := by decide +kernel
theorem dX12_fresh_25 : decode cX12_fresh 25 = .ok (.ifCond .ge 18, 3) := by decide +kernel
theorem dX12_fresh_28 : decode cX12_fresh 28 = .ok (.aload_n 0, 1) := by decide +kernel
theorem dX12_fresh_29 : decode cX12_fresh 29 = .ok (.bipush 26, 2) := by decide +kernel
theorem dX12_fresh_31 : decode cX12_fresh 31 = .ok (.aload_n 0, 1) := by decide +kernel
theorem dX12_fresh_32 : decode cX12_fresh 32 = .ok (.getfield 37, 3) := by decide +kernel
theorem dX12_fresh_35 : decode cX12_fresh 35 = .ok (.iconst 3, 1) := by decide +kernel
theorem dX12_fresh_36 : decode cX12_fresh 36 = .ok (.iaload, 1) := by decide +kernel
theorem dX12_fresh_37 : decode cX12_fresh 37 = .ok (.invokevirtual 193, 3) := by decide +kernel
theorem dX12_fresh_40 : decode cX12_fresh 40 = .ok (.ifCond .lt 9, 3) := by decide +kernel
theorem dX12_fresh_43 : decode cX12_fresh 43 = .ok (.aload_n 0, 1) := by decide +kernel
theorem dX12_fresh_44 : decode cX12_fresh 44 = .ok (.iconst 3, 1) := by decide +kernel
theorem dX12_fresh_45 : decode cX12_fresh 45 = .ok (.invokevirtual 176, 3) := by decide +kernel
theorem dX12_fresh_48 : decode cX12_fresh 48 = .ok (.ireturn, 1) := by decide +kernel
theorem dX12_fresh_49 : decode cX12_fresh 49 = .ok (.aload_n 0, 1) := by decide +kernel
theorem dX12_fresh_50 : decode cX12_fresh 50 = .ok (.getfield 43, 3) := by decide +kernel
theorem dX12_fresh_53 : decode cX12_fresh 53 = .ok (.iload_n 1, 1) := by decide +kernel
theorem dX12_fresh_54 : decode cX12_fresh 54 = .ok (.aload_n 0, 1) := by decide +kernel
theorem dX12_fresh_55 : decode cX12_fresh 55 = .ok (.getfield 163, 3) := by decide +kernel
theorem dX12_fresh_58 : decode cX12_fresh 58 = .ok (.lastore, 1) := by decide +kernel
theorem dX12_fresh_59 : decode cX12_fresh 59 = .ok (.aload_n 0, 1) := by decide +kernel
theorem dX12_fresh_60 : decode cX12_fresh 60 = .ok (.invokevirtual 179, 3) := by decide +kernel
theorem dX12_fresh_63 : decode cX12_fresh 63 = .ok (.iconst 1, 1) := by decide +kernel
theorem dX12_fresh_64 : decode cX12_fresh 64 = .ok (.ireturn, 1) := by decide +kernel
theorem dX12_row_0 : decode cX12_row 0 = .ok (.aload_n 0, 1) := by decide +kernel
theorem dX12_row_1 : decode cX12_row 1 = .ok (.ldc2_w 105, 3) := by decide +kernel
theorem dX12_row_4 : decode cX12_row 4 = .ok (.invokevirtual 197, 3) := by decide +kernel
theorem dX12_row_7 : decode cX12_row 7 = .ok (.ifCond .eq 8, 3) := by decide +kernel
theorem dX12_row_10 : decode cX12_row 10 = .ok (.aload_n 0, 1) := by decide +kernel
theorem dX12_row_11 : decode cX12_row 11 = .ok (.invokevirtual 201, 3) := by decide +kernel
theorem dX12_row_14 : decode cX12_row 14 = .ok (.ireturn, 1) := by decide +kernel
theorem dX12_row_15 : decode cX12_row 15 = .ok (.aload_n 0, 1) := by decide +kernel
theorem dX12_row_16 : decode cX12_row 16 = .ok (.ldc2_w 107, 3) := by decide +kernel
theorem dX12_row_19 : decode cX12_row 19 = .ok (.invokevirtual 197, 3) := by decide +kernel
theorem dX12_row_22 : decode cX12_row 22 = .ok (.ifCond .eq 8, 3) := by decide +kernel
theorem dX12_row_25 : decode cX12_row 25 = .ok (.aload_n 0, 1) := by decide +kernel
theorem dX12_row_26 : decode cX12_row 26 = .ok (.invokevirtual 204, 3) := by decide +kernel
theorem dX12_row_29 : decode cX12_row 29 = .ok (.ireturn, 1) := by decide +kernel
theorem dX12_row_30 : decode cX12_row 30 = .ok (.aload_n 0, 1) := by decide +kernel
theorem dX12_row_31 : decode cX12_row 31 = .ok (.ldc2_w 109, 3) := by decide +kernel
theorem dX12_row_34 : decode cX12_row 34 = .ok (.invokevirtual 197, 3) := by decide +kernel
theorem dX12_row_37 : decode cX12_row 37 = .ok (.ifCond .eq 8, 3) := by decide +kernel
theorem dX12_row_40 : decode cX12_row 40 = .ok (.aload_n 0, 1) := by decide +kernel
theorem dX12_row_41 : decode cX12_row 41 = .ok (.invokevirtual 207, 3) := by decide +kernel
theorem dX12_row_44 : decode cX12_row 44 = .ok (.ireturn, 1) := by decide +kernel
theorem dX12_row_45 : decode cX12_row 45 = .ok (.aload_n 0, 1) := by decide +kernel
theorem dX12_row_46 : decode cX12_row 46 = .ok (.ldc2_w 111, 3) := by decide +kernel
theorem dX12_row_49 : decode cX12_row 49 = .ok (.invokevirtual 197, 3) := by decide +kernel
theorem dX12_row_52 : decode cX12_row 52 = .ok (.ifCond .eq 8, 3) := by decide +kernel
theorem dX12_row_55 : decode cX12_row 55 = .ok (.aload_n 0, 1) := by decide +kernel
theorem dX12_row_56 : decode cX12_row 56 = .ok (.invokevirtual 210, 3) := by decide +kernel
theorem dX12_row_59 : decode cX12_row 59 = .ok (.ireturn, 1) := by decide +kernel
theorem dX12_row_60 : decode cX12_row 60 = .ok (.aload_n 0, 1) := by decide +kernel
theorem dX12_row_61 : decode cX12_row 61 = .ok (.ldc2_w 113, 3) := by decide +kernel
theorem dX12_row_64 : decode cX12_row 64 = .ok (.invokevirtual 197, 3) := by decide +kernel
theorem dX12_row_67 : decode cX12_row 67 = .ok (.ifCond .eq 123, 3) := by decide +kernel
theorem dX12_row_70 : decode cX12_row 70 = .ok (.aload_n 0, 1) := by decide +kernel
theorem dX12_row_71 : decode cX12_row 71 = .ok (.invokevirtual 179, 3) := by decide +kernel
theorem dX12_row_74 : decode cX12_row 74 = .ok (.aload_n 0, 1) := by decide +kernel
theorem dX12_row_75 : decode cX12_row 75 = .ok (.invokevirtual 189, 3) := by decide +kernel
theorem dX12_row_78 : decode cX12_row 78 = .ok (.ifCond .ne 9, 3) := by decide +kernel
theorem dX12_row_81 : decode cX12_row 81 = .ok (.aload_n 0, 1) := by decide +kernel
theorem dX12_row_82 : decode cX12_row 82 = .ok (.iconst 1, 1) := by decide +kernel
theorem dX12_row_83 : decode cX12_row 83 = .ok (.invokevirtual 176, 3) := by decide +kernel
theorem dX12_row_86 : decode cX12_row 86 = .ok (.ireturn, 1) := by decide +kernel
theorem dX12_row_87 : decode cX12_row 87 = .ok (.aload_n 0, 1) := by decide +kernel
theorem dX12_row_88 : decode cX12_row 88 = .ok (.bipush 16, 2) := by decide +kernel
theorem dX12_row_90 : decode cX12_row 90 = .ok (.aload_n 0, 1) := by decide +kernel
theorem dX12_row_91 : decode cX12_row 91 = .ok (.getfield 37, 3) := by decide +kernel
theorem dX12_row_94 : decode cX12_row 94 = .ok (.iconst 1, 1) := by decide +kernel
theorem dX12_row_95 : decode cX12_row 95 = .ok (.iaload, 1) := by decide +kernel
theorem dX12_row_96 : decode cX12_row 96 = .ok (.invokevirtual 193, 3) := by decide +kernel
theorem dX12_row_99 : decode cX12_row 99 = .ok (.istore_n 1, 1) := by decide +kernel
theorem dX12_row_100 : decode cX12_row 100 = .ok (.iload_n 1, 1) := by decide +kernel
theorem dX12_row_101 : decode cX12_row 101 = .ok (.ifCond .lt 20, 3) := by decide +kernel
theorem dX12_row_104 : decode cX12_row 104 = .ok (.aload_n 0, 1) := by decide +kernel
theorem dX12_row_105 : decode cX12_row 105 = .ok (.getfield 37, 3) := by decide +kernel
theorem dX12_row_108 : decode cX12_row 108 = .ok (.sipush 411, 3) := by decide +kernel
theorem dX12_row_111 : decode cX12_row 111 = .ok (.iconst 3, 1) := by decide +kernel
theorem dX12_row_112 : decode cX12_row 112 = .ok (.iload_n 1, 1) := by decide +kernel
theorem dX12_row_113 : decode cX12_row 113 = .ok (.imul, 1) := by decide +kernel
theorem dX12_row_114 : decode cX12_row 114 = .ok (.iadd, 1) := by decide +kernel
theorem dX12_row_115 : decode cX12_row 115 = .ok (.iconst 2, 1) := by decide +kernel
theorem dX12_row_116 : decode cX12_row 116 = .ok (.iadd, 1) := by decide +kernel
theorem dX12_row_117 : decode cX12_row 117 = .ok (.iaload, 1) := by decide +kernel
theorem dX12_row_118 : decode cX12_row 118 = .ok (.ifCond .le 9, 3) := by decide +kernel
theorem dX12_row_121 : decode cX12_row 121 = .ok (.aload_n 0, 1) := by decide +kernel
theorem dX12_row_122 : decode cX12_row 122 = .ok (.iconst 3, 1) := by decide +kernel
theorem dX12_row_123 : decode cX12_row 123 = .ok (.invokevirtual 176, 3) := by decide +kernel
theorem dX12_row_126 : decode cX12_row 126 = .ok (.ireturn, 1) := by decide +kernel
theorem dX12_row_127 : decode cX12_row 127 = .ok (.aload_n 0, 1) := by decide +kernel
theorem dX12_row_128 : decode cX12_row 128 = .ok (.invokevirtual 179, 3) := by decide +kernel
theorem dX12_row_131 : decode cX12_row 131 = .ok (.aload_n 0, 1) := by decide +kernel
theorem dX12_row_132 : decode cX12_row 132 = .ok (.invokevirtual 189, 3) := by decide +kernel
theorem dX12_row_135 : decode cX12_row 135 = .ok (.ifCond .ne 9, 3) := by decide +kernel
theorem dX12_row_138 : decode cX12_row 138 = .ok (.aload_n 0, 1) := by decide +kernel
theorem dX12_row_139 : decode cX12_row 139 = .ok (.iconst 1, 1) := by decide +kernel
theorem dX12_row_140 : decode cX12_row 140 = .ok (.invokevirtual 176, 3) := by decide +kernel
theorem dX12_row_143 : decode cX12_row 143 = .ok (.ireturn, 1) := by decide +kernel
theorem dX12_row_144 : decode cX12_row 144 = .ok (.aload_n 0, 1) := by decide +kernel
theorem dX12_row_145 : decode cX12_row 145 = .ok (.bipush 26, 2) := by decide +kernel
theorem dX12_row_147 : decode cX12_row 147 = .ok (.aload_n 0, 1) := by decide +kernel
theorem dX12_row_148 : decode cX12_row 148 = .ok (.getfield 37, 3) := by decide +kernel
theorem dX12_row_151 : decode cX12_row 151 = .ok (.iconst 3, 1) := by decide +kernel
theorem dX12_row_152 : decode cX12_row 152 = .ok (.iaload, 1) := by decide +kernel
theorem dX12_row_153 : decode cX12_row 153 = .ok (.invokevirtual 193, 3) := by decide +kernel
theorem dX12_row_156 : decode cX12_row 156 = .ok (.istore_n 2, 1) := by decide +kernel
theorem dX12_row_157 : decode cX12_row 157 = .ok (.iload_n 2, 1) := by decide +kernel
theorem dX12_row_158 : decode cX12_row 158 = .ok (.ifCond .ge 9, 3) := by decide +kernel
theorem dX12_row_161 : decode cX12_row 161 = .ok (.aload_n 0, 1) := by decide +kernel
theorem dX12_row_162 : decode cX12_row 162 = .ok (.iconst 3, 1) := by decide +kernel
theorem dX12_row_163 : decode cX12_row 163 = .ok (.invokevirtual 176, 3) := by decide +kernel
theorem dX12_row_166 : decode cX12_row 166 = .ok (.ireturn, 1) := by decide +kernel
theorem dX12_row_167 : decode cX12_row 167 = .ok (.aload_n 0, 1) := by decide +kernel
theorem dX12_row_168 : decode cX12_row 168 = .ok (.getfield 37, 3) := by decide +kernel
theorem dX12_row_171 : decode cX12_row 171 = .ok (.sipush 411, 3) := by decide +kernel
theorem dX12_row_174 : decode cX12_row 174 = .ok (.iconst 3, 1) := by decide +kernel
theorem dX12_row_175 : decode cX12_row 175 = .ok (.iload_n 1, 1) := by decide +kernel
theorem dX12_row_176 : decode cX12_row 176 = .ok (.imul, 1) := by decide +kernel
theorem dX12_row_177 : decode cX12_row 177 = .ok (.iadd, 1) := by decide +kernel
theorem dX12_row_178 : decode cX12_row 178 = .ok (.iconst 2, 1) := by decide +kernel
theorem dX12_row_179 : decode cX12_row 179 = .ok (.iadd, 1) := by decide +kernel
theorem dX12_row_180 : decode cX12_row 180 = .ok (.iload_n 2, 1) := by decide +kernel
theorem dX12_row_181 : decode cX12_row 181 = .ok (.iconst 1, 1) := by decide +kernel
theorem dX12_row_182 : decode cX12_row 182 = .ok (.iadd, 1) := by decide +kernel
theorem dX12_row_183 : decode cX12_row 183 = .ok (.iastore, 1) := by decide +kernel
theorem dX12_row_184 : decode cX12_row 184 = .ok (.aload_n 0, 1) := by decide +kernel
theorem dX12_row_185 : decode cX12_row 185 = .ok (.invokevirtual 179, 3) := by decide +kernel
theorem dX12_row_188 : decode cX12_row 188 = .ok (.iconst 1, 1) := by decide +kernel
theorem dX12_row_189 : decode cX12_row 189 = .ok (.ireturn, 1) := by decide +kernel
theorem dX12_row_190 : decode cX12_row 190 = .ok (.aload_n 0, 1) := by decide +kernel
theorem dX12_row_191 : decode cX12_row 191 = .ok (.ldc2_w 115, 3) := by decide +kernel
theorem dX12_row_194 : decode cX12_row 194 = .ok (.invokevirtual 197, 3) := by decide +kernel
theorem dX12_row_197 : decode cX12_row 197 = .ok (.ifCond .eq 60, 3) := by decide +kernel
theorem dX12_row_200 : decode cX12_row 200 = .ok (.aload_n 0, 1) := by decide +kernel
theorem dX12_row_201 : decode cX12_row 201 = .ok (.iconst 0, 1) := by decide +kernel
theorem dX12_row_202 : decode cX12_row 202 = .ok (.invokevirtual 213, 3) := by decide +kernel
theorem dX12_row_205 : decode cX12_row 205 = .ok (.ifCond .ne 5, 3) := by decide +kernel
theorem dX12_row_208 : decode cX12_row 208 = .ok (.iconst 0, 1) := by decide +kernel
theorem dX12_row_209 : decode cX12_row 209 = .ok (.ireturn, 1) := by decide +kernel
theorem dX12_row_210 : decode cX12_row 210 = .ok (.aload_n 0, 1) := by decide +kernel
theorem dX12_row_211 : decode cX12_row 211 = .ok (.iconst 1, 1) := by decide +kernel
theorem dX12_row_212 : decode cX12_row 212 = .ok (.sipush 999, 3) := by decide +kernel
theorem dX12_row_215 : decode cX12_row 215 = .ok (.invokevirtual 216, 3) := by decide +kernel
theorem dX12_row_218 : decode cX12_row 218 = .ok (.ifCond .ne 5, 3) := by decide +kernel
theorem dX12_row_221 : decode cX12_row 221 = .ok (.iconst 0, 1) := by decide +kernel
theorem dX12_row_222 : decode cX12_row 222 = .ok (.ireturn, 1) := by decide +kernel
theorem dX12_row_223 : decode cX12_row 223 = .ok (.aload_n 0, 1) := by decide +kernel
theorem dX12_row_224 : decode cX12_row 224 = .ok (.getfield 37, 3) := by decide +kernel
theorem dX12_row_227 : decode cX12_row 227 = .ok (.iconst 4, 1) := by decide +kernel
theorem dX12_row_228 : decode cX12_row 228 = .ok (.aload_n 0, 1) := by decide +kernel
theorem dX12_row_229 : decode cX12_row 229 = .ok (.getfield 186, 3) := by decide +kernel
theorem dX12_row_232 : decode cX12_row 232 = .ok (.iastore, 1) := by decide +kernel
theorem dX12_row_233 : decode cX12_row 233 = .ok (.aload_n 0, 1) := by decide +kernel
theorem dX12_row_234 : decode cX12_row 234 = .ok (.iconst 1, 1) := by decide +kernel
theorem dX12_row_235 : decode cX12_row 235 = .ok (.bipush 99, 2) := by decide +kernel
theorem dX12_row_237 : decode cX12_row 237 = .ok (.invokevirtual 216, 3) := by decide +kernel
theorem dX12_row_240 : decode cX12_row 240 = .ok (.ifCond .ne 5, 3) := by decide +kernel
theorem dX12_row_243 : decode cX12_row 243 = .ok (.iconst 0, 1) := by decide +kernel
theorem dX12_row_244 : decode cX12_row 244 = .ok (.ireturn, 1) := by decide +kernel
theorem dX12_row_245 : decode cX12_row 245 = .ok (.aload_n 0, 1) := by decide +kernel
theorem dX12_row_246 : decode cX12_row 246 = .ok (.getfield 37, 3) := by decide +kernel
theorem dX12_row_249 : decode cX12_row 249 = .ok (.iconst 5, 1) := by decide +kernel
theorem dX12_row_250 : decode cX12_row 250 = .ok (.aload_n 0, 1) := by decide +kernel
theorem dX12_row_251 : decode cX12_row 251 = .ok (.getfield 186, 3) := by decide +kernel
theorem dX12_row_254 : decode cX12_row 254 = .ok (.iastore, 1) := by decide +kernel
theorem dX12_row_255 : decode cX12_row 255 = .ok (.iconst 1, 1) := by decide +kernel
theorem dX12_row_256 : decode cX12_row 256 = .ok (.ireturn, 1) := by decide +kernel
theorem dX12_row_257 : decode cX12_row 257 = .ok (.aload_n 0, 1) := by decide +kernel
theorem dX12_row_258 : decode cX12_row 258 = .ok (.ldc2_w 117, 3) := by decide +kernel
theorem dX12_row_261 : decode cX12_row 261 = .ok (.invokevirtual 197, 3) := by decide +kernel
theorem dX12_row_264 : decode cX12_row 264 = .ok (.ifCond .eq 29, 3) := by decide +kernel
theorem dX12_row_267 : decode cX12_row 267 = .ok (.aload_n 0, 1) := by decide +kernel
theorem dX12_row_268 : decode cX12_row 268 = .ok (.iconst 1, 1) := by decide +kernel
theorem dX12_row_269 : decode cX12_row 269 = .ok (.invokevirtual 213, 3) := by decide +kernel
theorem dX12_row_272 : decode cX12_row 272 = .ok (.ifCond .eq 19, 3) := by decide +kernel
theorem dX12_row_275 : decode cX12_row 275 = .ok (.aload_n 0, 1) := by decide +kernel
theorem dX12_row_276 : decode cX12_row 276 = .ok (.bipush 6, 2) := by decide +kernel
theorem dX12_row_278 : decode cX12_row 278 = .ok (.iconst 0, 1) := by decide +kernel
theorem dX12_row_279 : decode cX12_row 279 = .ok (.bipush 9, 2) := by decide +kernel
theorem dX12_row_281 : decode cX12_row 281 = .ok (.invokevirtual 220, 3) := by decide +kernel
theorem dX12_row_284 : decode cX12_row 284 = .ok (.ifCond .eq 7, 3) := by decide +kernel
theorem dX12_row_287 : decode cX12_row 287 = .ok (.iconst 1, 1) := by decide +kernel
theorem dX12_row_288 : decode cX12_row 288 = .ok (.goto 4, 3) := by decide +kernel
theorem dX12_row_291 : decode cX12_row 291 = .ok (.iconst 0, 1) := by decide +kernel
theorem dX12_row_292 : decode cX12_row 292 = .ok (.ireturn, 1) := by decide +kernel
theorem dX12_row_293 : decode cX12_row 293 = .ok (.aload_n 0, 1) := by decide +kernel
theorem dX12_row_294 : decode cX12_row 294 = .ok (.ldc2_w 119, 3) := by decide +kernel
theorem dX12_row_297 : decode cX12_row 297 = .ok (.invokevirtual 197, 3) := by decide +kernel
theorem dX12_row_300 : decode cX12_row 300 = .ok (.ifCond .eq 29, 3) := by decide +kernel
theorem dX12_row_303 : decode cX12_row 303 = .ok (.aload_n 0, 1) := by decide +kernel
theorem dX12_row_304 : decode cX12_row 304 = .ok (.iconst 2, 1) := by decide +kernel
theorem dX12_row_305 : decode cX12_row 305 = .ok (.invokevirtual 213, 3) := by decide +kernel
theorem dX12_row_308 : decode cX12_row 308 = .ok (.ifCond .eq 19, 3) := by decide +kernel
theorem dX12_row_311 : decode cX12_row 311 = .ok (.aload_n 0, 1) := by decide +kernel
theorem dX12_row_312 : decode cX12_row 312 = .ok (.bipush 7, 2) := by decide +kernel
theorem dX12_row_314 : decode cX12_row 314 = .ok (.iconst 0, 1) := by decide +kernel
theorem dX12_row_315 : decode cX12_row 315 = .ok (.bipush 99, 2) := by decide +kernel
theorem dX12_row_317 : decode cX12_row 317 = .ok (.invokevirtual 220, 3) := by decide +kernel
theorem dX12_row_320 : decode cX12_row 320 = .ok (.ifCond .eq 7, 3) := by decide +kernel
theorem dX12_row_323 : decode cX12_row 323 = .ok (.iconst 1, 1) := by decide +kernel
theorem dX12_row_324 : decode cX12_row 324 = .ok (.goto 4, 3) := by decide +kernel
theorem dX12_row_327 : decode cX12_row 327 = .ok (.iconst 0, 1) := by decide +kernel
theorem dX12_row_328 : decode cX12_row 328 = .ok (.ireturn, 1) := by decide +kernel
theorem dX12_row_329 : decode cX12_row 329 = .ok (.aload_n 0, 1) := by decide +kernel
theorem dX12_row_330 : decode cX12_row 330 = .ok (.ldc2_w 121, 3) := by decide +kernel
theorem dX12_row_333 : decode cX12_row 333 = .ok (.invokevirtual 197, 3) := by decide +kernel
theorem dX12_row_336 : decode cX12_row 336 = .ok (.ifCond .eq 29, 3) := by decide +kernel
theorem dX12_row_339 : decode cX12_row 339 = .ok (.aload_n 0, 1) := by decide +kernel
theorem dX12_row_340 : decode cX12_row 340 = .ok (.iconst 3, 1) := by decide +kernel
theorem dX12_row_341 : decode cX12_row 341 = .ok (.invokevirtual 213, 3) := by decide +kernel
theorem dX12_row_344 : decode cX12_row 344 = .ok (.ifCond .eq 19, 3) := by decide +kernel
theorem dX12_row_347 : decode cX12_row 347 = .ok (.aload_n 0, 1) := by decide +kernel
theorem dX12_row_348 : decode cX12_row 348 = .ok (.bipush 8, 2) := by decide +kernel
theorem dX12_row_350 : decode cX12_row 350 = .ok (.iconst 1, 1) := by decide +kernel
theorem dX12_row_351 : decode cX12_row 351 = .ok (.bipush 99, 2) := by decide +kernel
theorem dX12_row_353 : decode cX12_row 353 = .ok (.invokevirtual 220, 3) := by decide +kernel
theorem dX12_row_356 : decode cX12_row 356 = .ok (.ifCond .eq 7, 3) := by decide +kernel
theorem dX12_row_359 : decode cX12_row 359 = .ok (.iconst 1, 1) := by decide +kernel
theorem dX12_row_360 : decode cX12_row 360 = .ok (.goto 4, 3) := by decide +kernel
theorem dX12_row_363 : decode cX12_row 363 = .ok (.iconst 0, 1) := by decide +kernel
theorem dX12_row_364 : decode cX12_row 364 = .ok (.ireturn, 1) := by decide +kernel
theorem dX12_row_365 : decode cX12_row 365 = .ok (.aload_n 0, 1) := by decide +kernel
theorem dX12_row_366 : decode cX12_row 366 = .ok (.ldc2_w 123, 3) := by decide +kernel
theorem dX12_row_369 : decode cX12_row 369 = .ok (.invokevirtual 197, 3) := by decide +kernel
theorem dX12_row_372 : decode cX12_row 372 = .ok (.ifCond .eq 29, 3) := by decide +kernel
theorem dX12_row_375 : decode cX12_row 375 = .ok (.aload_n 0, 1) := by decide +kernel
theorem dX12_row_376 : decode cX12_row 376 = .ok (.iconst 4, 1) := by decide +kernel
theorem dX12_row_377 : decode cX12_row 377 = .ok (.invokevirtual 213, 3) := by decide +kernel
theorem dX12_row_380 : decode cX12_row 380 = .ok (.ifCond .eq 19, 3) := by decide +kernel
theorem dX12_row_383 : decode cX12_row 383 = .ok (.aload_n 0, 1) := by decide +kernel
theorem dX12_row_384 : decode cX12_row 384 = .ok (.bipush 9, 2) := by decide +kernel
theorem dX12_row_386 : decode cX12_row 386 = .ok (.iconst 1, 1) := by decide +kernel
theorem dX12_row_387 : decode cX12_row 387 = .ok (.bipush 9, 2) := by decide +kernel
theorem dX12_row_389 : decode cX12_row 389 = .ok (.invokevirtual 220, 3) := by decide +kernel
theorem dX12_row_392 : decode cX12_row 392 = .ok (.ifCond .eq 7, 3) := by decide +kernel
theorem dX12_row_395 : decode cX12_row 395 = .ok (.iconst 1, 1) := by decide +kernel
theorem dX12_row_396 : decode cX12_row 396 = .ok (.goto 4, 3) := by decide +kernel
theorem dX12_row_399 : decode cX12_row 399 = .ok (.iconst 0, 1) := by decide +kernel
theorem dX12_row_400 : decode cX12_row 400 = .ok (.ireturn, 1) := by decide +kernel
theorem dX12_row_401 : decode cX12_row 401 = .ok (.aload_n 0, 1) := by decide +kernel
theorem dX12_row_402 : decode cX12_row 402 = .ok (.ldc2_w 125, 3) := by decide +kernel
theorem dX12_row_405 : decode cX12_row 405 = .ok (.invokevirtual 197, 3) := by decide +kernel
theorem dX12_row_408 : decode cX12_row 408 = .ok (.ifCond .eq 26, 3) := by decide +kernel
theorem dX12_row_411 : decode cX12_row 411 = .ok (.aload_n 0, 1) := by decide +kernel
theorem dX12_row_412 : decode cX12_row 412 = .ok (.iconst 5, 1) := by decide +kernel
theorem dX12_row_413 : decode cX12_row 413 = .ok (.invokevirtual 213, 3) := by decide +kernel
theorem dX12_row_416 : decode cX12_row 416 = .ok (.ifCond .eq 14, 3) := by decide +kernel
theorem dX12_row_419 : decode cX12_row 419 = .ok (.aload_n 0, 1) := by decide +kernel
theorem dX12_row_420 : decode cX12_row 420 = .ok (.invokevirtual 223, 3) := by decide +kernel
theorem dX12_row_423 : decode cX12_row 423 = .ok (.ifCond .eq 7, 3) := by decide +kernel
theorem dX12_row_426 : decode cX12_row 426 = .ok (.iconst 1, 1) := by decide +kernel
theorem dX12_row_427 : decode cX12_row 427 = .ok (.goto 12, 3) := by decide +kernel
theorem dX12_row_430 : decode cX12_row 430 = .ok (.iconst 0, 1) := by decide +kernel
theorem dX12_row_431 : decode cX12_row 431 = .ok (.goto 8, 3) := by decide +kernel
theorem dX12_row_434 : decode cX12_row 434 = .ok (.aload_n 0, 1) := by decide +kernel
theorem dX12_row_435 : decode cX12_row 435 = .ok (.iconst 1, 1) := by decide +kernel
theorem dX12_row_436 : decode cX12_row 436 = .ok (.invokevirtual 176, 3) := by decide +kernel
theorem dX12_row_439 : decode cX12_row 439 = .ok (.ireturn, 1) := by decide +kernel
theorem dX12_isOnce_0 : decode cX12_isOnce 0 = .ok (.aload_n 0, 1) := by decide +kernel
theorem dX12_isOnce_1 : decode cX12_isOnce 1 = .ok (.getfield 226, 3) := by decide +kernel
theorem dX12_isOnce_4 : decode cX12_isOnce 4 = .ok (.iload_n 1, 1) := by decide +kernel
theorem dX12_isOnce_5 : decode cX12_isOnce 5 = .ok (.invokestatic 229, 3) := by decide +kernel
theorem dX12_isOnce_8 : decode cX12_isOnce 8 = .ok (.ifCond .eq 9, 3) := by decide +kernel
theorem dX12_isOnce_11 : decode cX12_isOnce 11 = .ok (.aload_n 0, 1) := by decide +kernel
theorem dX12_isOnce_12 : decode cX12_isOnce 12 = .ok (.iconst 3, 1) := by decide +kernel
theorem dX12_isOnce_13 : decode cX12_isOnce 13 = .ok (.invokevirtual 176, 3) := by decide +kernel
theorem dX12_isOnce_16 : decode cX12_isOnce 16 = .ok (.ireturn, 1) := by decide +kernel
theorem dX12_isOnce_17 : decode cX12_isOnce 17 = .ok (.aload_n 0, 1) := by decide +kernel
theorem dX12_isOnce_18 : decode cX12_isOnce 18 = .ok (.dup, 1) := by decide +kernel
theorem dX12_isOnce_19 : decode cX12_isOnce 19 = .ok (.getfield 226, 3) := by decide +kernel
theorem dX12_isOnce_22 : decode cX12_isOnce 22 = .ok (.iconst 1, 1) := by decide +kernel
theorem dX12_isOnce_23 : decode cX12_isOnce 23 = .ok (.iload_n 1, 1) := by decide +kernel
theorem dX12_isOnce_24 : decode cX12_isOnce 24 = .ok (.ishl, 1) := by decide +kernel
theorem dX12_isOnce_25 : decode cX12_isOnce 25 = .ok (.ior, 1) := by decide +kernel
theorem dX12_isOnce_26 : decode cX12_isOnce 26 = .ok (.putfield 226, 3) := by decide +kernel
theorem dX12_isOnce_29 : decode cX12_isOnce 29 = .ok (.aload_n 0, 1) := by decide +kernel
theorem dX12_isOnce_30 : decode cX12_isOnce 30 = .ok (.invokevirtual 179, 3) := by decide +kernel
theorem dX12_isOnce_33 : decode cX12_isOnce 33 = .ok (.iconst 1, 1) := by decide +kernel
theorem dX12_isOnce_34 : decode cX12_isOnce 34 = .ok (.ireturn, 1) := by decide +kernel
theorem dX12_keeps_0 : decode cX12_keeps 0 = .ok (.aload_n 0, 1) := by decide +kernel
theorem dX12_keeps_1 : decode cX12_keeps 1 = .ok (.iload_n 2, 1) := by decide +kernel
theorem dX12_keeps_2 : decode cX12_keeps 2 = .ok (.iload_n 3, 1) := by decide +kernel
theorem dX12_keeps_3 : decode cX12_keeps 3 = .ok (.invokevirtual 216, 3) := by decide +kernel
theorem dX12_keeps_6 : decode cX12_keeps 6 = .ok (.ifCond .ne 5, 3) := by decide +kernel
theorem dX12_keeps_9 : decode cX12_keeps 9 = .ok (.iconst 0, 1) := by decide +kernel
theorem dX12_keeps_10 : decode cX12_keeps 10 = .ok (.ireturn, 1) := by decide +kernel
theorem dX12_keeps_11 : decode cX12_keeps 11 = .ok (.aload_n 0, 1) := by decide +kernel
theorem dX12_keeps_12 : decode cX12_keeps 12 = .ok (.getfield 37, 3) := by decide +kernel
theorem dX12_keeps_15 : decode cX12_keeps 15 = .ok (.iload_n 1, 1) := by decide +kernel
theorem dX12_keeps_16 : decode cX12_keeps 16 = .ok (.aload_n 0, 1) := by decide +kernel
theorem dX12_keeps_17 : decode cX12_keeps 17 = .ok (.getfield 186, 3) := by decide +kernel
theorem dX12_keeps_20 : decode cX12_keeps 20 = .ok (.iastore, 1) := by decide +kernel
theorem dX12_keeps_21 : decode cX12_keeps 21 = .ok (.iconst 1, 1) := by decide +kernel
theorem dX12_keeps_22 : decode cX12_keeps 22 = .ok (.ireturn, 1) := by decide +kernel
theorem dX12_readSlope_0 : decode cX12_readSlope 0 = .ok (.aload_n 0, 1) := by decide +kernel
theorem dX12_readSlope_1 : decode cX12_readSlope 1 = .ok (.getfield 232, 3) := by decide +kernel
theorem dX12_readSlope_4 : decode cX12_readSlope 4 = .ok (.bipush 20, 2) := by decide +kernel
theorem dX12_readSlope_6 : decode cX12_readSlope 6 = .ok (.if_icmp .ne 9, 3) := by decide +kernel
theorem dX12_readSlope_9 : decode cX12_readSlope 9 = .ok (.aload_n 0, 1) := by decide +kernel
theorem dX12_readSlope_10 : decode cX12_readSlope 10 = .ok (.iconst 4, 1) := by decide +kernel
theorem dX12_readSlope_11 : decode cX12_readSlope 11 = .ok (.invokevirtual 176, 3) := by decide +kernel
theorem dX12_readSlope_14 : decode cX12_readSlope 14 = .ok (.ireturn, 1) := by decide +kernel
theorem dX12_readSlope_15 : decode cX12_readSlope 15 = .ok (.aload_n 0, 1) := by decide +kernel
theorem dX12_readSlope_16 : decode cX12_readSlope 16 = .ok (.dup, 1) := by decide +kernel
theorem dX12_readSlope_17 : decode cX12_readSlope 17 = .ok (.getfield 232, 3) := by decide +kernel
theorem dX12_readSlope_20 : decode cX12_readSlope 20 = .ok (.iconst 1, 1) := by decide +kernel
theorem dX12_readSlope_21 : decode cX12_readSlope 21 = .ok (.iadd, 1) := by decide +kernel
theorem dX12_readSlope_22 : decode cX12_readSlope 22 = .ok (.putfield 232, 3) := by decide +kernel
theorem dX12_readSlope_25 : decode cX12_readSlope 25 = .ok (.aload_n 0, 1) := by decide +kernel
theorem dX12_readSlope_26 : decode cX12_readSlope 26 = .ok (.invokevirtual 179, 3) := by decide +kernel
theorem dX12_readSlope_29 : decode cX12_readSlope 29 = .ok (.aload_n 0, 1) := by decide +kernel
theorem dX12_readSlope_30 : decode cX12_readSlope 30 = .ok (.bipush 45, 2) := by decide +kernel
theorem dX12_readSlope_32 : decode cX12_readSlope 32 = .ok (.invokevirtual 173, 3) := by decide +kernel
theorem dX12_readSlope_35 : decode cX12_readSlope 35 = .ok (.istore_n 1, 1) := by decide +kernel
theorem dX12_readSlope_36 : decode cX12_readSlope 36 = .ok (.iload_n 1, 1) := by decide +kernel
theorem dX12_readSlope_37 : decode cX12_readSlope 37 = .ok (.ifCond .eq 7, 3) := by decide +kernel
theorem dX12_readSlope_40 : decode cX12_readSlope 40 = .ok (.aload_n 0, 1) := by decide +kernel
theorem dX12_readSlope_41 : decode cX12_readSlope 41 = .ok (.invokevirtual 179, 3) := by decide +kernel
theorem dX12_readSlope_44 : decode cX12_readSlope 44 = .ok (.aload_n 0, 1) := by decide +kernel
theorem dX12_readSlope_45 : decode cX12_readSlope 45 = .ok (.iconst 0, 1) := by decide +kernel
theorem dX12_readSlope_46 : decode cX12_readSlope 46 = .ok (.bipush 9, 2) := by decide +kernel
theorem dX12_readSlope_48 : decode cX12_readSlope 48 = .ok (.invokevirtual 216, 3) := by decide +kernel
theorem dX12_readSlope_51 : decode cX12_readSlope 51 = .ok (.ifCond .ne 5, 3) := by decide +kernel
theorem dX12_readSlope_54 : decode cX12_readSlope 54 = .ok (.iconst 0, 1) := by decide +kernel
theorem dX12_readSlope_55 : decode cX12_readSlope 55 = .ok (.ireturn, 1) := by decide +kernel
theorem dX12_readSlope_56 : decode cX12_readSlope 56 = .ok (.iload_n 1, 1) := by decide +kernel
theorem dX12_readSlope_57 : decode cX12_readSlope 57 = .ok (.ifCond .eq 11, 3) := by decide +kernel
theorem dX12_readSlope_60 : decode cX12_readSlope 60 = .ok (.aload_n 0, 1) := by decide +kernel
theorem dX12_readSlope_61 : decode cX12_readSlope 61 = .ok (.getfield 186, 3) := by decide +kernel
theorem dX12_readSlope_64 : decode cX12_readSlope 64 = .ok (.ineg, 1) := by decide +kernel
theorem dX12_readSlope_65 : decode cX12_readSlope 65 = .ok (.goto 7, 3) := by decide +kernel
theorem dX12_readSlope_68 : decode cX12_readSlope 68 = .ok (.aload_n 0, 1) := by decide +kernel
theorem dX12_readSlope_69 : decode cX12_readSlope 69 = .ok (.getfield 186, 3) := by decide +kernel
theorem dX12_readSlope_72 : decode cX12_readSlope 72 = .ok (.istore_n 2, 1) := by decide +kernel
theorem dX12_readSlope_73 : decode cX12_readSlope 73 = .ok (.aload_n 0, 1) := by decide +kernel
theorem dX12_readSlope_74 : decode cX12_readSlope 74 = .ok (.getfield 150, 3) := by decide +kernel
theorem dX12_readSlope_77 : decode cX12_readSlope 77 = .ok (.iconst 2, 1) := by decide +kernel
theorem dX12_readSlope_78 : decode cX12_readSlope 78 = .ok (.if_icmp .eq 9, 3) := by decide +kernel
theorem dX12_readSlope_81 : decode cX12_readSlope 81 = .ok (.aload_n 0, 1) := by decide +kernel
theorem dX12_readSlope_82 : decode cX12_readSlope 82 = .ok (.iconst 1, 1) := by decide +kernel
theorem dX12_readSlope_83 : decode cX12_readSlope 83 = .ok (.invokevirtual 176, 3) := by decide +kernel
theorem dX12_readSlope_86 : decode cX12_readSlope 86 = .ok (.ireturn, 1) := by decide +kernel
theorem dX12_readSlope_87 : decode cX12_readSlope 87 = .ok (.aload_n 0, 1) := by decide +kernel
theorem dX12_readSlope_88 : decode cX12_readSlope 88 = .ok (.getfield 160, 3) := by decide +kernel
theorem dX12_readSlope_91 : decode cX12_readSlope 91 = .ok (.iconst 1, 1) := by decide +kernel
theorem dX12_readSlope_92 : decode cX12_readSlope 92 = .ok (.bipush 99, 2) := by decide +kernel
theorem dX12_readSlope_94 : decode cX12_readSlope 94 = .ok (.invokestatic 182, 3) := by decide +kernel
theorem dX12_readSlope_97 : decode cX12_readSlope 97 = .ok (.ifCond .ne 9, 3) := by decide +kernel
theorem dX12_readSlope_100 : decode cX12_readSlope 100 = .ok (.aload_n 0, 1) := by decide +kernel
theorem dX12_readSlope_101 : decode cX12_readSlope 101 = .ok (.iconst 2, 1) := by decide +kernel
theorem dX12_readSlope_102 : decode cX12_readSlope 102 = .ok (.invokevirtual 176, 3) := by decide +kernel
theorem dX12_readSlope_105 : decode cX12_readSlope 105 = .ok (.ireturn, 1) := by decide +kernel
theorem dX12_readSlope_106 : decode cX12_readSlope 106 = .ok (.aload_n 0, 1) := by decide +kernel
theorem dX12_readSlope_107 : decode cX12_readSlope 107 = .ok (.getfield 37, 3) := by decide +kernel
theorem dX12_readSlope_110 : decode cX12_readSlope 110 = .ok (.iconst 0, 1) := by decide +kernel
theorem dX12_readSlope_111 : decode cX12_readSlope 111 = .ok (.iaload, 1) := by decide +kernel
theorem dX12_readSlope_112 : decode cX12_readSlope 112 = .ok (.aload_n 0, 1) := by decide +kernel
theorem dX12_readSlope_113 : decode cX12_readSlope 113 = .ok (.getfield 160, 3) := by decide +kernel
theorem dX12_readSlope_116 : decode cX12_readSlope 116 = .ok (.iadd, 1) := by decide +kernel
theorem dX12_readSlope_117 : decode cX12_readSlope 117 = .ok (.sipush 400, 3) := by decide +kernel
theorem dX12_readSlope_120 : decode cX12_readSlope 120 = .ok (.if_icmp .le 9, 3) := by decide +kernel
theorem dX12_readSlope_123 : decode cX12_readSlope 123 = .ok (.aload_n 0, 1) := by decide +kernel
theorem dX12_readSlope_124 : decode cX12_readSlope 124 = .ok (.iconst 4, 1) := by decide +kernel
theorem dX12_readSlope_125 : decode cX12_readSlope 125 = .ok (.invokevirtual 176, 3) := by decide +kernel
theorem dX12_readSlope_128 : decode cX12_readSlope 128 = .ok (.ireturn, 1) := by decide +kernel
theorem dX12_readSlope_129 : decode cX12_readSlope 129 = .ok (.iconst 0, 1) := by decide +kernel
theorem dX12_readSlope_130 : decode cX12_readSlope 130 = .ok (.istore_n 3, 1) := by decide +kernel
theorem dX12_readSlope_131 : decode cX12_readSlope 131 = .ok (.iload_n 3, 1) := by decide +kernel
theorem dX12_readSlope_132 : decode cX12_readSlope 132 = .ok (.aload_n 0, 1) := by decide +kernel
theorem dX12_readSlope_133 : decode cX12_readSlope 133 = .ok (.getfield 160, 3) := by decide +kernel
theorem dX12_readSlope_136 : decode cX12_readSlope 136 = .ok (.if_icmp .ge 26, 3) := by decide +kernel
theorem dX12_readSlope_139 : decode cX12_readSlope 139 = .ok (.aload_n 0, 1) := by decide +kernel
theorem dX12_readSlope_140 : decode cX12_readSlope 140 = .ok (.getfield 37, 3) := by decide +kernel
theorem dX12_readSlope_143 : decode cX12_readSlope 143 = .ok (.bipush 11, 2) := by decide +kernel
theorem dX12_readSlope_145 : decode cX12_readSlope 145 = .ok (.aload_n 0, 1) := by decide +kernel
theorem dX12_readSlope_146 : decode cX12_readSlope 146 = .ok (.getfield 37, 3) := by decide +kernel
theorem dX12_readSlope_149 : decode cX12_readSlope 149 = .ok (.iconst 0, 1) := by decide +kernel
theorem dX12_readSlope_150 : decode cX12_readSlope 150 = .ok (.iaload, 1) := by decide +kernel
theorem dX12_readSlope_151 : decode cX12_readSlope 151 = .ok (.iadd, 1) := by decide +kernel
theorem dX12_readSlope_152 : decode cX12_readSlope 152 = .ok (.iload_n 3, 1) := by decide +kernel
theorem dX12_readSlope_153 : decode cX12_readSlope 153 = .ok (.iadd, 1) := by decide +kernel
theorem dX12_readSlope_154 : decode cX12_readSlope 154 = .ok (.iload_n 2, 1) := by decide +kernel
theorem dX12_readSlope_155 : decode cX12_readSlope 155 = .ok (.iastore, 1) := by decide +kernel
theorem dX12_readSlope_156 : decode cX12_readSlope 156 = .ok (.iinc 3 1, 3) := by decide +kernel
theorem dX12_readSlope_159 : decode cX12_readSlope 159 = .ok (.goto (-28), 3) := by decide +kernel
theorem dX12_readSlope_162 : decode cX12_readSlope 162 = .ok (.aload_n 0, 1) := by decide +kernel
theorem dX12_readSlope_163 : decode cX12_readSlope 163 = .ok (.getfield 37, 3) := by decide +kernel
theorem dX12_readSlope_166 : decode cX12_readSlope 166 = .ok (.iconst 0, 1) := by decide +kernel
theorem dX12_readSlope_167 : decode cX12_readSlope 167 = .ok (.dup2, 1) := by decide +kernel
theorem dX12_readSlope_168 : decode cX12_readSlope 168 = .ok (.iaload, 1) := by decide +kernel
theorem dX12_readSlope_169 : decode cX12_readSlope 169 = .ok (.aload_n 0, 1) := by decide +kernel
theorem dX12_readSlope_170 : decode cX12_readSlope 170 = .ok (.getfield 160, 3) := by decide +kernel
theorem dX12_readSlope_173 : decode cX12_readSlope 173 = .ok (.iadd, 1) := by decide +kernel
theorem dX12_readSlope_174 : decode cX12_readSlope 174 = .ok (.iastore, 1) := by decide +kernel
theorem dX12_readSlope_175 : decode cX12_readSlope 175 = .ok (.aload_n 0, 1) := by decide +kernel
theorem dX12_readSlope_176 : decode cX12_readSlope 176 = .ok (.invokevirtual 179, 3) := by decide +kernel
theorem dX12_readSlope_179 : decode cX12_readSlope 179 = .ok (.iconst 1, 1) := by decide +kernel
theorem dX12_readSlope_180 : decode cX12_readSlope 180 = .ok (.ireturn, 1) := by decide +kernel
theorem dX12_readHalt_0 : decode cX12_readHalt 0 = .ok (.aload_n 0, 1) := by decide +kernel
theorem dX12_readHalt_1 : decode cX12_readHalt 1 = .ok (.getfield 37, 3) := by decide +kernel
theorem dX12_readHalt_4 : decode cX12_readHalt 4 = .ok (.iconst 1, 1) := by decide +kernel
theorem dX12_readHalt_5 : decode cX12_readHalt 5 = .ok (.iaload, 1) := by decide +kernel
theorem dX12_readHalt_6 : decode cX12_readHalt 6 = .ok (.istore_n 1, 1) := by decide +kernel
theorem dX12_readHalt_7 : decode cX12_readHalt 7 = .ok (.iload_n 1, 1) := by decide +kernel
theorem dX12_readHalt_8 : decode cX12_readHalt 8 = .ok (.bipush 10, 2) := by decide +kernel
theorem dX12_readHalt_10 : decode cX12_readHalt 10 = .ok (.if_icmp .ne 9, 3) := by decide +kernel
theorem dX12_readHalt_13 : decode cX12_readHalt 13 = .ok (.aload_n 0, 1) := by decide +kernel
theorem dX12_readHalt_14 : decode cX12_readHalt 14 = .ok (.iconst 4, 1) := by decide +kernel
theorem dX12_readHalt_15 : decode cX12_readHalt 15 = .ok (.invokevirtual 176, 3) := by decide +kernel
theorem dX12_readHalt_18 : decode cX12_readHalt 18 = .ok (.ireturn, 1) := by decide +kernel
theorem dX12_readHalt_19 : decode cX12_readHalt 19 = .ok (.aload_n 0, 1) := by decide +kernel
theorem dX12_readHalt_20 : decode cX12_readHalt 20 = .ok (.invokevirtual 179, 3) := by decide +kernel
theorem dX12_readHalt_23 : decode cX12_readHalt 23 = .ok (.aload_n 0, 1) := by decide +kernel
theorem dX12_readHalt_24 : decode cX12_readHalt 24 = .ok (.bipush 16, 2) := by decide +kernel
theorem dX12_readHalt_26 : decode cX12_readHalt 26 = .ok (.iload_n 1, 1) := by decide +kernel
theorem dX12_readHalt_27 : decode cX12_readHalt 27 = .ok (.iadd, 1) := by decide +kernel
theorem dX12_readHalt_28 : decode cX12_readHalt 28 = .ok (.invokevirtual 235, 3) := by decide +kernel
theorem dX12_readHalt_31 : decode cX12_readHalt 31 = .ok (.ifCond .ne 5, 3) := by decide +kernel
theorem dX12_readHalt_34 : decode cX12_readHalt 34 = .ok (.iconst 0, 1) := by decide +kernel
theorem dX12_readHalt_35 : decode cX12_readHalt 35 = .ok (.ireturn, 1) := by decide +kernel
theorem dX12_readHalt_36 : decode cX12_readHalt 36 = .ok (.aload_n 0, 1) := by decide +kernel
theorem dX12_readHalt_37 : decode cX12_readHalt 37 = .ok (.iload_n 1, 1) := by decide +kernel
theorem dX12_readHalt_38 : decode cX12_readHalt 38 = .ok (.ifCond .ne 7, 3) := by decide +kernel
theorem dX12_readHalt_41 : decode cX12_readHalt 41 = .ok (.iconst 0, 1) := by decide +kernel
theorem dX12_readHalt_42 : decode cX12_readHalt 42 = .ok (.goto 19, 3) := by decide +kernel
theorem dX12_readHalt_45 : decode cX12_readHalt 45 = .ok (.aload_n 0, 1) := by decide +kernel
theorem dX12_readHalt_46 : decode cX12_readHalt 46 = .ok (.getfield 37, 3) := by decide +kernel
theorem dX12_readHalt_49 : decode cX12_readHalt 49 = .ok (.sipush 411, 3) := by decide +kernel
theorem dX12_readHalt_52 : decode cX12_readHalt 52 = .ok (.iconst 3, 1) := by decide +kernel
theorem dX12_readHalt_53 : decode cX12_readHalt 53 = .ok (.iload_n 1, 1) := by decide +kernel
theorem dX12_readHalt_54 : decode cX12_readHalt 54 = .ok (.imul, 1) := by decide +kernel
theorem dX12_readHalt_55 : decode cX12_readHalt 55 = .ok (.iadd, 1) := by decide +kernel
theorem dX12_readHalt_56 : decode cX12_readHalt 56 = .ok (.iconst 3, 1) := by decide +kernel
theorem dX12_readHalt_57 : decode cX12_readHalt 57 = .ok (.isub, 1) := by decide +kernel
theorem dX12_readHalt_58 : decode cX12_readHalt 58 = .ok (.iaload, 1) := by decide +kernel
theorem dX12_readHalt_59 : decode cX12_readHalt 59 = .ok (.iconst 1, 1) := by decide +kernel
theorem dX12_readHalt_60 : decode cX12_readHalt 60 = .ok (.iadd, 1) := by decide +kernel
theorem dX12_readHalt_61 : decode cX12_readHalt 61 = .ok (.aload_n 0, 1) := by decide +kernel
theorem dX12_readHalt_62 : decode cX12_readHalt 62 = .ok (.getfield 37, 3) := by decide +kernel
theorem dX12_readHalt_65 : decode cX12_readHalt 65 = .ok (.iconst 0, 1) := by decide +kernel
theorem dX12_readHalt_66 : decode cX12_readHalt 66 = .ok (.iaload, 1) := by decide +kernel
theorem dX12_readHalt_67 : decode cX12_readHalt 67 = .ok (.iconst 1, 1) := by decide +kernel
theorem dX12_readHalt_68 : decode cX12_readHalt 68 = .ok (.isub, 1) := by decide +kernel
theorem dX12_readHalt_69 : decode cX12_readHalt 69 = .ok (.invokevirtual 216, 3) := by decide +kernel
theorem dX12_readHalt_72 : decode cX12_readHalt 72 = .ok (.ifCond .ne 5, 3) := by decide +kernel
theorem dX12_readHalt_75 : decode cX12_readHalt 75 = .ok (.iconst 0, 1) := by decide +kernel
theorem dX12_readHalt_76 : decode cX12_readHalt 76 = .ok (.ireturn, 1) := by decide +kernel
theorem dX12_readHalt_77 : decode cX12_readHalt 77 = .ok (.aload_n 0, 1) := by decide +kernel
theorem dX12_readHalt_78 : decode cX12_readHalt 78 = .ok (.getfield 37, 3) := by decide +kernel
theorem dX12_readHalt_81 : decode cX12_readHalt 81 = .ok (.sipush 411, 3) := by decide +kernel
theorem dX12_readHalt_84 : decode cX12_readHalt 84 = .ok (.iconst 3, 1) := by decide +kernel
theorem dX12_readHalt_85 : decode cX12_readHalt 85 = .ok (.iload_n 1, 1) := by decide +kernel
theorem dX12_readHalt_86 : decode cX12_readHalt 86 = .ok (.imul, 1) := by decide +kernel
theorem dX12_readHalt_87 : decode cX12_readHalt 87 = .ok (.iadd, 1) := by decide +kernel
theorem dX12_readHalt_88 : decode cX12_readHalt 88 = .ok (.aload_n 0, 1) := by decide +kernel
theorem dX12_readHalt_89 : decode cX12_readHalt 89 = .ok (.getfield 186, 3) := by decide +kernel
theorem dX12_readHalt_92 : decode cX12_readHalt 92 = .ok (.iastore, 1) := by decide +kernel
theorem dX12_readHalt_93 : decode cX12_readHalt 93 = .ok (.aload_n 0, 1) := by decide +kernel
theorem dX12_readHalt_94 : decode cX12_readHalt 94 = .ok (.iconst 1, 1) := by decide +kernel
theorem dX12_readHalt_95 : decode cX12_readHalt 95 = .ok (.bipush 99, 2) := by decide +kernel
theorem dX12_readHalt_97 : decode cX12_readHalt 97 = .ok (.invokevirtual 216, 3) := by decide +kernel
theorem dX12_readHalt_100 : decode cX12_readHalt 100 = .ok (.ifCond .ne 5, 3) := by decide +kernel
theorem dX12_readHalt_103 : decode cX12_readHalt 103 = .ok (.iconst 0, 1) := by decide +kernel
theorem dX12_readHalt_104 : decode cX12_readHalt 104 = .ok (.ireturn, 1) := by decide +kernel
theorem dX12_readHalt_105 : decode cX12_readHalt 105 = .ok (.aload_n 0, 1) := by decide +kernel
theorem dX12_readHalt_106 : decode cX12_readHalt 106 = .ok (.getfield 37, 3) := by decide +kernel
theorem dX12_readHalt_109 : decode cX12_readHalt 109 = .ok (.sipush 411, 3) := by decide +kernel
theorem dX12_readHalt_112 : decode cX12_readHalt 112 = .ok (.iconst 3, 1) := by decide +kernel
theorem dX12_readHalt_113 : decode cX12_readHalt 113 = .ok (.iload_n 1, 1) := by decide +kernel
theorem dX12_readHalt_114 : decode cX12_readHalt 114 = .ok (.imul, 1) := by decide +kernel
theorem dX12_readHalt_115 : decode cX12_readHalt 115 = .ok (.iadd, 1) := by decide +kernel
theorem dX12_readHalt_116 : decode cX12_readHalt 116 = .ok (.iconst 1, 1) := by decide +kernel
theorem dX12_readHalt_117 : decode cX12_readHalt 117 = .ok (.iadd, 1) := by decide +kernel
theorem dX12_readHalt_118 : decode cX12_readHalt 118 = .ok (.aload_n 0, 1) := by decide +kernel
theorem dX12_readHalt_119 : decode cX12_readHalt 119 = .ok (.getfield 186, 3) := by decide +kernel
theorem dX12_readHalt_122 : decode cX12_readHalt 122 = .ok (.iastore, 1) := by decide +kernel
theorem dX12_readHalt_123 : decode cX12_readHalt 123 = .ok (.aload_n 0, 1) := by decide +kernel
theorem dX12_readHalt_124 : decode cX12_readHalt 124 = .ok (.getfield 37, 3) := by decide +kernel
theorem dX12_readHalt_127 : decode cX12_readHalt 127 = .ok (.sipush 411, 3) := by decide +kernel
theorem dX12_readHalt_130 : decode cX12_readHalt 130 = .ok (.iconst 3, 1) := by decide +kernel
theorem dX12_readHalt_131 : decode cX12_readHalt 131 = .ok (.iload_n 1, 1) := by decide +kernel
theorem dX12_readHalt_132 : decode cX12_readHalt 132 = .ok (.imul, 1) := by decide +kernel
theorem dX12_readHalt_133 : decode cX12_readHalt 133 = .ok (.iadd, 1) := by decide +kernel
theorem dX12_readHalt_134 : decode cX12_readHalt 134 = .ok (.iconst 2, 1) := by decide +kernel
theorem dX12_readHalt_135 : decode cX12_readHalt 135 = .ok (.iadd, 1) := by decide +kernel
theorem dX12_readHalt_136 : decode cX12_readHalt 136 = .ok (.iconst 0, 1) := by decide +kernel
theorem dX12_readHalt_137 : decode cX12_readHalt 137 = .ok (.iastore, 1) := by decide +kernel
theorem dX12_readHalt_138 : decode cX12_readHalt 138 = .ok (.aload_n 0, 1) := by decide +kernel
theorem dX12_readHalt_139 : decode cX12_readHalt 139 = .ok (.getfield 37, 3) := by decide +kernel
theorem dX12_readHalt_142 : decode cX12_readHalt 142 = .ok (.iconst 1, 1) := by decide +kernel
theorem dX12_readHalt_143 : decode cX12_readHalt 143 = .ok (.dup2, 1) := by decide +kernel
theorem dX12_readHalt_144 : decode cX12_readHalt 144 = .ok (.iaload, 1) := by decide +kernel
theorem dX12_readHalt_145 : decode cX12_readHalt 145 = .ok (.iconst 1, 1) := by decide +kernel
theorem dX12_readHalt_146 : decode cX12_readHalt 146 = .ok (.iadd, 1) := by decide +kernel
theorem dX12_readHalt_147 : decode cX12_readHalt 147 = .ok (.iastore, 1) := by decide +kernel
theorem dX12_readHalt_148 : decode cX12_readHalt 148 = .ok (.iconst 1, 1) := by decide +kernel
theorem dX12_readHalt_149 : decode cX12_readHalt 149 = .ok (.ireturn, 1) := by decide +kernel
theorem dX12_readLoop_0 : decode cX12_readLoop 0 = .ok (.aload_n 0, 1) := by decide +kernel
theorem dX12_readLoop_1 : decode cX12_readLoop 1 = .ok (.getfield 37, 3) := by decide +kernel
theorem dX12_readLoop_4 : decode cX12_readLoop 4 = .ok (.iconst 2, 1) := by decide +kernel
theorem dX12_readLoop_5 : decode cX12_readLoop 5 = .ok (.iaload, 1) := by decide +kernel
theorem dX12_readLoop_6 : decode cX12_readLoop 6 = .ok (.istore_n 1, 1) := by decide +kernel
theorem dX12_readLoop_7 : decode cX12_readLoop 7 = .ok (.iload_n 1, 1) := by decide +kernel
theorem dX12_readLoop_8 : decode cX12_readLoop 8 = .ok (.bipush 8, 2) := by decide +kernel
theorem dX12_readLoop_10 : decode cX12_readLoop 10 = .ok (.if_icmp .ne 9, 3) := by decide +kernel
theorem dX12_readLoop_13 : decode cX12_readLoop 13 = .ok (.aload_n 0, 1) := by decide +kernel
theorem dX12_readLoop_14 : decode cX12_readLoop 14 = .ok (.iconst 4, 1) := by decide +kernel
theorem dX12_readLoop_15 : decode cX12_readLoop 15 = .ok (.invokevirtual 176, 3) := by decide +kernel
theorem dX12_readLoop_18 : decode cX12_readLoop 18 = .ok (.ireturn, 1) := by decide +kernel
theorem dX12_readLoop_19 : decode cX12_readLoop 19 = .ok (.aload_n 0, 1) := by decide +kernel
theorem dX12_readLoop_20 : decode cX12_readLoop 20 = .ok (.invokevirtual 179, 3) := by decide +kernel
theorem dX12_readLoop_23 : decode cX12_readLoop 23 = .ok (.aload_n 0, 1) := by decide +kernel
theorem dX12_readLoop_24 : decode cX12_readLoop 24 = .ok (.getfield 150, 3) := by decide +kernel
theorem dX12_readLoop_27 : decode cX12_readLoop 27 = .ok (.iconst 2, 1) := by decide +kernel
theorem dX12_readLoop_28 : decode cX12_readLoop 28 = .ok (.if_icmp .eq 9, 3) := by decide +kernel
theorem dX12_readLoop_31 : decode cX12_readLoop 31 = .ok (.aload_n 0, 1) := by decide +kernel
theorem dX12_readLoop_32 : decode cX12_readLoop 32 = .ok (.iconst 1, 1) := by decide +kernel
theorem dX12_readLoop_33 : decode cX12_readLoop 33 = .ok (.invokevirtual 176, 3) := by decide +kernel
theorem dX12_readLoop_36 : decode cX12_readLoop 36 = .ok (.ireturn, 1) := by decide +kernel
theorem dX12_readLoop_37 : decode cX12_readLoop 37 = .ok (.aload_n 0, 1) := by decide +kernel
theorem dX12_readLoop_38 : decode cX12_readLoop 38 = .ok (.getfield 160, 3) := by decide +kernel
theorem dX12_readLoop_41 : decode cX12_readLoop 41 = .ok (.aload_n 0, 1) := by decide +kernel
theorem dX12_readLoop_42 : decode cX12_readLoop 42 = .ok (.getfield 37, 3) := by decide +kernel
theorem dX12_readLoop_45 : decode cX12_readLoop 45 = .ok (.iconst 0, 1) := by decide +kernel
theorem dX12_readLoop_46 : decode cX12_readLoop 46 = .ok (.iaload, 1) := by decide +kernel
theorem dX12_readLoop_47 : decode cX12_readLoop 47 = .ok (.if_icmp .lt 9, 3) := by decide +kernel
theorem dX12_readLoop_50 : decode cX12_readLoop 50 = .ok (.aload_n 0, 1) := by decide +kernel
theorem dX12_readLoop_51 : decode cX12_readLoop 51 = .ok (.iconst 2, 1) := by decide +kernel
theorem dX12_readLoop_52 : decode cX12_readLoop 52 = .ok (.invokevirtual 176, 3) := by decide +kernel
theorem dX12_readLoop_55 : decode cX12_readLoop 55 = .ok (.ireturn, 1) := by decide +kernel
theorem dX12_readLoop_56 : decode cX12_readLoop 56 = .ok (.iconst 0, 1) := by decide +kernel
theorem dX12_readLoop_57 : decode cX12_readLoop 57 = .ok (.istore_n 2, 1) := by decide +kernel
theorem dX12_readLoop_58 : decode cX12_readLoop 58 = .ok (.iload_n 2, 1) := by decide +kernel
theorem dX12_readLoop_59 : decode cX12_readLoop 59 = .ok (.iload_n 1, 1) := by decide +kernel
theorem dX12_readLoop_60 : decode cX12_readLoop 60 = .ok (.if_icmp .ge 34, 3) := by decide +kernel
theorem dX12_readLoop_63 : decode cX12_readLoop 63 = .ok (.aload_n 0, 1) := by decide +kernel
theorem dX12_readLoop_64 : decode cX12_readLoop 64 = .ok (.getfield 37, 3) := by decide +kernel
theorem dX12_readLoop_67 : decode cX12_readLoop 67 = .ok (.sipush 441, 3) := by decide +kernel
theorem dX12_readLoop_70 : decode cX12_readLoop 70 = .ok (.iconst 2, 1) := by decide +kernel
theorem dX12_readLoop_71 : decode cX12_readLoop 71 = .ok (.iload_n 2, 1) := by decide +kernel
theorem dX12_readLoop_72 : decode cX12_readLoop 72 = .ok (.imul, 1) := by decide +kernel
theorem dX12_readLoop_73 : decode cX12_readLoop 73 = .ok (.iadd, 1) := by decide +kernel
theorem dX12_readLoop_74 : decode cX12_readLoop 74 = .ok (.iaload, 1) := by decide +kernel
theorem dX12_readLoop_75 : decode cX12_readLoop 75 = .ok (.aload_n 0, 1) := by decide +kernel
theorem dX12_readLoop_76 : decode cX12_readLoop 76 = .ok (.getfield 160, 3) := by decide +kernel
theorem dX12_readLoop_79 : decode cX12_readLoop 79 = .ok (.if_icmp .ne 9, 3) := by decide +kernel
theorem dX12_readLoop_82 : decode cX12_readLoop 82 = .ok (.aload_n 0, 1) := by decide +kernel
theorem dX12_readLoop_83 : decode cX12_readLoop 83 = .ok (.iconst 3, 1) := by decide +kernel
theorem dX12_readLoop_84 : decode cX12_readLoop 84 = .ok (.invokevirtual 176, 3) := by decide +kernel
theorem dX12_readLoop_87 : decode cX12_readLoop 87 = .ok (.ireturn, 1) := by decide +kernel
theorem dX12_readLoop_88 : decode cX12_readLoop 88 = .ok (.iinc 2 1, 3) := by decide +kernel
theorem dX12_readLoop_91 : decode cX12_readLoop 91 = .ok (.goto (-33), 3) := by decide +kernel
theorem dX12_readLoop_94 : decode cX12_readLoop 94 = .ok (.aload_n 0, 1) := by decide +kernel
theorem dX12_readLoop_95 : decode cX12_readLoop 95 = .ok (.getfield 37, 3) := by decide +kernel
theorem dX12_readLoop_98 : decode cX12_readLoop 98 = .ok (.sipush 441, 3) := by decide +kernel
theorem dX12_readLoop_101 : decode cX12_readLoop 101 = .ok (.iconst 2, 1) := by decide +kernel
theorem dX12_readLoop_102 : decode cX12_readLoop 102 = .ok (.iload_n 1, 1) := by decide +kernel
theorem dX12_readLoop_103 : decode cX12_readLoop 103 = .ok (.imul, 1) := by decide +kernel
theorem dX12_readLoop_104 : decode cX12_readLoop 104 = .ok (.iadd, 1) := by decide +kernel
theorem dX12_readLoop_105 : decode cX12_readLoop 105 = .ok (.aload_n 0, 1) := by decide +kernel
theorem dX12_readLoop_106 : decode cX12_readLoop 106 = .ok (.getfield 160, 3) := by decide +kernel
theorem dX12_readLoop_109 : decode cX12_readLoop 109 = .ok (.iastore, 1) := by decide +kernel
theorem dX12_readLoop_110 : decode cX12_readLoop 110 = .ok (.aload_n 0, 1) := by decide +kernel
theorem dX12_readLoop_111 : decode cX12_readLoop 111 = .ok (.invokevirtual 179, 3) := by decide +kernel
theorem dX12_readLoop_114 : decode cX12_readLoop 114 = .ok (.aload_n 0, 1) := by decide +kernel
theorem dX12_readLoop_115 : decode cX12_readLoop 115 = .ok (.iconst 1, 1) := by decide +kernel
theorem dX12_readLoop_116 : decode cX12_readLoop 116 = .ok (.bipush 99, 2) := by decide +kernel
theorem dX12_readLoop_118 : decode cX12_readLoop 118 = .ok (.invokevirtual 216, 3) := by decide +kernel
theorem dX12_readLoop_121 : decode cX12_readLoop 121 = .ok (.ifCond .ne 5, 3) := by decide +kernel
theorem dX12_readLoop_124 : decode cX12_readLoop 124 = .ok (.iconst 0, 1) := by decide +kernel
theorem dX12_readLoop_125 : decode cX12_readLoop 125 = .ok (.ireturn, 1) := by decide +kernel
theorem dX12_readLoop_126 : decode cX12_readLoop 126 = .ok (.aload_n 0, 1) := by decide +kernel
theorem dX12_readLoop_127 : decode cX12_readLoop 127 = .ok (.getfield 37, 3) := by decide +kernel
theorem dX12_readLoop_130 : decode cX12_readLoop 130 = .ok (.sipush 441, 3) := by decide +kernel
theorem dX12_readLoop_133 : decode cX12_readLoop 133 = .ok (.iconst 2, 1) := by decide +kernel
theorem dX12_readLoop_134 : decode cX12_readLoop 134 = .ok (.iload_n 1, 1) := by decide +kernel
theorem dX12_readLoop_135 : decode cX12_readLoop 135 = .ok (.imul, 1) := by decide +kernel
theorem dX12_readLoop_136 : decode cX12_readLoop 136 = .ok (.iadd, 1) := by decide +kernel
theorem dX12_readLoop_137 : decode cX12_readLoop 137 = .ok (.iconst 1, 1) := by decide +kernel
theorem dX12_readLoop_138 : decode cX12_readLoop 138 = .ok (.iadd, 1) := by decide +kernel
theorem dX12_readLoop_139 : decode cX12_readLoop 139 = .ok (.aload_n 0, 1) := by decide +kernel
theorem dX12_readLoop_140 : decode cX12_readLoop 140 = .ok (.getfield 186, 3) := by decide +kernel
theorem dX12_readLoop_143 : decode cX12_readLoop 143 = .ok (.iastore, 1) := by decide +kernel
theorem dX12_readLoop_144 : decode cX12_readLoop 144 = .ok (.aload_n 0, 1) := by decide +kernel
theorem dX12_readLoop_145 : decode cX12_readLoop 145 = .ok (.getfield 37, 3) := by decide +kernel
theorem dX12_readLoop_148 : decode cX12_readLoop 148 = .ok (.iconst 2, 1) := by decide +kernel
theorem dX12_readLoop_149 : decode cX12_readLoop 149 = .ok (.dup2, 1) := by decide +kernel
theorem dX12_readLoop_150 : decode cX12_readLoop 150 = .ok (.iaload, 1) := by decide +kernel
theorem dX12_readLoop_151 : decode cX12_readLoop 151 = .ok (.iconst 1, 1) := by decide +kernel
theorem dX12_readLoop_152 : decode cX12_readLoop 152 = .ok (.iadd, 1) := by decide +kernel
theorem dX12_readLoop_153 : decode cX12_readLoop 153 = .ok (.iastore, 1) := by decide +kernel
theorem dX12_readLoop_154 : decode cX12_readLoop 154 = .ok (.iconst 1, 1) := by decide +kernel
theorem dX12_readLoop_155 : decode cX12_readLoop 155 = .ok (.ireturn, 1) := by decide +kernel
theorem dX12_readKind_0 : decode cX12_readKind 0 = .ok (.aload_n 0, 1) := by decide +kernel
theorem dX12_readKind_1 : decode cX12_readKind 1 = .ok (.getfield 37, 3) := by decide +kernel
theorem dX12_readKind_4 : decode cX12_readKind 4 = .ok (.iconst 3, 1) := by decide +kernel
theorem dX12_readKind_5 : decode cX12_readKind 5 = .ok (.iaload, 1) := by decide +kernel
theorem dX12_readKind_6 : decode cX12_readKind 6 = .ok (.istore_n 1, 1) := by decide +kernel
theorem dX12_readKind_7 : decode cX12_readKind 7 = .ok (.iload_n 1, 1) := by decide +kernel
theorem dX12_readKind_8 : decode cX12_readKind 8 = .ok (.bipush 6, 2) := by decide +kernel
theorem dX12_readKind_10 : decode cX12_readKind 10 = .ok (.if_icmp .ne 9, 3) := by decide +kernel
theorem dX12_readKind_13 : decode cX12_readKind 13 = .ok (.aload_n 0, 1) := by decide +kernel
theorem dX12_readKind_14 : decode cX12_readKind 14 = .ok (.iconst 4, 1) := by decide +kernel
theorem dX12_readKind_15 : decode cX12_readKind 15 = .ok (.invokevirtual 176, 3) := by decide +kernel
theorem dX12_readKind_18 : decode cX12_readKind 18 = .ok (.ireturn, 1) := by decide +kernel
theorem dX12_readKind_19 : decode cX12_readKind 19 = .ok (.aload_n 0, 1) := by decide +kernel
theorem dX12_readKind_20 : decode cX12_readKind 20 = .ok (.invokevirtual 179, 3) := by decide +kernel
theorem dX12_readKind_23 : decode cX12_readKind 23 = .ok (.aload_n 0, 1) := by decide +kernel
theorem dX12_readKind_24 : decode cX12_readKind 24 = .ok (.bipush 26, 2) := by decide +kernel
theorem dX12_readKind_26 : decode cX12_readKind 26 = .ok (.iload_n 1, 1) := by decide +kernel
theorem dX12_readKind_27 : decode cX12_readKind 27 = .ok (.iadd, 1) := by decide +kernel
theorem dX12_readKind_28 : decode cX12_readKind 28 = .ok (.invokevirtual 235, 3) := by decide +kernel
theorem dX12_readKind_31 : decode cX12_readKind 31 = .ok (.ifCond .ne 5, 3) := by decide +kernel
theorem dX12_readKind_34 : decode cX12_readKind 34 = .ok (.iconst 0, 1) := by decide +kernel
theorem dX12_readKind_35 : decode cX12_readKind 35 = .ok (.ireturn, 1) := by decide +kernel
theorem dX12_readKind_36 : decode cX12_readKind 36 = .ok (.aload_n 0, 1) := by decide +kernel
theorem dX12_readKind_37 : decode cX12_readKind 37 = .ok (.iconst 1, 1) := by decide +kernel
theorem dX12_readKind_38 : decode cX12_readKind 38 = .ok (.bipush 9, 2) := by decide +kernel
theorem dX12_readKind_40 : decode cX12_readKind 40 = .ok (.invokevirtual 216, 3) := by decide +kernel
theorem dX12_readKind_43 : decode cX12_readKind 43 = .ok (.ifCond .ne 5, 3) := by decide +kernel
theorem dX12_readKind_46 : decode cX12_readKind 46 = .ok (.iconst 0, 1) := by decide +kernel
theorem dX12_readKind_47 : decode cX12_readKind 47 = .ok (.ireturn, 1) := by decide +kernel
theorem dX12_readKind_48 : decode cX12_readKind 48 = .ok (.aload_n 0, 1) := by decide +kernel
theorem dX12_readKind_49 : decode cX12_readKind 49 = .ok (.getfield 37, 3) := by decide +kernel
theorem dX12_readKind_52 : decode cX12_readKind 52 = .ok (.sipush 457, 3) := by decide +kernel
theorem dX12_readKind_55 : decode cX12_readKind 55 = .ok (.iconst 3, 1) := by decide +kernel
theorem dX12_readKind_56 : decode cX12_readKind 56 = .ok (.iload_n 1, 1) := by decide +kernel
theorem dX12_readKind_57 : decode cX12_readKind 57 = .ok (.imul, 1) := by decide +kernel
theorem dX12_readKind_58 : decode cX12_readKind 58 = .ok (.iadd, 1) := by decide +kernel
theorem dX12_readKind_59 : decode cX12_readKind 59 = .ok (.aload_n 0, 1) := by decide +kernel
theorem dX12_readKind_60 : decode cX12_readKind 60 = .ok (.getfield 186, 3) := by decide +kernel
theorem dX12_readKind_63 : decode cX12_readKind 63 = .ok (.iastore, 1) := by decide +kernel
theorem dX12_readKind_64 : decode cX12_readKind 64 = .ok (.aload_n 0, 1) := by decide +kernel
theorem dX12_readKind_65 : decode cX12_readKind 65 = .ok (.iconst 1, 1) := by decide +kernel
theorem dX12_readKind_66 : decode cX12_readKind 66 = .ok (.bipush 99, 2) := by decide +kernel
theorem dX12_readKind_68 : decode cX12_readKind 68 = .ok (.invokevirtual 216, 3) := by decide +kernel
theorem dX12_readKind_71 : decode cX12_readKind 71 = .ok (.ifCond .ne 5, 3) := by decide +kernel
theorem dX12_readKind_74 : decode cX12_readKind 74 = .ok (.iconst 0, 1) := by decide +kernel
theorem dX12_readKind_75 : decode cX12_readKind 75 = .ok (.ireturn, 1) := by decide +kernel
theorem dX12_readKind_76 : decode cX12_readKind 76 = .ok (.aload_n 0, 1) := by decide +kernel
theorem dX12_readKind_77 : decode cX12_readKind 77 = .ok (.getfield 37, 3) := by decide +kernel
theorem dX12_readKind_80 : decode cX12_readKind 80 = .ok (.sipush 457, 3) := by decide +kernel
theorem dX12_readKind_83 : decode cX12_readKind 83 = .ok (.iconst 3, 1) := by decide +kernel
theorem dX12_readKind_84 : decode cX12_readKind 84 = .ok (.iload_n 1, 1) := by decide +kernel
theorem dX12_readKind_85 : decode cX12_readKind 85 = .ok (.imul, 1) := by decide +kernel
theorem dX12_readKind_86 : decode cX12_readKind 86 = .ok (.iadd, 1) := by decide +kernel
theorem dX12_readKind_87 : decode cX12_readKind 87 = .ok (.iconst 1, 1) := by decide +kernel
theorem dX12_readKind_88 : decode cX12_readKind 88 = .ok (.iadd, 1) := by decide +kernel
theorem dX12_readKind_89 : decode cX12_readKind 89 = .ok (.aload_n 0, 1) := by decide +kernel
theorem dX12_readKind_90 : decode cX12_readKind 90 = .ok (.getfield 186, 3) := by decide +kernel
theorem dX12_readKind_93 : decode cX12_readKind 93 = .ok (.iastore, 1) := by decide +kernel
theorem dX12_readKind_94 : decode cX12_readKind 94 = .ok (.aload_n 0, 1) := by decide +kernel
theorem dX12_readKind_95 : decode cX12_readKind 95 = .ok (.iconst 1, 1) := by decide +kernel
theorem dX12_readKind_96 : decode cX12_readKind 96 = .ok (.sipush 999, 3) := by decide +kernel
theorem dX12_readKind_99 : decode cX12_readKind 99 = .ok (.invokevirtual 216, 3) := by decide +kernel
theorem dX12_readKind_102 : decode cX12_readKind 102 = .ok (.ifCond .ne 5, 3) := by decide +kernel
theorem dX12_readKind_105 : decode cX12_readKind 105 = .ok (.iconst 0, 1) := by decide +kernel
theorem dX12_readKind_106 : decode cX12_readKind 106 = .ok (.ireturn, 1) := by decide +kernel
theorem dX12_readKind_107 : decode cX12_readKind 107 = .ok (.aload_n 0, 1) := by decide +kernel
theorem dX12_readKind_108 : decode cX12_readKind 108 = .ok (.getfield 37, 3) := by decide +kernel
theorem dX12_readKind_111 : decode cX12_readKind 111 = .ok (.sipush 457, 3) := by decide +kernel
theorem dX12_readKind_114 : decode cX12_readKind 114 = .ok (.iconst 3, 1) := by decide +kernel
theorem dX12_readKind_115 : decode cX12_readKind 115 = .ok (.iload_n 1, 1) := by decide +kernel
theorem dX12_readKind_116 : decode cX12_readKind 116 = .ok (.imul, 1) := by decide +kernel
theorem dX12_readKind_117 : decode cX12_readKind 117 = .ok (.iadd, 1) := by decide +kernel
theorem dX12_readKind_118 : decode cX12_readKind 118 = .ok (.iconst 2, 1) := by decide +kernel
theorem dX12_readKind_119 : decode cX12_readKind 119 = .ok (.iadd, 1) := by decide +kernel
theorem dX12_readKind_120 : decode cX12_readKind 120 = .ok (.aload_n 0, 1) := by decide +kernel
theorem dX12_readKind_121 : decode cX12_readKind 121 = .ok (.getfield 186, 3) := by decide +kernel
theorem dX12_readKind_124 : decode cX12_readKind 124 = .ok (.iastore, 1) := by decide +kernel
theorem dX12_readKind_125 : decode cX12_readKind 125 = .ok (.aload_n 0, 1) := by decide +kernel
theorem dX12_readKind_126 : decode cX12_readKind 126 = .ok (.getfield 37, 3) := by decide +kernel
theorem dX12_readKind_129 : decode cX12_readKind 129 = .ok (.iconst 3, 1) := by decide +kernel
theorem dX12_readKind_130 : decode cX12_readKind 130 = .ok (.dup2, 1) := by decide +kernel
theorem dX12_readKind_131 : decode cX12_readKind 131 = .ok (.iaload, 1) := by decide +kernel
theorem dX12_readKind_132 : decode cX12_readKind 132 = .ok (.iconst 1, 1) := by decide +kernel
theorem dX12_readKind_133 : decode cX12_readKind 133 = .ok (.iadd, 1) := by decide +kernel
theorem dX12_readKind_134 : decode cX12_readKind 134 = .ok (.iastore, 1) := by decide +kernel
theorem dX12_readKind_135 : decode cX12_readKind 135 = .ok (.iconst 1, 1) := by decide +kernel
theorem dX12_readKind_136 : decode cX12_readKind 136 = .ok (.ireturn, 1) := by decide +kernel
theorem dX12_readTrain_0 : decode cX12_readTrain 0 = .ok (.aload_n 0, 1) := by decide +kernel
theorem dX12_readTrain_1 : decode cX12_readTrain 1 = .ok (.invokevirtual 189, 3) := by decide +kernel
theorem dX12_readTrain_4 : decode cX12_readTrain 4 = .ok (.ifCond .ne 9, 3) := by decide +kernel
theorem dX12_readTrain_7 : decode cX12_readTrain 7 = .ok (.aload_n 0, 1) := by decide +kernel
theorem dX12_readTrain_8 : decode cX12_readTrain 8 = .ok (.iconst 1, 1) := by decide +kernel
theorem dX12_readTrain_9 : decode cX12_readTrain 9 = .ok (.invokevirtual 176, 3) := by decide +kernel
theorem dX12_readTrain_12 : decode cX12_readTrain 12 = .ok (.ireturn, 1) := by decide +kernel
theorem dX12_readTrain_13 : decode cX12_readTrain 13 = .ok (.aload_n 0, 1) := by decide +kernel
theorem dX12_readTrain_14 : decode cX12_readTrain 14 = .ok (.bipush 26, 2) := by decide +kernel
theorem dX12_readTrain_16 : decode cX12_readTrain 16 = .ok (.aload_n 0, 1) := by decide +kernel
theorem dX12_readTrain_17 : decode cX12_readTrain 17 = .ok (.getfield 37, 3) := by decide +kernel
theorem dX12_readTrain_20 : decode cX12_readTrain 20 = .ok (.iconst 3, 1) := by decide +kernel
theorem dX12_readTrain_21 : decode cX12_readTrain 21 = .ok (.iaload, 1) := by decide +kernel
theorem dX12_readTrain_22 : decode cX12_readTrain 22 = .ok (.invokevirtual 193, 3) := by decide +kernel
theorem dX12_readTrain_25 : decode cX12_readTrain 25 = .ok (.istore_n 1, 1) := by decide +kernel
theorem dX12_readTrain_26 : decode cX12_readTrain 26 = .ok (.iload_n 1, 1) := by decide +kernel
theorem dX12_readTrain_27 : decode cX12_readTrain 27 = .ok (.ifCond .ge 9, 3) := by decide +kernel
theorem dX12_readTrain_30 : decode cX12_readTrain 30 = .ok (.aload_n 0, 1) := by decide +kernel
theorem dX12_readTrain_31 : decode cX12_readTrain 31 = .ok (.iconst 3, 1) := by decide +kernel
theorem dX12_readTrain_32 : decode cX12_readTrain 32 = .ok (.invokevirtual 176, 3) := by decide +kernel
theorem dX12_readTrain_35 : decode cX12_readTrain 35 = .ok (.ireturn, 1) := by decide +kernel
theorem dX12_readTrain_36 : decode cX12_readTrain 36 = .ok (.aload_n 0, 1) := by decide +kernel
theorem dX12_readTrain_37 : decode cX12_readTrain 37 = .ok (.getfield 37, 3) := by decide +kernel
theorem dX12_readTrain_40 : decode cX12_readTrain 40 = .ok (.bipush 10, 2) := by decide +kernel
theorem dX12_readTrain_42 : decode cX12_readTrain 42 = .ok (.iaload, 1) := by decide +kernel
theorem dX12_readTrain_43 : decode cX12_readTrain 43 = .ok (.bipush 8, 2) := by decide +kernel
theorem dX12_readTrain_45 : decode cX12_readTrain 45 = .ok (.if_icmp .ne 9, 3) := by decide +kernel
theorem dX12_readTrain_48 : decode cX12_readTrain 48 = .ok (.aload_n 0, 1) := by decide +kernel
theorem dX12_readTrain_49 : decode cX12_readTrain 49 = .ok (.iconst 4, 1) := by decide +kernel
theorem dX12_readTrain_50 : decode cX12_readTrain 50 = .ok (.invokevirtual 176, 3) := by decide +kernel
theorem dX12_readTrain_53 : decode cX12_readTrain 53 = .ok (.ireturn, 1) := by decide +kernel
theorem dX12_readTrain_54 : decode cX12_readTrain 54 = .ok (.aload_n 0, 1) := by decide +kernel
theorem dX12_readTrain_55 : decode cX12_readTrain 55 = .ok (.getfield 37, 3) := by decide +kernel
theorem dX12_readTrain_58 : decode cX12_readTrain 58 = .ok (.sipush 475, 3) := by decide +kernel
theorem dX12_readTrain_61 : decode cX12_readTrain 61 = .ok (.aload_n 0, 1) := by decide +kernel
theorem dX12_readTrain_62 : decode cX12_readTrain 62 = .ok (.getfield 37, 3) := by decide +kernel
theorem dX12_readTrain_65 : decode cX12_readTrain 65 = .ok (.bipush 10, 2) := by decide +kernel
theorem dX12_readTrain_67 : decode cX12_readTrain 67 = .ok (.iaload, 1) := by decide +kernel
theorem dX12_readTrain_68 : decode cX12_readTrain 68 = .ok (.iadd, 1) := by decide +kernel
theorem dX12_readTrain_69 : decode cX12_readTrain 69 = .ok (.iload_n 1, 1) := by decide +kernel
theorem dX12_readTrain_70 : decode cX12_readTrain 70 = .ok (.iastore, 1) := by decide +kernel
theorem dX12_readTrain_71 : decode cX12_readTrain 71 = .ok (.aload_n 0, 1) := by decide +kernel
theorem dX12_readTrain_72 : decode cX12_readTrain 72 = .ok (.getfield 37, 3) := by decide +kernel
theorem dX12_readTrain_75 : decode cX12_readTrain 75 = .ok (.bipush 10, 2) := by decide +kernel
theorem dX12_readTrain_77 : decode cX12_readTrain 77 = .ok (.dup2, 1) := by decide +kernel
theorem dX12_readTrain_78 : decode cX12_readTrain 78 = .ok (.iaload, 1) := by decide +kernel
theorem dX12_readTrain_79 : decode cX12_readTrain 79 = .ok (.iconst 1, 1) := by decide +kernel
theorem dX12_readTrain_80 : decode cX12_readTrain 80 = .ok (.iadd, 1) := by decide +kernel
theorem dX12_readTrain_81 : decode cX12_readTrain 81 = .ok (.iastore, 1) := by decide +kernel
theorem dX12_readTrain_82 : decode cX12_readTrain 82 = .ok (.aload_n 0, 1) := by decide +kernel
theorem dX12_readTrain_83 : decode cX12_readTrain 83 = .ok (.invokevirtual 179, 3) := by decide +kernel
theorem dX12_readTrain_86 : decode cX12_readTrain 86 = .ok (.aload_n 0, 1) := by decide +kernel
theorem dX12_readTrain_87 : decode cX12_readTrain 87 = .ok (.bipush 59, 2) := by decide +kernel
theorem dX12_readTrain_89 : decode cX12_readTrain 89 = .ok (.invokevirtual 173, 3) := by decide +kernel
theorem dX12_readTrain_92 : decode cX12_readTrain 92 = .ok (.ifCond .eq 5, 3) := by decide +kernel
theorem dX12_readTrain_95 : decode cX12_readTrain 95 = .ok (.iconst 1, 1) := by decide +kernel
theorem dX12_readTrain_96 : decode cX12_readTrain 96 = .ok (.ireturn, 1) := by decide +kernel
theorem dX12_readTrain_97 : decode cX12_readTrain 97 = .ok (.goto (-97), 3) := by decide +kernel
theorem dX12_line_0 : decode cX12_line 0 = .ok (.aload_n 0, 1) := by decide +kernel
theorem dX12_line_1 : decode cX12_line 1 = .ok (.iconst 0, 1) := by decide +kernel
theorem dX12_line_2 : decode cX12_line 2 = .ok (.putfield 1, 3) := by decide +kernel
theorem dX12_line_5 : decode cX12_line 5 = .ok (.aload_n 0, 1) := by decide +kernel
theorem dX12_line_6 : decode cX12_line 6 = .ok (.sipush 900, 3) := by decide +kernel
theorem dX12_line_9 : decode cX12_line 9 = .ok (.invokevirtual 238, 3) := by decide +kernel
theorem dX12_line_12 : decode cX12_line 12 = .ok (.aload_n 0, 1) := by decide +kernel
theorem dX12_line_13 : decode cX12_line 13 = .ok (.iconst 0, 1) := by decide +kernel
theorem dX12_line_14 : decode cX12_line 14 = .ok (.putfield 167, 3) := by decide +kernel
theorem dX12_line_17 : decode cX12_line 17 = .ok (.aload_n 0, 1) := by decide +kernel
theorem dX12_line_18 : decode cX12_line 18 = .ok (.iconst 0, 1) := by decide +kernel
theorem dX12_line_19 : decode cX12_line 19 = .ok (.putfield 241, 3) := by decide +kernel
theorem dX12_line_22 : decode cX12_line 22 = .ok (.aload_n 0, 1) := by decide +kernel
theorem dX12_line_23 : decode cX12_line 23 = .ok (.iconst 0, 1) := by decide +kernel
theorem dX12_line_24 : decode cX12_line 24 = .ok (.putfield 232, 3) := by decide +kernel
theorem dX12_line_27 : decode cX12_line 27 = .ok (.aload_n 0, 1) := by decide +kernel
theorem dX12_line_28 : decode cX12_line 28 = .ok (.iconst 0, 1) := by decide +kernel
theorem dX12_line_29 : decode cX12_line 29 = .ok (.putfield 226, 3) := by decide +kernel
theorem dX12_line_32 : decode cX12_line 32 = .ok (.aload_n 0, 1) := by decide +kernel
theorem dX12_line_33 : decode cX12_line 33 = .ok (.invokevirtual 137, 3) := by decide +kernel
theorem dX12_line_36 : decode cX12_line 36 = .ok (.aload_n 0, 1) := by decide +kernel
theorem dX12_line_37 : decode cX12_line 37 = .ok (.invokevirtual 179, 3) := by decide +kernel
theorem dX12_line_40 : decode cX12_line 40 = .ok (.aload_n 0, 1) := by decide +kernel
theorem dX12_line_41 : decode cX12_line 41 = .ok (.getfield 150, 3) := by decide +kernel
theorem dX12_line_44 : decode cX12_line 44 = .ok (.ifCond .eq 39, 3) := by decide +kernel
theorem dX12_line_47 : decode cX12_line 47 = .ok (.aload_n 0, 1) := by decide +kernel
theorem dX12_line_48 : decode cX12_line 48 = .ok (.invokevirtual 244, 3) := by decide +kernel
theorem dX12_line_51 : decode cX12_line 51 = .ok (.ifCond .eq 12, 3) := by decide +kernel
theorem dX12_line_54 : decode cX12_line 54 = .ok (.aload_n 0, 1) := by decide +kernel
theorem dX12_line_55 : decode cX12_line 55 = .ok (.bipush 59, 2) := by decide +kernel
theorem dX12_line_57 : decode cX12_line 57 = .ok (.invokevirtual 247, 3) := by decide +kernel
theorem dX12_line_60 : decode cX12_line 60 = .ok (.ifCond .ne 10, 3) := by decide +kernel
theorem dX12_line_63 : decode cX12_line 63 = .ok (.iconst (-1), 1) := by decide +kernel
theorem dX12_line_64 : decode cX12_line 64 = .ok (.aload_n 0, 1) := by decide +kernel
theorem dX12_line_65 : decode cX12_line 65 = .ok (.getfield 170, 3) := by decide +kernel
theorem dX12_line_68 : decode cX12_line 68 = .ok (.isub, 1) := by decide +kernel
theorem dX12_line_69 : decode cX12_line 69 = .ok (.ireturn, 1) := by decide +kernel
theorem dX12_line_70 : decode cX12_line 70 = .ok (.aload_n 0, 1) := by decide +kernel
theorem dX12_line_71 : decode cX12_line 71 = .ok (.dup, 1) := by decide +kernel
theorem dX12_line_72 : decode cX12_line 72 = .ok (.getfield 241, 3) := by decide +kernel
theorem dX12_line_75 : decode cX12_line 75 = .ok (.iconst 1, 1) := by decide +kernel
theorem dX12_line_76 : decode cX12_line 76 = .ok (.iadd, 1) := by decide +kernel
theorem dX12_line_77 : decode cX12_line 77 = .ok (.putfield 241, 3) := by decide +kernel
theorem dX12_line_80 : decode cX12_line 80 = .ok (.goto (-40), 3) := by decide +kernel
theorem dX12_line_83 : decode cX12_line 83 = .ok (.iconst 0, 1) := by decide +kernel
theorem dX12_line_84 : decode cX12_line 84 = .ok (.istore_n 1, 1) := by decide +kernel
theorem dX12_line_85 : decode cX12_line 85 = .ok (.iload_n 1, 1) := by decide +kernel
theorem dX12_line_86 : decode cX12_line 86 = .ok (.sipush 1068, 3) := by decide +kernel
theorem dX12_line_89 : decode cX12_line 89 = .ok (.if_icmp .ge 32, 3) := by decide +kernel
theorem dX12_line_92 : decode cX12_line 92 = .ok (.aload_n 0, 1) := by decide +kernel
theorem dX12_line_93 : decode cX12_line 93 = .ok (.getfield 33, 3) := by decide +kernel
theorem dX12_line_96 : decode cX12_line 96 = .ok (.iload_n 1, 1) := by decide +kernel
theorem dX12_line_97 : decode cX12_line 97 = .ok (.iload_n 1, 1) := by decide +kernel
theorem dX12_line_98 : decode cX12_line 98 = .ok (.sipush 483, 3) := by decide +kernel
theorem dX12_line_101 : decode cX12_line 101 = .ok (.if_icmp .ge 12, 3) := by decide +kernel
theorem dX12_line_104 : decode cX12_line 104 = .ok (.aload_n 0, 1) := by decide +kernel
theorem dX12_line_105 : decode cX12_line 105 = .ok (.getfield 37, 3) := by decide +kernel
theorem dX12_line_108 : decode cX12_line 108 = .ok (.iload_n 1, 1) := by decide +kernel
theorem dX12_line_109 : decode cX12_line 109 = .ok (.iaload, 1) := by decide +kernel
theorem dX12_line_110 : decode cX12_line 110 = .ok (.goto 4, 3) := by decide +kernel
theorem dX12_line_113 : decode cX12_line 113 = .ok (.iconst 0, 1) := by decide +kernel
theorem dX12_line_114 : decode cX12_line 114 = .ok (.iastore, 1) := by decide +kernel
theorem dX12_line_115 : decode cX12_line 115 = .ok (.iinc 1 1, 3) := by decide +kernel
theorem dX12_line_118 : decode cX12_line 118 = .ok (.goto (-33), 3) := by decide +kernel
theorem dX12_line_121 : decode cX12_line 121 = .ok (.iconst 0, 1) := by decide +kernel
theorem dX12_line_122 : decode cX12_line 122 = .ok (.istore_n 1, 1) := by decide +kernel
theorem dX12_line_123 : decode cX12_line 123 = .ok (.iload_n 1, 1) := by decide +kernel
theorem dX12_line_124 : decode cX12_line 124 = .ok (.bipush 16, 2) := by decide +kernel
theorem dX12_line_126 : decode cX12_line 126 = .ok (.if_icmp .ge 24, 3) := by decide +kernel
theorem dX12_line_129 : decode cX12_line 129 = .ok (.aload_n 0, 1) := by decide +kernel
theorem dX12_line_130 : decode cX12_line 130 = .ok (.getfield 43, 3) := by decide +kernel
theorem dX12_line_133 : decode cX12_line 133 = .ok (.iload_n 1, 1) := by decide +kernel
theorem dX12_line_134 : decode cX12_line 134 = .ok (.aload_n 0, 1) := by decide +kernel
theorem dX12_line_135 : decode cX12_line 135 = .ok (.getfield 43, 3) := by decide +kernel
theorem dX12_line_138 : decode cX12_line 138 = .ok (.bipush 16, 2) := by decide +kernel
theorem dX12_line_140 : decode cX12_line 140 = .ok (.iload_n 1, 1) := by decide +kernel
theorem dX12_line_141 : decode cX12_line 141 = .ok (.iadd, 1) := by decide +kernel
theorem dX12_line_142 : decode cX12_line 142 = .ok (.laload, 1) := by decide +kernel
theorem dX12_line_143 : decode cX12_line 143 = .ok (.lastore, 1) := by decide +kernel
theorem dX12_line_144 : decode cX12_line 144 = .ok (.iinc 1 1, 3) := by decide +kernel
theorem dX12_line_147 : decode cX12_line 147 = .ok (.goto (-24), 3) := by decide +kernel
theorem dX12_line_150 : decode cX12_line 150 = .ok (.aload_n 0, 1) := by decide +kernel
theorem dX12_line_151 : decode cX12_line 151 = .ok (.getfield 33, 3) := by decide +kernel
theorem dX12_line_154 : decode cX12_line 154 = .ok (.sipush 484, 3) := by decide +kernel
theorem dX12_line_157 : decode cX12_line 157 = .ok (.aload_n 0, 1) := by decide +kernel
theorem dX12_line_158 : decode cX12_line 158 = .ok (.getfield 33, 3) := by decide +kernel
theorem dX12_line_161 : decode cX12_line 161 = .ok (.bipush 10, 2) := by decide +kernel
theorem dX12_line_163 : decode cX12_line 163 = .ok (.iaload, 1) := by decide +kernel
theorem dX12_line_164 : decode cX12_line 164 = .ok (.iastore, 1) := by decide +kernel
theorem dX12_line_165 : decode cX12_line 165 = .ok (.iconst 0, 1) := by decide +kernel
theorem dX12_line_166 : decode cX12_line 166 = .ok (.istore_n 1, 1) := by decide +kernel
theorem dX12_line_167 : decode cX12_line 167 = .ok (.iload_n 1, 1) := by decide +kernel
theorem dX12_line_168 : decode cX12_line 168 = .ok (.aload_n 0, 1) := by decide +kernel
theorem dX12_line_169 : decode cX12_line 169 = .ok (.getfield 33, 3) := by decide +kernel
theorem dX12_line_172 : decode cX12_line 172 = .ok (.bipush 10, 2) := by decide +kernel
theorem dX12_line_174 : decode cX12_line 174 = .ok (.iaload, 1) := by decide +kernel
theorem dX12_line_175 : decode cX12_line 175 = .ok (.if_icmp .ge 29, 3) := by decide +kernel
theorem dX12_line_178 : decode cX12_line 178 = .ok (.aload_n 0, 1) := by decide +kernel
theorem dX12_line_179 : decode cX12_line 179 = .ok (.getfield 33, 3) := by decide +kernel
theorem dX12_line_182 : decode cX12_line 182 = .ok (.sipush 495, 3) := by decide +kernel
theorem dX12_line_185 : decode cX12_line 185 = .ok (.iload_n 1, 1) := by decide +kernel
theorem dX12_line_186 : decode cX12_line 186 = .ok (.iadd, 1) := by decide +kernel
theorem dX12_line_187 : decode cX12_line 187 = .ok (.aload_n 0, 1) := by decide +kernel
theorem dX12_line_188 : decode cX12_line 188 = .ok (.getfield 33, 3) := by decide +kernel
theorem dX12_line_191 : decode cX12_line 191 = .ok (.sipush 475, 3) := by decide +kernel
theorem dX12_line_194 : decode cX12_line 194 = .ok (.iload_n 1, 1) := by decide +kernel
theorem dX12_line_195 : decode cX12_line 195 = .ok (.iadd, 1) := by decide +kernel
theorem dX12_line_196 : decode cX12_line 196 = .ok (.iaload, 1) := by decide +kernel
theorem dX12_line_197 : decode cX12_line 197 = .ok (.iastore, 1) := by decide +kernel
theorem dX12_line_198 : decode cX12_line 198 = .ok (.iinc 1 1, 3) := by decide +kernel
theorem dX12_line_201 : decode cX12_line 201 = .ok (.goto (-34), 3) := by decide +kernel
theorem dX12_line_204 : decode cX12_line 204 = .ok (.aload_n 0, 1) := by decide +kernel
theorem dX12_line_205 : decode cX12_line 205 = .ok (.getfield 241, 3) := by decide +kernel
theorem dX12_line_208 : decode cX12_line 208 = .ok (.ireturn, 1) := by decide +kernel
theorem dX12_fault_0 : decode cX12_fault 0 = .ok (.aload_n 0, 1) := by decide +kernel
theorem dX12_fault_1 : decode cX12_fault 1 = .ok (.iconst 0, 1) := by decide +kernel
theorem dX12_fault_2 : decode cX12_fault 2 = .ok (.putfield 1, 3) := by decide +kernel
theorem dX12_fault_5 : decode cX12_fault 5 = .ok (.aload_n 0, 1) := by decide +kernel
theorem dX12_fault_6 : decode cX12_fault 6 = .ok (.getfield 167, 3) := by decide +kernel
theorem dX12_fault_9 : decode cX12_fault 9 = .ok (.ireturn, 1) := by decide +kernel
theorem dX12_isHalt_0 : decode cX12_isHalt 0 = .ok (.iload_n 1, 1) := by decide +kernel
theorem dX12_isHalt_1 : decode cX12_isHalt 1 = .ok (.iconst 0, 1) := by decide +kernel
theorem dX12_isHalt_2 : decode cX12_isHalt 2 = .ok (.aload_n 0, 1) := by decide +kernel
theorem dX12_isHalt_3 : decode cX12_isHalt 3 = .ok (.getfield 33, 3) := by decide +kernel
theorem dX12_isHalt_6 : decode cX12_isHalt 6 = .ok (.iconst 1, 1) := by decide +kernel
theorem dX12_isHalt_7 : decode cX12_isHalt 7 = .ok (.iaload, 1) := by decide +kernel
theorem dX12_isHalt_8 : decode cX12_isHalt 8 = .ok (.iconst 1, 1) := by decide +kernel
theorem dX12_isHalt_9 : decode cX12_isHalt 9 = .ok (.isub, 1) := by decide +kernel
theorem dX12_isHalt_10 : decode cX12_isHalt 10 = .ok (.invokestatic 182, 3) := by decide +kernel
theorem dX12_isHalt_13 : decode cX12_isHalt 13 = .ok (.ireturn, 1) := by decide +kernel
theorem dX12_isKind_0 : decode cX12_isKind 0 = .ok (.iload_n 1, 1) := by decide +kernel
theorem dX12_isKind_1 : decode cX12_isKind 1 = .ok (.iconst 0, 1) := by decide +kernel
theorem dX12_isKind_2 : decode cX12_isKind 2 = .ok (.aload_n 0, 1) := by decide +kernel
theorem dX12_isKind_3 : decode cX12_isKind 3 = .ok (.getfield 33, 3) := by decide +kernel
theorem dX12_isKind_6 : decode cX12_isKind 6 = .ok (.iconst 3, 1) := by decide +kernel
theorem dX12_isKind_7 : decode cX12_isKind 7 = .ok (.iaload, 1) := by decide +kernel
theorem dX12_isKind_8 : decode cX12_isKind 8 = .ok (.iconst 1, 1) := by decide +kernel
theorem dX12_isKind_9 : decode cX12_isKind 9 = .ok (.isub, 1) := by decide +kernel
theorem dX12_isKind_10 : decode cX12_isKind 10 = .ok (.invokestatic 182, 3) := by decide +kernel
theorem dX12_isKind_13 : decode cX12_isKind 13 = .ok (.ireturn, 1) := by decide +kernel
theorem dX12_isUnit_0 : decode cX12_isUnit 0 = .ok (.iload_n 1, 1) := by decide +kernel
theorem dX12_isUnit_1 : decode cX12_isUnit 1 = .ok (.iconst 0, 1) := by decide +kernel
theorem dX12_isUnit_2 : decode cX12_isUnit 2 = .ok (.aload_n 0, 1) := by decide +kernel
theorem dX12_isUnit_3 : decode cX12_isUnit 3 = .ok (.getfield 33, 3) := by decide +kernel
theorem dX12_isUnit_6 : decode cX12_isUnit 6 = .ok (.iconst 0, 1) := by decide +kernel
theorem dX12_isUnit_7 : decode cX12_isUnit 7 = .ok (.iaload, 1) := by decide +kernel
theorem dX12_isUnit_8 : decode cX12_isUnit 8 = .ok (.iconst 1, 1) := by decide +kernel
theorem dX12_isUnit_9 : decode cX12_isUnit 9 = .ok (.isub, 1) := by decide +kernel
theorem dX12_isUnit_10 : decode cX12_isUnit 10 = .ok (.invokestatic 182, 3) := by decide +kernel
theorem dX12_isUnit_13 : decode cX12_isUnit 13 = .ok (.ireturn, 1) := by decide +kernel
theorem dX12_gradeOf_0 : decode cX12_gradeOf 0 = .ok (.iload_n 1, 1) := by decide +kernel
theorem dX12_gradeOf_1 : decode cX12_gradeOf 1 = .ok (.ifCond .ge 7, 3) := by decide +kernel
theorem dX12_gradeOf_4 : decode cX12_gradeOf 4 = .ok (.iconst 0, 1) := by decide +kernel
theorem dX12_gradeOf_5 : decode cX12_gradeOf 5 = .ok (.goto 12, 3) := by decide +kernel
theorem dX12_gradeOf_8 : decode cX12_gradeOf 8 = .ok (.aload_n 0, 1) := by decide +kernel
theorem dX12_gradeOf_9 : decode cX12_gradeOf 9 = .ok (.getfield 33, 3) := by decide +kernel
theorem dX12_gradeOf_12 : decode cX12_gradeOf 12 = .ok (.bipush 11, 2) := by decide +kernel
theorem dX12_gradeOf_14 : decode cX12_gradeOf 14 = .ok (.iload_n 1, 1) := by decide +kernel
theorem dX12_gradeOf_15 : decode cX12_gradeOf 15 = .ok (.iadd, 1) := by decide +kernel
theorem dX12_gradeOf_16 : decode cX12_gradeOf 16 = .ok (.iaload, 1) := by decide +kernel
theorem dX12_gradeOf_17 : decode cX12_gradeOf 17 = .ok (.ireturn, 1) := by decide +kernel
theorem dX12_longOf_0 : decode cX12_longOf 0 = .ok (.aload_n 0, 1) := by decide +kernel
theorem dX12_longOf_1 : decode cX12_longOf 1 = .ok (.getfield 33, 3) := by decide +kernel
theorem dX12_longOf_4 : decode cX12_longOf 4 = .ok (.sipush 457, 3) := by decide +kernel
theorem dX12_longOf_7 : decode cX12_longOf 7 = .ok (.iconst 3, 1) := by decide +kernel
theorem dX12_longOf_8 : decode cX12_longOf 8 = .ok (.iload_n 1, 1) := by decide +kernel
theorem dX12_longOf_9 : decode cX12_longOf 9 = .ok (.imul, 1) := by decide +kernel
theorem dX12_longOf_10 : decode cX12_longOf 10 = .ok (.iadd, 1) := by decide +kernel
theorem dX12_longOf_11 : decode cX12_longOf 11 = .ok (.iaload, 1) := by decide +kernel
theorem dX12_longOf_12 : decode cX12_longOf 12 = .ok (.ireturn, 1) := by decide +kernel
theorem dX12_weightOf_0 : decode cX12_weightOf 0 = .ok (.aload_n 0, 1) := by decide +kernel
theorem dX12_weightOf_1 : decode cX12_weightOf 1 = .ok (.getfield 33, 3) := by decide +kernel
theorem dX12_weightOf_4 : decode cX12_weightOf 4 = .ok (.sipush 457, 3) := by decide +kernel
theorem dX12_weightOf_7 : decode cX12_weightOf 7 = .ok (.iconst 3, 1) := by decide +kernel
theorem dX12_weightOf_8 : decode cX12_weightOf 8 = .ok (.iload_n 1, 1) := by decide +kernel
theorem dX12_weightOf_9 : decode cX12_weightOf 9 = .ok (.imul, 1) := by decide +kernel
theorem dX12_weightOf_10 : decode cX12_weightOf 10 = .ok (.iadd, 1) := by decide +kernel
theorem dX12_weightOf_11 : decode cX12_weightOf 11 = .ok (.iconst 1, 1) := by decide +kernel
theorem dX12_weightOf_12 : decode cX12_weightOf 12 = .ok (.iadd, 1) := by decide +kernel
theorem dX12_weightOf_13 : decode cX12_weightOf 13 = .ok (.iaload, 1) := by decide +kernel
theorem dX12_weightOf_14 : decode cX12_weightOf 14 = .ok (.ireturn, 1) := by decide +kernel
theorem dX12_strengthOf_0 : decode cX12_strengthOf 0 = .ok (.aload_n 0, 1) := by decide +kernel
theorem dX12_strengthOf_1 : decode cX12_strengthOf 1 = .ok (.getfield 33, 3) := by decide +kernel
theorem dX12_strengthOf_4 : decode cX12_strengthOf 4 = .ok (.sipush 457, 3) := by decide +kernel
theorem dX12_strengthOf_7 : decode cX12_strengthOf 7 = .ok (.iconst 3, 1) := by decide +kernel
theorem dX12_strengthOf_8 : decode cX12_strengthOf 8 = .ok (.iload_n 1, 1) := by decide +kernel
theorem dX12_strengthOf_9 : decode cX12_strengthOf 9 = .ok (.imul, 1) := by decide +kernel
theorem dX12_strengthOf_10 : decode cX12_strengthOf 10 = .ok (.iadd, 1) := by decide +kernel
theorem dX12_strengthOf_11 : decode cX12_strengthOf 11 = .ok (.iconst 2, 1) := by decide +kernel
theorem dX12_strengthOf_12 : decode cX12_strengthOf 12 = .ok (.iadd, 1) := by decide +kernel
theorem dX12_strengthOf_13 : decode cX12_strengthOf 13 = .ok (.iaload, 1) := by decide +kernel
theorem dX12_strengthOf_14 : decode cX12_strengthOf 14 = .ok (.ireturn, 1) := by decide +kernel
theorem dX12_haltAt_0 : decode cX12_haltAt 0 = .ok (.aload_n 0, 1) := by decide +kernel
theorem dX12_haltAt_1 : decode cX12_haltAt 1 = .ok (.getfield 33, 3) := by decide +kernel
theorem dX12_haltAt_4 : decode cX12_haltAt 4 = .ok (.sipush 411, 3) := by decide +kernel
theorem dX12_haltAt_7 : decode cX12_haltAt 7 = .ok (.iconst 3, 1) := by decide +kernel
theorem dX12_haltAt_8 : decode cX12_haltAt 8 = .ok (.iload_n 1, 1) := by decide +kernel
theorem dX12_haltAt_9 : decode cX12_haltAt 9 = .ok (.imul, 1) := by decide +kernel
theorem dX12_haltAt_10 : decode cX12_haltAt 10 = .ok (.iadd, 1) := by decide +kernel
theorem dX12_haltAt_11 : decode cX12_haltAt 11 = .ok (.iaload, 1) := by decide +kernel
theorem dX12_haltAt_12 : decode cX12_haltAt 12 = .ok (.ireturn, 1) := by decide +kernel
theorem dX12_addsOf_0 : decode cX12_addsOf 0 = .ok (.aload_n 0, 1) := by decide +kernel
theorem dX12_addsOf_1 : decode cX12_addsOf 1 = .ok (.getfield 33, 3) := by decide +kernel
theorem dX12_addsOf_4 : decode cX12_addsOf 4 = .ok (.sipush 411, 3) := by decide +kernel
theorem dX12_addsOf_7 : decode cX12_addsOf 7 = .ok (.iconst 3, 1) := by decide +kernel
theorem dX12_addsOf_8 : decode cX12_addsOf 8 = .ok (.iload_n 1, 1) := by decide +kernel
theorem dX12_addsOf_9 : decode cX12_addsOf 9 = .ok (.imul, 1) := by decide +kernel
theorem dX12_addsOf_10 : decode cX12_addsOf 10 = .ok (.iadd, 1) := by decide +kernel
theorem dX12_addsOf_11 : decode cX12_addsOf 11 = .ok (.iconst 2, 1) := by decide +kernel
theorem dX12_addsOf_12 : decode cX12_addsOf 12 = .ok (.iadd, 1) := by decide +kernel
theorem dX12_addsOf_13 : decode cX12_addsOf 13 = .ok (.iaload, 1) := by decide +kernel
theorem dX12_addsOf_14 : decode cX12_addsOf 14 = .ok (.iconst 1, 1) := by decide +kernel
theorem dX12_addsOf_15 : decode cX12_addsOf 15 = .ok (.isub, 1) := by decide +kernel
theorem dX12_addsOf_16 : decode cX12_addsOf 16 = .ok (.ireturn, 1) := by decide +kernel
theorem dX12_grade_0 : decode cX12_grade 0 = .ok (.aload_n 0, 1) := by decide +kernel
theorem dX12_grade_1 : decode cX12_grade 1 = .ok (.iload_n 1, 1) := by decide +kernel
theorem dX12_grade_2 : decode cX12_grade 2 = .ok (.sipush (-999), 3) := by decide +kernel
theorem dX12_grade_5 : decode cX12_grade 5 = .ok (.aload_n 0, 1) := by decide +kernel
theorem dX12_grade_6 : decode cX12_grade 6 = .ok (.getfield 33, 3) := by decide +kernel
theorem dX12_grade_9 : decode cX12_grade 9 = .ok (.iconst 0, 1) := by decide +kernel
theorem dX12_grade_10 : decode cX12_grade 10 = .ok (.iaload, 1) := by decide +kernel
theorem dX12_grade_11 : decode cX12_grade 11 = .ok (.iconst 1, 1) := by decide +kernel
theorem dX12_grade_12 : decode cX12_grade 12 = .ok (.isub, 1) := by decide +kernel
theorem dX12_grade_13 : decode cX12_grade 13 = .ok (.invokestatic 182, 3) := by decide +kernel
theorem dX12_grade_16 : decode cX12_grade 16 = .ok (.ifCond .ne 7, 3) := by decide +kernel
theorem dX12_grade_19 : decode cX12_grade 19 = .ok (.iconst 1, 1) := by decide +kernel
theorem dX12_grade_20 : decode cX12_grade 20 = .ok (.goto 4, 3) := by decide +kernel
theorem dX12_grade_23 : decode cX12_grade 23 = .ok (.iconst 0, 1) := by decide +kernel
theorem dX12_grade_24 : decode cX12_grade 24 = .ok (.invokevirtual 250, 3) := by decide +kernel
theorem dX12_grade_27 : decode cX12_grade 27 = .ok (.ifCond .eq 7, 3) := by decide +kernel
theorem dX12_grade_30 : decode cX12_grade 30 = .ok (.iconst 0, 1) := by decide +kernel
theorem dX12_grade_31 : decode cX12_grade 31 = .ok (.goto 8, 3) := by decide +kernel
theorem dX12_grade_34 : decode cX12_grade 34 = .ok (.aload_n 0, 1) := by decide +kernel
theorem dX12_grade_35 : decode cX12_grade 35 = .ok (.iload_n 1, 1) := by decide +kernel
theorem dX12_grade_36 : decode cX12_grade 36 = .ok (.invokevirtual 254, 3) := by decide +kernel
theorem dX12_grade_39 : decode cX12_grade 39 = .ok (.ireturn, 1) := by decide +kernel
theorem dX12_halt_0 : decode cX12_halt 0 = .ok (.aload_n 0, 1) := by decide +kernel
theorem dX12_halt_1 : decode cX12_halt 1 = .ok (.aload_n 0, 1) := by decide +kernel
theorem dX12_halt_2 : decode cX12_halt 2 = .ok (.iload_n 1, 1) := by decide +kernel
theorem dX12_halt_3 : decode cX12_halt 3 = .ok (.invokevirtual 258, 3) := by decide +kernel
theorem dX12_halt_6 : decode cX12_halt 6 = .ok (.ifCond .eq 12, 3) := by decide +kernel
theorem dX12_halt_9 : decode cX12_halt 9 = .ok (.iload_n 2, 1) := by decide +kernel
theorem dX12_halt_10 : decode cX12_halt 10 = .ok (.iconst 0, 1) := by decide +kernel
theorem dX12_halt_11 : decode cX12_halt 11 = .ok (.iconst 2, 1) := by decide +kernel
theorem dX12_halt_12 : decode cX12_halt 12 = .ok (.invokestatic 182, 3) := by decide +kernel
theorem dX12_halt_15 : decode cX12_halt 15 = .ok (.ifCond .ne 7, 3) := by decide +kernel
theorem dX12_halt_18 : decode cX12_halt 18 = .ok (.iconst 1, 1) := by decide +kernel
theorem dX12_halt_19 : decode cX12_halt 19 = .ok (.goto 4, 3) := by decide +kernel
theorem dX12_halt_22 : decode cX12_halt 22 = .ok (.iconst 0, 1) := by decide +kernel
theorem dX12_halt_23 : decode cX12_halt 23 = .ok (.invokevirtual 250, 3) := by decide +kernel
theorem dX12_halt_26 : decode cX12_halt 26 = .ok (.ifCond .eq 5, 3) := by decide +kernel
theorem dX12_halt_29 : decode cX12_halt 29 = .ok (.iconst 0, 1) := by decide +kernel
theorem dX12_halt_30 : decode cX12_halt 30 = .ok (.ireturn, 1) := by decide +kernel
theorem dX12_halt_31 : decode cX12_halt 31 = .ok (.iload_n 2, 1) := by decide +kernel
theorem dX12_halt_32 : decode cX12_halt 32 = .ok (.ifCond .ne 11, 3) := by decide +kernel
theorem dX12_halt_35 : decode cX12_halt 35 = .ok (.aload_n 0, 1) := by decide +kernel
theorem dX12_halt_36 : decode cX12_halt 36 = .ok (.iload_n 1, 1) := by decide +kernel
theorem dX12_halt_37 : decode cX12_halt 37 = .ok (.invokevirtual 261, 3) := by decide +kernel
theorem dX12_halt_40 : decode cX12_halt 40 = .ok (.goto 30, 3) := by decide +kernel
theorem dX12_halt_43 : decode cX12_halt 43 = .ok (.iload_n 2, 1) := by decide +kernel
theorem dX12_halt_44 : decode cX12_halt 44 = .ok (.iconst 1, 1) := by decide +kernel
theorem dX12_halt_45 : decode cX12_halt 45 = .ok (.if_icmp .ne 20, 3) := by decide +kernel
theorem dX12_halt_48 : decode cX12_halt 48 = .ok (.aload_n 0, 1) := by decide +kernel
theorem dX12_halt_49 : decode cX12_halt 49 = .ok (.getfield 33, 3) := by decide +kernel
theorem dX12_halt_52 : decode cX12_halt 52 = .ok (.sipush 411, 3) := by decide +kernel
theorem dX12_halt_55 : decode cX12_halt 55 = .ok (.iconst 3, 1) := by decide +kernel
theorem dX12_halt_56 : decode cX12_halt 56 = .ok (.iload_n 1, 1) := by decide +kernel
theorem dX12_halt_57 : decode cX12_halt 57 = .ok (.imul, 1) := by decide +kernel
theorem dX12_halt_58 : decode cX12_halt 58 = .ok (.iadd, 1) := by decide +kernel
theorem dX12_halt_59 : decode cX12_halt 59 = .ok (.iconst 1, 1) := by decide +kernel
theorem dX12_halt_60 : decode cX12_halt 60 = .ok (.iadd, 1) := by decide +kernel
theorem dX12_halt_61 : decode cX12_halt 61 = .ok (.iaload, 1) := by decide +kernel
theorem dX12_halt_62 : decode cX12_halt 62 = .ok (.goto 8, 3) := by decide +kernel
theorem dX12_halt_65 : decode cX12_halt 65 = .ok (.aload_n 0, 1) := by decide +kernel
theorem dX12_halt_66 : decode cX12_halt 66 = .ok (.iload_n 1, 1) := by decide +kernel
theorem dX12_halt_67 : decode cX12_halt 67 = .ok (.invokevirtual 264, 3) := by decide +kernel
theorem dX12_halt_70 : decode cX12_halt 70 = .ok (.ireturn, 1) := by decide +kernel
theorem dX12_kind_0 : decode cX12_kind 0 = .ok (.aload_n 0, 1) := by decide +kernel
theorem dX12_kind_1 : decode cX12_kind 1 = .ok (.aload_n 0, 1) := by decide +kernel
theorem dX12_kind_2 : decode cX12_kind 2 = .ok (.iload_n 1, 1) := by decide +kernel
theorem dX12_kind_3 : decode cX12_kind 3 = .ok (.invokevirtual 267, 3) := by decide +kernel
theorem dX12_kind_6 : decode cX12_kind 6 = .ok (.ifCond .eq 12, 3) := by decide +kernel
theorem dX12_kind_9 : decode cX12_kind 9 = .ok (.iload_n 2, 1) := by decide +kernel
theorem dX12_kind_10 : decode cX12_kind 10 = .ok (.iconst 0, 1) := by decide +kernel
theorem dX12_kind_11 : decode cX12_kind 11 = .ok (.iconst 2, 1) := by decide +kernel
theorem dX12_kind_12 : decode cX12_kind 12 = .ok (.invokestatic 182, 3) := by decide +kernel
theorem dX12_kind_15 : decode cX12_kind 15 = .ok (.ifCond .ne 7, 3) := by decide +kernel
theorem dX12_kind_18 : decode cX12_kind 18 = .ok (.iconst 1, 1) := by decide +kernel
theorem dX12_kind_19 : decode cX12_kind 19 = .ok (.goto 4, 3) := by decide +kernel
theorem dX12_kind_22 : decode cX12_kind 22 = .ok (.iconst 0, 1) := by decide +kernel
theorem dX12_kind_23 : decode cX12_kind 23 = .ok (.invokevirtual 250, 3) := by decide +kernel
theorem dX12_kind_26 : decode cX12_kind 26 = .ok (.ifCond .eq 7, 3) := by decide +kernel
theorem dX12_kind_29 : decode cX12_kind 29 = .ok (.iconst 0, 1) := by decide +kernel
theorem dX12_kind_30 : decode cX12_kind 30 = .ok (.goto 17, 3) := by decide +kernel
theorem dX12_kind_33 : decode cX12_kind 33 = .ok (.aload_n 0, 1) := by decide +kernel
theorem dX12_kind_34 : decode cX12_kind 34 = .ok (.getfield 33, 3) := by decide +kernel
theorem dX12_kind_37 : decode cX12_kind 37 = .ok (.sipush 457, 3) := by decide +kernel
theorem dX12_kind_40 : decode cX12_kind 40 = .ok (.iconst 3, 1) := by decide +kernel
theorem dX12_kind_41 : decode cX12_kind 41 = .ok (.iload_n 1, 1) := by decide +kernel
theorem dX12_kind_42 : decode cX12_kind 42 = .ok (.imul, 1) := by decide +kernel
theorem dX12_kind_43 : decode cX12_kind 43 = .ok (.iadd, 1) := by decide +kernel
theorem dX12_kind_44 : decode cX12_kind 44 = .ok (.iload_n 2, 1) := by decide +kernel
theorem dX12_kind_45 : decode cX12_kind 45 = .ok (.iadd, 1) := by decide +kernel
theorem dX12_kind_46 : decode cX12_kind 46 = .ok (.iaload, 1) := by decide +kernel
theorem dX12_kind_47 : decode cX12_kind 47 = .ok (.ireturn, 1) := by decide +kernel
theorem dX12_loop_0 : decode cX12_loop 0 = .ok (.aload_n 0, 1) := by decide +kernel
theorem dX12_loop_1 : decode cX12_loop 1 = .ok (.iconst 0, 1) := by decide +kernel
theorem dX12_loop_2 : decode cX12_loop 2 = .ok (.putfield 1, 3) := by decide +kernel
theorem dX12_loop_5 : decode cX12_loop 5 = .ok (.iload_n 1, 1) := by decide +kernel
theorem dX12_loop_6 : decode cX12_loop 6 = .ok (.iconst 0, 1) := by decide +kernel
theorem dX12_loop_7 : decode cX12_loop 7 = .ok (.aload_n 0, 1) := by decide +kernel
theorem dX12_loop_8 : decode cX12_loop 8 = .ok (.getfield 33, 3) := by decide +kernel
theorem dX12_loop_11 : decode cX12_loop 11 = .ok (.iconst 2, 1) := by decide +kernel
theorem dX12_loop_12 : decode cX12_loop 12 = .ok (.iaload, 1) := by decide +kernel
theorem dX12_loop_13 : decode cX12_loop 13 = .ok (.iconst 1, 1) := by decide +kernel
theorem dX12_loop_14 : decode cX12_loop 14 = .ok (.isub, 1) := by decide +kernel
theorem dX12_loop_15 : decode cX12_loop 15 = .ok (.invokestatic 182, 3) := by decide +kernel
theorem dX12_loop_18 : decode cX12_loop 18 = .ok (.ifCond .eq 29, 3) := by decide +kernel
theorem dX12_loop_21 : decode cX12_loop 21 = .ok (.iload_n 2, 1) := by decide +kernel
theorem dX12_loop_22 : decode cX12_loop 22 = .ok (.iconst 0, 1) := by decide +kernel
theorem dX12_loop_23 : decode cX12_loop 23 = .ok (.iconst 1, 1) := by decide +kernel
theorem dX12_loop_24 : decode cX12_loop 24 = .ok (.invokestatic 182, 3) := by decide +kernel
theorem dX12_loop_27 : decode cX12_loop 27 = .ok (.ifCond .eq 20, 3) := by decide +kernel
theorem dX12_loop_30 : decode cX12_loop 30 = .ok (.aload_n 0, 1) := by decide +kernel
theorem dX12_loop_31 : decode cX12_loop 31 = .ok (.getfield 33, 3) := by decide +kernel
theorem dX12_loop_34 : decode cX12_loop 34 = .ok (.sipush 441, 3) := by decide +kernel
theorem dX12_loop_37 : decode cX12_loop 37 = .ok (.iconst 2, 1) := by decide +kernel
theorem dX12_loop_38 : decode cX12_loop 38 = .ok (.iload_n 1, 1) := by decide +kernel
theorem dX12_loop_39 : decode cX12_loop 39 = .ok (.imul, 1) := by decide +kernel
theorem dX12_loop_40 : decode cX12_loop 40 = .ok (.iadd, 1) := by decide +kernel
theorem dX12_loop_41 : decode cX12_loop 41 = .ok (.iload_n 2, 1) := by decide +kernel
theorem dX12_loop_42 : decode cX12_loop 42 = .ok (.iadd, 1) := by decide +kernel
theorem dX12_loop_43 : decode cX12_loop 43 = .ok (.iaload, 1) := by decide +kernel
theorem dX12_loop_44 : decode cX12_loop 44 = .ok (.goto 4, 3) := by decide +kernel
theorem dX12_loop_47 : decode cX12_loop 47 = .ok (.iconst (-1), 1) := by decide +kernel
theorem dX12_loop_48 : decode cX12_loop 48 = .ok (.ireturn, 1) := by decide +kernel
theorem dX12_stands_0 : decode cX12_stands 0 = .ok (.iload_n 1, 1) := by decide +kernel
theorem dX12_stands_1 : decode cX12_stands 1 = .ok (.iconst 1, 1) := by decide +kernel
theorem dX12_stands_2 : decode cX12_stands 2 = .ok (.isub, 1) := by decide +kernel
theorem dX12_stands_3 : decode cX12_stands 3 = .ok (.istore_n 2, 1) := by decide +kernel
theorem dX12_stands_4 : decode cX12_stands 4 = .ok (.iconst 0, 1) := by decide +kernel
theorem dX12_stands_5 : decode cX12_stands 5 = .ok (.istore_n 3, 1) := by decide +kernel
theorem dX12_stands_6 : decode cX12_stands 6 = .ok (.iload_n 3, 1) := by decide +kernel
theorem dX12_stands_7 : decode cX12_stands 7 = .ok (.aload_n 0, 1) := by decide +kernel
theorem dX12_stands_8 : decode cX12_stands 8 = .ok (.getfield 270, 3) := by decide +kernel
theorem dX12_stands_11 : decode cX12_stands 11 = .ok (.if_icmp .ge 29, 3) := by decide +kernel
theorem dX12_stands_14 : decode cX12_stands 14 = .ok (.aload_n 0, 1) := by decide +kernel
theorem dX12_stands_15 : decode cX12_stands 15 = .ok (.getfield 53, 3) := by decide +kernel
theorem dX12_stands_18 : decode cX12_stands 18 = .ok (.iload_n 3, 1) := by decide +kernel
theorem dX12_stands_19 : decode cX12_stands 19 = .ok (.iload_n 2, 1) := by decide +kernel
theorem dX12_stands_20 : decode cX12_stands 20 = .ok (.iastore, 1) := by decide +kernel
theorem dX12_stands_21 : decode cX12_stands 21 = .ok (.iload_n 2, 1) := by decide +kernel
theorem dX12_stands_22 : decode cX12_stands 22 = .ok (.aload_n 0, 1) := by decide +kernel
theorem dX12_stands_23 : decode cX12_stands 23 = .ok (.aload_n 0, 1) := by decide +kernel
theorem dX12_stands_24 : decode cX12_stands 24 = .ok (.getfield 50, 3) := by decide +kernel
theorem dX12_stands_27 : decode cX12_stands 27 = .ok (.iload_n 3, 1) := by decide +kernel
theorem dX12_stands_28 : decode cX12_stands 28 = .ok (.iaload, 1) := by decide +kernel
theorem dX12_stands_29 : decode cX12_stands 29 = .ok (.invokevirtual 273, 3) := by decide +kernel
theorem dX12_stands_32 : decode cX12_stands 32 = .ok (.isub, 1) := by decide +kernel
theorem dX12_stands_33 : decode cX12_stands 33 = .ok (.istore_n 2, 1) := by decide +kernel
theorem dX12_stands_34 : decode cX12_stands 34 = .ok (.iinc 3 1, 3) := by decide +kernel
theorem dX12_stands_37 : decode cX12_stands 37 = .ok (.goto (-31), 3) := by decide +kernel
theorem dX12_stands_40 : decode cX12_stands 40 = .ok (.iconst 0, 1) := by decide +kernel
theorem dX12_stands_41 : decode cX12_stands 41 = .ok (.istore_n 3, 1) := by decide +kernel
theorem dX12_stands_42 : decode cX12_stands 42 = .ok (.aload_n 0, 1) := by decide +kernel
theorem dX12_stands_43 : decode cX12_stands 43 = .ok (.getfield 270, 3) := by decide +kernel
theorem dX12_stands_46 : decode cX12_stands 46 = .ok (.iconst 1, 1) := by decide +kernel
theorem dX12_stands_47 : decode cX12_stands 47 = .ok (.isub, 1) := by decide +kernel
theorem dX12_stands_48 : decode cX12_stands 48 = .ok (.istore 4, 2) := by decide +kernel
theorem dX12_stands_50 : decode cX12_stands 50 = .ok (.iload 4, 2) := by decide +kernel
theorem dX12_stands_52 : decode cX12_stands 52 = .ok (.ifCond .lt 51, 3) := by decide +kernel
theorem dX12_stands_55 : decode cX12_stands 55 = .ok (.iload_n 3, 1) := by decide +kernel
theorem dX12_stands_56 : decode cX12_stands 56 = .ok (.aload_n 0, 1) := by decide +kernel
theorem dX12_stands_57 : decode cX12_stands 57 = .ok (.aload_n 0, 1) := by decide +kernel
theorem dX12_stands_58 : decode cX12_stands 58 = .ok (.getfield 50, 3) := by decide +kernel
theorem dX12_stands_61 : decode cX12_stands 61 = .ok (.iload 4, 2) := by decide +kernel
theorem dX12_stands_63 : decode cX12_stands 63 = .ok (.iaload, 1) := by decide +kernel
theorem dX12_stands_64 : decode cX12_stands 64 = .ok (.invokevirtual 276, 3) := by decide +kernel
theorem dX12_stands_67 : decode cX12_stands 67 = .ok (.aload_n 0, 1) := by decide +kernel
theorem dX12_stands_68 : decode cX12_stands 68 = .ok (.aload_n 0, 1) := by decide +kernel
theorem dX12_stands_69 : decode cX12_stands 69 = .ok (.getfield 53, 3) := by decide +kernel
theorem dX12_stands_72 : decode cX12_stands 72 = .ok (.iload 4, 2) := by decide +kernel
theorem dX12_stands_74 : decode cX12_stands 74 = .ok (.iaload, 1) := by decide +kernel
theorem dX12_stands_75 : decode cX12_stands 75 = .ok (.invokevirtual 254, 3) := by decide +kernel
theorem dX12_stands_78 : decode cX12_stands 78 = .ok (.aload_n 0, 1) := by decide +kernel
theorem dX12_stands_79 : decode cX12_stands 79 = .ok (.getfield 33, 3) := by decide +kernel
theorem dX12_stands_82 : decode cX12_stands 82 = .ok (.bipush 6, 2) := by decide +kernel
theorem dX12_stands_84 : decode cX12_stands 84 = .ok (.iaload, 1) := by decide +kernel
theorem dX12_stands_85 : decode cX12_stands 85 = .ok (.iadd, 1) := by decide +kernel
theorem dX12_stands_86 : decode cX12_stands 86 = .ok (.imul, 1) := by decide +kernel
theorem dX12_stands_87 : decode cX12_stands 87 = .ok (.iadd, 1) := by decide +kernel
theorem dX12_stands_88 : decode cX12_stands 88 = .ok (.istore_n 3, 1) := by decide +kernel
theorem dX12_stands_89 : decode cX12_stands 89 = .ok (.aload_n 0, 1) := by decide +kernel
theorem dX12_stands_90 : decode cX12_stands 90 = .ok (.getfield 56, 3) := by decide +kernel
theorem dX12_stands_93 : decode cX12_stands 93 = .ok (.iload 4, 2) := by decide +kernel
theorem dX12_stands_95 : decode cX12_stands 95 = .ok (.iload_n 3, 1) := by decide +kernel
theorem dX12_stands_96 : decode cX12_stands 96 = .ok (.iastore, 1) := by decide +kernel
theorem dX12_stands_97 : decode cX12_stands 97 = .ok (.iinc 4 (-1), 3) := by decide +kernel
theorem dX12_stands_100 : decode cX12_stands 100 = .ok (.goto (-50), 3) := by decide +kernel
theorem dX12_stands_103 : decode cX12_stands 103 = .ok (.aload_n 0, 1) := by decide +kernel
theorem dX12_stands_104 : decode cX12_stands 104 = .ok (.iload_n 3, 1) := by decide +kernel
theorem dX12_stands_105 : decode cX12_stands 105 = .ok (.aload_n 0, 1) := by decide +kernel
theorem dX12_stands_106 : decode cX12_stands 106 = .ok (.getfield 33, 3) := by decide +kernel
theorem dX12_stands_109 : decode cX12_stands 109 = .ok (.iconst 5, 1) := by decide +kernel
theorem dX12_stands_110 : decode cX12_stands 110 = .ok (.iaload, 1) := by decide +kernel
theorem dX12_stands_111 : decode cX12_stands 111 = .ok (.aload_n 0, 1) := by decide +kernel
theorem dX12_stands_112 : decode cX12_stands 112 = .ok (.getfield 33, 3) := by decide +kernel
theorem dX12_stands_115 : decode cX12_stands 115 = .ok (.iconst 0, 1) := by decide +kernel
theorem dX12_stands_116 : decode cX12_stands 116 = .ok (.iaload, 1) := by decide +kernel
theorem dX12_stands_117 : decode cX12_stands 117 = .ok (.ifCond .ne 7, 3) := by decide +kernel
theorem dX12_stands_120 : decode cX12_stands 120 = .ok (.iconst 0, 1) := by decide +kernel
theorem dX12_stands_121 : decode cX12_stands 121 = .ok (.goto 8, 3) := by decide +kernel
theorem dX12_stands_124 : decode cX12_stands 124 = .ok (.aload_n 0, 1) := by decide +kernel
theorem dX12_stands_125 : decode cX12_stands 125 = .ok (.iload_n 1, 1) := by decide +kernel
theorem dX12_stands_126 : decode cX12_stands 126 = .ok (.invokevirtual 254, 3) := by decide +kernel
theorem dX12_stands_129 : decode cX12_stands 129 = .ok (.aload_n 0, 1) := by decide +kernel
theorem dX12_stands_130 : decode cX12_stands 130 = .ok (.getfield 33, 3) := by decide +kernel
theorem dX12_stands_133 : decode cX12_stands 133 = .ok (.bipush 6, 2) := by decide +kernel
theorem dX12_stands_135 : decode cX12_stands 135 = .ok (.iaload, 1) := by decide +kernel
theorem dX12_stands_136 : decode cX12_stands 136 = .ok (.iadd, 1) := by decide +kernel
theorem dX12_stands_137 : decode cX12_stands 137 = .ok (.imul, 1) := by decide +kernel
theorem dX12_stands_138 : decode cX12_stands 138 = .ok (.iadd, 1) := by decide +kernel
theorem dX12_stands_139 : decode cX12_stands 139 = .ok (.putfield 279, 3) := by decide +kernel
theorem dX12_stands_142 : decode cX12_stands 142 = .ok (.return_, 1) := by decide +kernel
theorem dX12_helps_0 : decode cX12_helps 0 = .ok (.iconst 0, 1) := by decide +kernel
theorem dX12_helps_1 : decode cX12_helps 1 = .ok (.istore_n 3, 1) := by decide +kernel
theorem dX12_helps_2 : decode cX12_helps 2 = .ok (.iload_n 3, 1) := by decide +kernel
theorem dX12_helps_3 : decode cX12_helps 3 = .ok (.iload_n 1, 1) := by decide +kernel
theorem dX12_helps_4 : decode cX12_helps 4 = .ok (.if_icmp .gt 19, 3) := by decide +kernel
theorem dX12_helps_7 : decode cX12_helps 7 = .ok (.aload_n 0, 1) := by decide +kernel
theorem dX12_helps_8 : decode cX12_helps 8 = .ok (.getfield 56, 3) := by decide +kernel
theorem dX12_helps_11 : decode cX12_helps 11 = .ok (.iload_n 3, 1) := by decide +kernel
theorem dX12_helps_12 : decode cX12_helps 12 = .ok (.dup2, 1) := by decide +kernel
theorem dX12_helps_13 : decode cX12_helps 13 = .ok (.iaload, 1) := by decide +kernel
theorem dX12_helps_14 : decode cX12_helps 14 = .ok (.iload_n 2, 1) := by decide +kernel
theorem dX12_helps_15 : decode cX12_helps 15 = .ok (.isub, 1) := by decide +kernel
theorem dX12_helps_16 : decode cX12_helps 16 = .ok (.iastore, 1) := by decide +kernel
theorem dX12_helps_17 : decode cX12_helps 17 = .ok (.iinc 3 1, 3) := by decide +kernel
theorem dX12_helps_20 : decode cX12_helps 20 = .ok (.goto (-18), 3) := by decide +kernel
theorem dX12_helps_23 : decode cX12_helps 23 = .ok (.aload_n 0, 1) := by decide +kernel
theorem dX12_helps_24 : decode cX12_helps 24 = .ok (.dup, 1) := by decide +kernel
theorem dX12_helps_25 : decode cX12_helps 25 = .ok (.getfield 279, 3) := by decide +kernel
theorem dX12_helps_28 : decode cX12_helps 28 = .ok (.iload_n 2, 1) := by decide +kernel
theorem dX12_helps_29 : decode cX12_helps 29 = .ok (.isub, 1) := by decide +kernel
theorem dX12_helps_30 : decode cX12_helps 30 = .ok (.putfield 279, 3) := by decide +kernel
theorem dX12_helps_33 : decode cX12_helps 33 = .ok (.return_, 1) := by decide +kernel
theorem dX12_free_0 : decode cX12_free 0 = .ok (.aload_n 0, 1) := by decide +kernel
theorem dX12_free_1 : decode cX12_free 1 = .ok (.aload_n 0, 1) := by decide +kernel
theorem dX12_free_2 : decode cX12_free 2 = .ok (.getfield 33, 3) := by decide +kernel
theorem dX12_free_5 : decode cX12_free 5 = .ok (.bipush 10, 2) := by decide +kernel
theorem dX12_free_7 : decode cX12_free 7 = .ok (.iaload, 1) := by decide +kernel
theorem dX12_free_8 : decode cX12_free 8 = .ok (.putfield 270, 3) := by decide +kernel
theorem dX12_free_11 : decode cX12_free 11 = .ok (.iconst 0, 1) := by decide +kernel
theorem dX12_free_12 : decode cX12_free 12 = .ok (.istore_n 2, 1) := by decide +kernel
theorem dX12_free_13 : decode cX12_free 13 = .ok (.iload_n 2, 1) := by decide +kernel
theorem dX12_free_14 : decode cX12_free 14 = .ok (.aload_n 0, 1) := by decide +kernel
theorem dX12_free_15 : decode cX12_free 15 = .ok (.getfield 270, 3) := by decide +kernel
theorem dX12_free_18 : decode cX12_free 18 = .ok (.if_icmp .ge 25, 3) := by decide +kernel
theorem dX12_free_21 : decode cX12_free 21 = .ok (.aload_n 0, 1) := by decide +kernel
theorem dX12_free_22 : decode cX12_free 22 = .ok (.getfield 50, 3) := by decide +kernel
theorem dX12_free_25 : decode cX12_free 25 = .ok (.iload_n 2, 1) := by decide +kernel
theorem dX12_free_26 : decode cX12_free 26 = .ok (.aload_n 0, 1) := by decide +kernel
theorem dX12_free_27 : decode cX12_free 27 = .ok (.getfield 33, 3) := by decide +kernel
theorem dX12_free_30 : decode cX12_free 30 = .ok (.sipush 475, 3) := by decide +kernel
theorem dX12_free_33 : decode cX12_free 33 = .ok (.iload_n 2, 1) := by decide +kernel
theorem dX12_free_34 : decode cX12_free 34 = .ok (.iadd, 1) := by decide +kernel
theorem dX12_free_35 : decode cX12_free 35 = .ok (.iaload, 1) := by decide +kernel
theorem dX12_free_36 : decode cX12_free 36 = .ok (.iastore, 1) := by decide +kernel
theorem dX12_free_37 : decode cX12_free 37 = .ok (.iinc 2 1, 3) := by decide +kernel
theorem dX12_free_40 : decode cX12_free 40 = .ok (.goto (-27), 3) := by decide +kernel
theorem dX12_free_43 : decode cX12_free 43 = .ok (.iconst 0, 1) := by decide +kernel
theorem dX12_free_44 : decode cX12_free 44 = .ok (.istore_n 2, 1) := by decide +kernel
theorem dX12_free_45 : decode cX12_free 45 = .ok (.iload_n 2, 1) := by decide +kernel
theorem dX12_free_46 : decode cX12_free 46 = .ok (.aload_n 0, 1) := by decide +kernel
theorem dX12_free_47 : decode cX12_free 47 = .ok (.getfield 33, 3) := by decide +kernel
theorem dX12_free_50 : decode cX12_free 50 = .ok (.iconst 1, 1) := by decide +kernel
theorem dX12_free_51 : decode cX12_free 51 = .ok (.iaload, 1) := by decide +kernel
theorem dX12_free_52 : decode cX12_free 52 = .ok (.if_icmp .ge 66, 3) := by decide +kernel
theorem dX12_free_55 : decode cX12_free 55 = .ok (.aload_n 0, 1) := by decide +kernel
theorem dX12_free_56 : decode cX12_free 56 = .ok (.iload_n 2, 1) := by decide +kernel
theorem dX12_free_57 : decode cX12_free 57 = .ok (.invokevirtual 261, 3) := by decide +kernel
theorem dX12_free_60 : decode cX12_free 60 = .ok (.iconst 1, 1) := by decide +kernel
theorem dX12_free_61 : decode cX12_free 61 = .ok (.iload_n 1, 1) := by decide +kernel
theorem dX12_free_62 : decode cX12_free 62 = .ok (.invokestatic 182, 3) := by decide +kernel
theorem dX12_free_65 : decode cX12_free 65 = .ok (.ifCond .eq 47, 3) := by decide +kernel
theorem dX12_free_68 : decode cX12_free 68 = .ok (.aload_n 0, 1) := by decide +kernel
theorem dX12_free_69 : decode cX12_free 69 = .ok (.iload_n 2, 1) := by decide +kernel
theorem dX12_free_70 : decode cX12_free 70 = .ok (.invokevirtual 264, 3) := by decide +kernel
theorem dX12_free_73 : decode cX12_free 73 = .ok (.ifCond .lt 39, 3) := by decide +kernel
theorem dX12_free_76 : decode cX12_free 76 = .ok (.aload_n 0, 1) := by decide +kernel
theorem dX12_free_77 : decode cX12_free 77 = .ok (.getfield 270, 3) := by decide +kernel
theorem dX12_free_80 : decode cX12_free 80 = .ok (.bipush 20, 2) := by decide +kernel
theorem dX12_free_82 : decode cX12_free 82 = .ok (.if_icmp .ne 6, 3) := by decide +kernel
theorem dX12_free_85 : decode cX12_free 85 = .ok (.goto 27, 3) := by decide +kernel
theorem dX12_free_88 : decode cX12_free 88 = .ok (.aload_n 0, 1) := by decide +kernel
theorem dX12_free_89 : decode cX12_free 89 = .ok (.getfield 50, 3) := by decide +kernel
theorem dX12_free_92 : decode cX12_free 92 = .ok (.aload_n 0, 1) := by decide +kernel
theorem dX12_free_93 : decode cX12_free 93 = .ok (.getfield 270, 3) := by decide +kernel
theorem dX12_free_96 : decode cX12_free 96 = .ok (.aload_n 0, 1) := by decide +kernel
theorem dX12_free_97 : decode cX12_free 97 = .ok (.iload_n 2, 1) := by decide +kernel
theorem dX12_free_98 : decode cX12_free 98 = .ok (.invokevirtual 264, 3) := by decide +kernel
theorem dX12_free_101 : decode cX12_free 101 = .ok (.iastore, 1) := by decide +kernel
theorem dX12_free_102 : decode cX12_free 102 = .ok (.aload_n 0, 1) := by decide +kernel
theorem dX12_free_103 : decode cX12_free 103 = .ok (.dup, 1) := by decide +kernel
theorem dX12_free_104 : decode cX12_free 104 = .ok (.getfield 270, 3) := by decide +kernel
theorem dX12_free_107 : decode cX12_free 107 = .ok (.iconst 1, 1) := by decide +kernel
theorem dX12_free_108 : decode cX12_free 108 = .ok (.iadd, 1) := by decide +kernel
theorem dX12_free_109 : decode cX12_free 109 = .ok (.putfield 270, 3) := by decide +kernel
theorem dX12_free_112 : decode cX12_free 112 = .ok (.iinc 2 1, 3) := by decide +kernel
theorem dX12_free_115 : decode cX12_free 115 = .ok (.goto (-70), 3) := by decide +kernel
theorem dX12_free_118 : decode cX12_free 118 = .ok (.return_, 1) := by decide +kernel
theorem dX12_freeAt_0 : decode cX12_freeAt 0 = .ok (.aload_n 0, 1) := by decide +kernel
theorem dX12_freeAt_1 : decode cX12_freeAt 1 = .ok (.iload_n 1, 1) := by decide +kernel
theorem dX12_freeAt_2 : decode cX12_freeAt 2 = .ok (.iconst 1, 1) := by decide +kernel
theorem dX12_freeAt_3 : decode cX12_freeAt 3 = .ok (.isub, 1) := by decide +kernel
theorem dX12_freeAt_4 : decode cX12_freeAt 4 = .ok (.invokevirtual 282, 3) := by decide +kernel
theorem dX12_freeAt_7 : decode cX12_freeAt 7 = .ok (.aload_n 0, 1) := by decide +kernel
theorem dX12_freeAt_8 : decode cX12_freeAt 8 = .ok (.iload_n 1, 1) := by decide +kernel
theorem dX12_freeAt_9 : decode cX12_freeAt 9 = .ok (.invokevirtual 285, 3) := by decide +kernel
theorem dX12_freeAt_12 : decode cX12_freeAt 12 = .ok (.return_, 1) := by decide +kernel
theorem dX12_strained_0 : decode cX12_strained 0 = .ok (.iconst 0, 1) := by decide +kernel
theorem dX12_strained_1 : decode cX12_strained 1 = .ok (.istore 4, 2) := by decide +kernel
theorem dX12_strained_3 : decode cX12_strained 3 = .ok (.iload_n 1, 1) := by decide +kernel
theorem dX12_strained_4 : decode cX12_strained 4 = .ok (.istore 5, 2) := by decide +kernel
theorem dX12_strained_6 : decode cX12_strained 6 = .ok (.iload 5, 2) := by decide +kernel
theorem dX12_strained_8 : decode cX12_strained 8 = .ok (.iload_n 2, 1) := by decide +kernel
theorem dX12_strained_9 : decode cX12_strained 9 = .ok (.if_icmp .gt 93, 3) := by decide +kernel
theorem dX12_strained_12 : decode cX12_strained 12 = .ok (.aload_n 0, 1) := by decide +kernel
theorem dX12_strained_13 : decode cX12_strained 13 = .ok (.iload 5, 2) := by decide +kernel
theorem dX12_strained_15 : decode cX12_strained 15 = .ok (.invokevirtual 288, 3) := by decide +kernel
theorem dX12_strained_18 : decode cX12_strained 18 = .ok (.iconst 0, 1) := by decide +kernel
theorem dX12_strained_19 : decode cX12_strained 19 = .ok (.istore 6, 2) := by decide +kernel
theorem dX12_strained_21 : decode cX12_strained 21 = .ok (.iload 6, 2) := by decide +kernel
theorem dX12_strained_23 : decode cX12_strained 23 = .ok (.aload_n 0, 1) := by decide +kernel
theorem dX12_strained_24 : decode cX12_strained 24 = .ok (.getfield 270, 3) := by decide +kernel
theorem dX12_strained_27 : decode cX12_strained 27 = .ok (.if_icmp .ge 69, 3) := by decide +kernel
theorem dX12_strained_30 : decode cX12_strained 30 = .ok (.iload 4, 2) := by decide +kernel
theorem dX12_strained_32 : decode cX12_strained 32 = .ok (.ifCond .eq 26, 3) := by decide +kernel
theorem dX12_strained_35 : decode cX12_strained 35 = .ok (.iload_n 3, 1) := by decide +kernel
theorem dX12_strained_36 : decode cX12_strained 36 = .ok (.aload_n 0, 1) := by decide +kernel
theorem dX12_strained_37 : decode cX12_strained 37 = .ok (.getfield 56, 3) := by decide +kernel
theorem dX12_strained_40 : decode cX12_strained 40 = .ok (.iload 6, 2) := by decide +kernel
theorem dX12_strained_42 : decode cX12_strained 42 = .ok (.iaload, 1) := by decide +kernel
theorem dX12_strained_43 : decode cX12_strained 43 = .ok (.imul, 1) := by decide +kernel
theorem dX12_strained_44 : decode cX12_strained 44 = .ok (.iload_n 3, 1) := by decide +kernel
theorem dX12_strained_45 : decode cX12_strained 45 = .ok (.aload_n 0, 1) := by decide +kernel
theorem dX12_strained_46 : decode cX12_strained 46 = .ok (.getfield 65, 3) := by decide +kernel
theorem dX12_strained_49 : decode cX12_strained 49 = .ok (.iconst 0, 1) := by decide +kernel
theorem dX12_strained_50 : decode cX12_strained 50 = .ok (.iaload, 1) := by decide +kernel
theorem dX12_strained_51 : decode cX12_strained 51 = .ok (.imul, 1) := by decide +kernel
theorem dX12_strained_52 : decode cX12_strained 52 = .ok (.if_icmp .gt 6, 3) := by decide +kernel
theorem dX12_strained_55 : decode cX12_strained 55 = .ok (.goto 35, 3) := by decide +kernel
theorem dX12_strained_58 : decode cX12_strained 58 = .ok (.iconst 1, 1) := by decide +kernel
theorem dX12_strained_59 : decode cX12_strained 59 = .ok (.istore 4, 2) := by decide +kernel
theorem dX12_strained_61 : decode cX12_strained 61 = .ok (.aload_n 0, 1) := by decide +kernel
theorem dX12_strained_62 : decode cX12_strained 62 = .ok (.getfield 65, 3) := by decide +kernel
theorem dX12_strained_65 : decode cX12_strained 65 = .ok (.iconst 0, 1) := by decide +kernel
theorem dX12_strained_66 : decode cX12_strained 66 = .ok (.aload_n 0, 1) := by decide +kernel
theorem dX12_strained_67 : decode cX12_strained 67 = .ok (.getfield 56, 3) := by decide +kernel
theorem dX12_strained_70 : decode cX12_strained 70 = .ok (.iload 6, 2) := by decide +kernel
theorem dX12_strained_72 : decode cX12_strained 72 = .ok (.iaload, 1) := by decide +kernel
theorem dX12_strained_73 : decode cX12_strained 73 = .ok (.iastore, 1) := by decide +kernel
theorem dX12_strained_74 : decode cX12_strained 74 = .ok (.aload_n 0, 1) := by decide +kernel
theorem dX12_strained_75 : decode cX12_strained 75 = .ok (.getfield 65, 3) := by decide +kernel
theorem dX12_strained_78 : decode cX12_strained 78 = .ok (.iconst 1, 1) := by decide +kernel
theorem dX12_strained_79 : decode cX12_strained 79 = .ok (.iload 5, 2) := by decide +kernel
theorem dX12_strained_81 : decode cX12_strained 81 = .ok (.iastore, 1) := by decide +kernel
theorem dX12_strained_82 : decode cX12_strained 82 = .ok (.aload_n 0, 1) := by decide +kernel
theorem dX12_strained_83 : decode cX12_strained 83 = .ok (.getfield 65, 3) := by decide +kernel
theorem dX12_strained_86 : decode cX12_strained 86 = .ok (.iconst 2, 1) := by decide +kernel
theorem dX12_strained_87 : decode cX12_strained 87 = .ok (.iload 6, 2) := by decide +kernel
theorem dX12_strained_89 : decode cX12_strained 89 = .ok (.iastore, 1) := by decide +kernel
theorem dX12_strained_90 : decode cX12_strained 90 = .ok (.iinc 6 1, 3) := by decide +kernel
theorem dX12_strained_93 : decode cX12_strained 93 = .ok (.goto (-72), 3) := by decide +kernel
theorem dX12_strained_96 : decode cX12_strained 96 = .ok (.iinc 5 1, 3) := by decide +kernel
theorem dX12_strained_99 : decode cX12_strained 99 = .ok (.goto (-93), 3) := by decide +kernel
theorem dX12_strained_102 : decode cX12_strained 102 = .ok (.iload 4, 2) := by decide +kernel
theorem dX12_strained_104 : decode cX12_strained 104 = .ok (.ireturn, 1) := by decide +kernel
theorem dX12_strain_0 : decode cX12_strain 0 = .ok (.aload_n 0, 1) := by decide +kernel
theorem dX12_strain_1 : decode cX12_strain 1 = .ok (.iload_n 3, 1) := by decide +kernel
theorem dX12_strain_2 : decode cX12_strain 2 = .ok (.iconst 0, 1) := by decide +kernel
theorem dX12_strain_3 : decode cX12_strain 3 = .ok (.iconst 2, 1) := by decide +kernel
theorem dX12_strain_4 : decode cX12_strain 4 = .ok (.invokestatic 182, 3) := by decide +kernel
theorem dX12_strain_7 : decode cX12_strain 7 = .ok (.ifCond .ne 7, 3) := by decide +kernel
theorem dX12_strain_10 : decode cX12_strain 10 = .ok (.iconst 1, 1) := by decide +kernel
theorem dX12_strain_11 : decode cX12_strain 11 = .ok (.goto 4, 3) := by decide +kernel
theorem dX12_strain_14 : decode cX12_strain 14 = .ok (.iconst 0, 1) := by decide +kernel
theorem dX12_strain_15 : decode cX12_strain 15 = .ok (.invokevirtual 250, 3) := by decide +kernel
theorem dX12_strain_18 : decode cX12_strain 18 = .ok (.ifCond .eq 5, 3) := by decide +kernel
theorem dX12_strain_21 : decode cX12_strain 21 = .ok (.iconst 0, 1) := by decide +kernel
theorem dX12_strain_22 : decode cX12_strain 22 = .ok (.ireturn, 1) := by decide +kernel
theorem dX12_strain_23 : decode cX12_strain 23 = .ok (.aload_n 0, 1) := by decide +kernel
theorem dX12_strain_24 : decode cX12_strain 24 = .ok (.iload_n 1, 1) := by decide +kernel
theorem dX12_strain_25 : decode cX12_strain 25 = .ok (.invokevirtual 291, 3) := by decide +kernel
theorem dX12_strain_28 : decode cX12_strain 28 = .ok (.ifCond .eq 35, 3) := by decide +kernel
theorem dX12_strain_31 : decode cX12_strain 31 = .ok (.aload_n 0, 1) := by decide +kernel
theorem dX12_strain_32 : decode cX12_strain 32 = .ok (.iload_n 2, 1) := by decide +kernel
theorem dX12_strain_33 : decode cX12_strain 33 = .ok (.invokevirtual 291, 3) := by decide +kernel
theorem dX12_strain_36 : decode cX12_strain 36 = .ok (.ifCond .eq 27, 3) := by decide +kernel
theorem dX12_strain_39 : decode cX12_strain 39 = .ok (.iload_n 1, 1) := by decide +kernel
theorem dX12_strain_40 : decode cX12_strain 40 = .ok (.iload_n 2, 1) := by decide +kernel
theorem dX12_strain_41 : decode cX12_strain 41 = .ok (.if_icmp .gt 22, 3) := by decide +kernel
theorem dX12_strain_44 : decode cX12_strain 44 = .ok (.aload_n 0, 1) := by decide +kernel
theorem dX12_strain_45 : decode cX12_strain 45 = .ok (.iload_n 1, 1) := by decide +kernel
theorem dX12_strain_46 : decode cX12_strain 46 = .ok (.iload_n 2, 1) := by decide +kernel
theorem dX12_strain_47 : decode cX12_strain 47 = .ok (.iconst 1, 1) := by decide +kernel
theorem dX12_strain_48 : decode cX12_strain 48 = .ok (.invokevirtual 294, 3) := by decide +kernel
theorem dX12_strain_51 : decode cX12_strain 51 = .ok (.ifCond .eq 12, 3) := by decide +kernel
theorem dX12_strain_54 : decode cX12_strain 54 = .ok (.aload_n 0, 1) := by decide +kernel
theorem dX12_strain_55 : decode cX12_strain 55 = .ok (.getfield 65, 3) := by decide +kernel
theorem dX12_strain_58 : decode cX12_strain 58 = .ok (.iload_n 3, 1) := by decide +kernel
theorem dX12_strain_59 : decode cX12_strain 59 = .ok (.iaload, 1) := by decide +kernel
theorem dX12_strain_60 : decode cX12_strain 60 = .ok (.goto 4, 3) := by decide +kernel
theorem dX12_strain_63 : decode cX12_strain 63 = .ok (.iconst (-1), 1) := by decide +kernel
theorem dX12_strain_64 : decode cX12_strain 64 = .ok (.ireturn, 1) := by decide +kernel
theorem dX12_squeeze_0 : decode cX12_squeeze 0 = .ok (.aload_n 0, 1) := by decide +kernel
theorem dX12_squeeze_1 : decode cX12_squeeze 1 = .ok (.iload_n 3, 1) := by decide +kernel
theorem dX12_squeeze_2 : decode cX12_squeeze 2 = .ok (.iconst 0, 1) := by decide +kernel
theorem dX12_squeeze_3 : decode cX12_squeeze 3 = .ok (.iconst 2, 1) := by decide +kernel
theorem dX12_squeeze_4 : decode cX12_squeeze 4 = .ok (.invokestatic 182, 3) := by decide +kernel
theorem dX12_squeeze_7 : decode cX12_squeeze 7 = .ok (.ifCond .ne 7, 3) := by decide +kernel
theorem dX12_squeeze_10 : decode cX12_squeeze 10 = .ok (.iconst 1, 1) := by decide +kernel
theorem dX12_squeeze_11 : decode cX12_squeeze 11 = .ok (.goto 4, 3) := by decide +kernel
theorem dX12_squeeze_14 : decode cX12_squeeze 14 = .ok (.iconst 0, 1) := by decide +kernel
theorem dX12_squeeze_15 : decode cX12_squeeze 15 = .ok (.invokevirtual 250, 3) := by decide +kernel
theorem dX12_squeeze_18 : decode cX12_squeeze 18 = .ok (.ifCond .eq 5, 3) := by decide +kernel
theorem dX12_squeeze_21 : decode cX12_squeeze 21 = .ok (.iconst 0, 1) := by decide +kernel
theorem dX12_squeeze_22 : decode cX12_squeeze 22 = .ok (.ireturn, 1) := by decide +kernel
theorem dX12_squeeze_23 : decode cX12_squeeze 23 = .ok (.aload_n 0, 1) := by decide +kernel
theorem dX12_squeeze_24 : decode cX12_squeeze 24 = .ok (.iload_n 1, 1) := by decide +kernel
theorem dX12_squeeze_25 : decode cX12_squeeze 25 = .ok (.invokevirtual 291, 3) := by decide +kernel
theorem dX12_squeeze_28 : decode cX12_squeeze 28 = .ok (.ifCond .eq 35, 3) := by decide +kernel
theorem dX12_squeeze_31 : decode cX12_squeeze 31 = .ok (.aload_n 0, 1) := by decide +kernel
theorem dX12_squeeze_32 : decode cX12_squeeze 32 = .ok (.iload_n 2, 1) := by decide +kernel
theorem dX12_squeeze_33 : decode cX12_squeeze 33 = .ok (.invokevirtual 291, 3) := by decide +kernel
theorem dX12_squeeze_36 : decode cX12_squeeze 36 = .ok (.ifCond .eq 27, 3) := by decide +kernel
theorem dX12_squeeze_39 : decode cX12_squeeze 39 = .ok (.iload_n 1, 1) := by decide +kernel
theorem dX12_squeeze_40 : decode cX12_squeeze 40 = .ok (.iload_n 2, 1) := by decide +kernel
theorem dX12_squeeze_41 : decode cX12_squeeze 41 = .ok (.if_icmp .gt 22, 3) := by decide +kernel
theorem dX12_squeeze_44 : decode cX12_squeeze 44 = .ok (.aload_n 0, 1) := by decide +kernel
theorem dX12_squeeze_45 : decode cX12_squeeze 45 = .ok (.iload_n 1, 1) := by decide +kernel
theorem dX12_squeeze_46 : decode cX12_squeeze 46 = .ok (.iload_n 2, 1) := by decide +kernel
theorem dX12_squeeze_47 : decode cX12_squeeze 47 = .ok (.iconst (-1), 1) := by decide +kernel
theorem dX12_squeeze_48 : decode cX12_squeeze 48 = .ok (.invokevirtual 294, 3) := by decide +kernel
theorem dX12_squeeze_51 : decode cX12_squeeze 51 = .ok (.ifCond .eq 12, 3) := by decide +kernel
theorem dX12_squeeze_54 : decode cX12_squeeze 54 = .ok (.aload_n 0, 1) := by decide +kernel
theorem dX12_squeeze_55 : decode cX12_squeeze 55 = .ok (.getfield 65, 3) := by decide +kernel
theorem dX12_squeeze_58 : decode cX12_squeeze 58 = .ok (.iload_n 3, 1) := by decide +kernel
theorem dX12_squeeze_59 : decode cX12_squeeze 59 = .ok (.iaload, 1) := by decide +kernel
theorem dX12_squeeze_60 : decode cX12_squeeze 60 = .ok (.goto 4, 3) := by decide +kernel
theorem dX12_squeeze_63 : decode cX12_squeeze 63 = .ok (.iconst (-1), 1) := by decide +kernel
theorem dX12_squeeze_64 : decode cX12_squeeze 64 = .ok (.ireturn, 1) := by decide +kernel
theorem dX12_span_0 : decode cX12_span 0 = .ok (.aload_n 0, 1) := by decide +kernel
theorem dX12_span_1 : decode cX12_span 1 = .ok (.iconst 0, 1) := by decide +kernel
theorem dX12_span_2 : decode cX12_span 2 = .ok (.putfield 1, 3) := by decide +kernel
theorem dX12_span_5 : decode cX12_span 5 = .ok (.aload_n 0, 1) := by decide +kernel
theorem dX12_span_6 : decode cX12_span 6 = .ok (.iload_n 1, 1) := by decide +kernel
theorem dX12_span_7 : decode cX12_span 7 = .ok (.invokevirtual 291, 3) := by decide +kernel
theorem dX12_span_10 : decode cX12_span 10 = .ok (.ifCond .eq 20, 3) := by decide +kernel
theorem dX12_span_13 : decode cX12_span 13 = .ok (.aload_n 0, 1) := by decide +kernel
theorem dX12_span_14 : decode cX12_span 14 = .ok (.iload_n 2, 1) := by decide +kernel
theorem dX12_span_15 : decode cX12_span 15 = .ok (.invokevirtual 291, 3) := by decide +kernel
theorem dX12_span_18 : decode cX12_span 18 = .ok (.ifCond .eq 12, 3) := by decide +kernel
theorem dX12_span_21 : decode cX12_span 21 = .ok (.iload_n 3, 1) := by decide +kernel
theorem dX12_span_22 : decode cX12_span 22 = .ok (.iconst 0, 1) := by decide +kernel
theorem dX12_span_23 : decode cX12_span 23 = .ok (.iconst 1, 1) := by decide +kernel
theorem dX12_span_24 : decode cX12_span 24 = .ok (.invokestatic 182, 3) := by decide +kernel
theorem dX12_span_27 : decode cX12_span 27 = .ok (.ifCond .ne 5, 3) := by decide +kernel
theorem dX12_span_30 : decode cX12_span 30 = .ok (.iconst (-1), 1) := by decide +kernel
theorem dX12_span_31 : decode cX12_span 31 = .ok (.ireturn, 1) := by decide +kernel
theorem dX12_span_32 : decode cX12_span 32 = .ok (.iconst 0, 1) := by decide +kernel
theorem dX12_span_33 : decode cX12_span 33 = .ok (.istore 4, 2) := by decide +kernel
theorem dX12_span_35 : decode cX12_span 35 = .ok (.iconst (-1), 1) := by decide +kernel
theorem dX12_span_36 : decode cX12_span 36 = .ok (.istore 5, 2) := by decide +kernel
theorem dX12_span_38 : decode cX12_span 38 = .ok (.iconst 0, 1) := by decide +kernel
theorem dX12_span_39 : decode cX12_span 39 = .ok (.istore 6, 2) := by decide +kernel
theorem dX12_span_41 : decode cX12_span 41 = .ok (.iload 6, 2) := by decide +kernel
theorem dX12_span_43 : decode cX12_span 43 = .ok (.aload_n 0, 1) := by decide +kernel
theorem dX12_span_44 : decode cX12_span 44 = .ok (.getfield 33, 3) := by decide +kernel
theorem dX12_span_47 : decode cX12_span 47 = .ok (.iconst 0, 1) := by decide +kernel
theorem dX12_span_48 : decode cX12_span 48 = .ok (.iaload, 1) := by decide +kernel
theorem dX12_span_49 : decode cX12_span 49 = .ok (.if_icmp .ge 104, 3) := by decide +kernel
theorem dX12_span_52 : decode cX12_span 52 = .ok (.aload_n 0, 1) := by decide +kernel
theorem dX12_span_53 : decode cX12_span 53 = .ok (.iload 6, 2) := by decide +kernel
theorem dX12_span_55 : decode cX12_span 55 = .ok (.invokevirtual 282, 3) := by decide +kernel
theorem dX12_span_58 : decode cX12_span 58 = .ok (.iconst 1, 1) := by decide +kernel
theorem dX12_span_59 : decode cX12_span 59 = .ok (.istore 7, 2) := by decide +kernel
theorem dX12_span_61 : decode cX12_span 61 = .ok (.iconst 0, 1) := by decide +kernel
theorem dX12_span_62 : decode cX12_span 62 = .ok (.istore 8, 2) := by decide +kernel
theorem dX12_span_64 : decode cX12_span 64 = .ok (.iload 8, 2) := by decide +kernel
theorem dX12_span_66 : decode cX12_span 66 = .ok (.aload_n 0, 1) := by decide +kernel
theorem dX12_span_67 : decode cX12_span 67 = .ok (.getfield 270, 3) := by decide +kernel
theorem dX12_span_70 : decode cX12_span 70 = .ok (.if_icmp .ge 25, 3) := by decide +kernel
theorem dX12_span_73 : decode cX12_span 73 = .ok (.iload 7, 2) := by decide +kernel
theorem dX12_span_75 : decode cX12_span 75 = .ok (.aload_n 0, 1) := by decide +kernel
theorem dX12_span_76 : decode cX12_span 76 = .ok (.aload_n 0, 1) := by decide +kernel
theorem dX12_span_77 : decode cX12_span 77 = .ok (.getfield 50, 3) := by decide +kernel
theorem dX12_span_80 : decode cX12_span 80 = .ok (.iload 8, 2) := by decide +kernel
theorem dX12_span_82 : decode cX12_span 82 = .ok (.iaload, 1) := by decide +kernel
theorem dX12_span_83 : decode cX12_span 83 = .ok (.invokevirtual 273, 3) := by decide +kernel
theorem dX12_span_86 : decode cX12_span 86 = .ok (.iadd, 1) := by decide +kernel
theorem dX12_span_87 : decode cX12_span 87 = .ok (.istore 7, 2) := by decide +kernel
theorem dX12_span_89 : decode cX12_span 89 = .ok (.iinc 8 1, 3) := by decide +kernel
theorem dX12_span_92 : decode cX12_span 92 = .ok (.goto (-28), 3) := by decide +kernel
theorem dX12_span_95 : decode cX12_span 95 = .ok (.iload_n 1, 1) := by decide +kernel
theorem dX12_span_96 : decode cX12_span 96 = .ok (.iload 6, 2) := by decide +kernel
theorem dX12_span_98 : decode cX12_span 98 = .ok (.iload 7, 2) := by decide +kernel
theorem dX12_span_100 : decode cX12_span 100 = .ok (.isub, 1) := by decide +kernel
theorem dX12_span_101 : decode cX12_span 101 = .ok (.iconst 1, 1) := by decide +kernel
theorem dX12_span_102 : decode cX12_span 102 = .ok (.iadd, 1) := by decide +kernel
theorem dX12_span_103 : decode cX12_span 103 = .ok (.iload 6, 2) := by decide +kernel
theorem dX12_span_105 : decode cX12_span 105 = .ok (.invokestatic 182, 3) := by decide +kernel
theorem dX12_span_108 : decode cX12_span 108 = .ok (.ifCond .eq 39, 3) := by decide +kernel
theorem dX12_span_111 : decode cX12_span 111 = .ok (.iload_n 2, 1) := by decide +kernel
theorem dX12_span_112 : decode cX12_span 112 = .ok (.iload 6, 2) := by decide +kernel
theorem dX12_span_114 : decode cX12_span 114 = .ok (.iload 7, 2) := by decide +kernel
theorem dX12_span_116 : decode cX12_span 116 = .ok (.isub, 1) := by decide +kernel
theorem dX12_span_117 : decode cX12_span 117 = .ok (.iconst 1, 1) := by decide +kernel
theorem dX12_span_118 : decode cX12_span 118 = .ok (.iadd, 1) := by decide +kernel
theorem dX12_span_119 : decode cX12_span 119 = .ok (.iload 6, 2) := by decide +kernel
theorem dX12_span_121 : decode cX12_span 121 = .ok (.invokestatic 182, 3) := by decide +kernel
theorem dX12_span_124 : decode cX12_span 124 = .ok (.ifCond .ne 6, 3) := by decide +kernel
theorem dX12_span_127 : decode cX12_span 127 = .ok (.goto 20, 3) := by decide +kernel
theorem dX12_span_130 : decode cX12_span 130 = .ok (.iload 4, 2) := by decide +kernel
theorem dX12_span_132 : decode cX12_span 132 = .ok (.ifCond .ne 8, 3) := by decide +kernel
theorem dX12_span_135 : decode cX12_span 135 = .ok (.iload 6, 2) := by decide +kernel
theorem dX12_span_137 : decode cX12_span 137 = .ok (.goto 5, 3) := by decide +kernel
theorem dX12_span_140 : decode cX12_span 140 = .ok (.iload 5, 2) := by decide +kernel
theorem dX12_span_142 : decode cX12_span 142 = .ok (.istore 5, 2) := by decide +kernel
theorem dX12_span_144 : decode cX12_span 144 = .ok (.iinc 4 1, 3) := by decide +kernel
theorem dX12_span_147 : decode cX12_span 147 = .ok (.iinc 6 1, 3) := by decide +kernel
theorem dX12_span_150 : decode cX12_span 150 = .ok (.goto (-109), 3) := by decide +kernel
theorem dX12_span_153 : decode cX12_span 153 = .ok (.iload_n 3, 1) := by decide +kernel
theorem dX12_span_154 : decode cX12_span 154 = .ok (.ifCond .ne 8, 3) := by decide +kernel
theorem dX12_span_157 : decode cX12_span 157 = .ok (.iload 4, 2) := by decide +kernel
theorem dX12_span_159 : decode cX12_span 159 = .ok (.goto 5, 3) := by decide +kernel
theorem dX12_span_162 : decode cX12_span 162 = .ok (.iload 5, 2) := by decide +kernel
theorem dX12_span_164 : decode cX12_span 164 = .ok (.ireturn, 1) := by decide +kernel
theorem dX12_areUnits_0 : decode cX12_areUnits 0 = .ok (.aload_n 0, 1) := by decide +kernel
theorem dX12_areUnits_1 : decode cX12_areUnits 1 = .ok (.iload_n 1, 1) := by decide +kernel
theorem dX12_areUnits_2 : decode cX12_areUnits 2 = .ok (.invokevirtual 291, 3) := by decide +kernel
theorem dX12_areUnits_5 : decode cX12_areUnits 5 = .ok (.ifCond .eq 20, 3) := by decide +kernel
theorem dX12_areUnits_8 : decode cX12_areUnits 8 = .ok (.aload_n 0, 1) := by decide +kernel
theorem dX12_areUnits_9 : decode cX12_areUnits 9 = .ok (.iload_n 2, 1) := by decide +kernel
theorem dX12_areUnits_10 : decode cX12_areUnits 10 = .ok (.invokevirtual 291, 3) := by decide +kernel
theorem dX12_areUnits_13 : decode cX12_areUnits 13 = .ok (.ifCond .eq 12, 3) := by decide +kernel
theorem dX12_areUnits_16 : decode cX12_areUnits 16 = .ok (.iload_n 1, 1) := by decide +kernel
theorem dX12_areUnits_17 : decode cX12_areUnits 17 = .ok (.iload_n 2, 1) := by decide +kernel
theorem dX12_areUnits_18 : decode cX12_areUnits 18 = .ok (.if_icmp .gt 7, 3) := by decide +kernel
theorem dX12_areUnits_21 : decode cX12_areUnits 21 = .ok (.iconst 1, 1) := by decide +kernel
theorem dX12_areUnits_22 : decode cX12_areUnits 22 = .ok (.goto 4, 3) := by decide +kernel
theorem dX12_areUnits_25 : decode cX12_areUnits 25 = .ok (.iconst 0, 1) := by decide +kernel
theorem dX12_areUnits_26 : decode cX12_areUnits 26 = .ok (.ireturn, 1) := by decide +kernel
theorem dX12_isRun_0 : decode cX12_isRun 0 = .ok (.iload_n 0, 1) := by decide +kernel
theorem dX12_isRun_1 : decode cX12_isRun 1 = .ok (.iconst 0, 1) := by decide +kernel
theorem dX12_isRun_2 : decode cX12_isRun 2 = .ok (.ldc_w 297, 3) := by decide +kernel
theorem dX12_isRun_5 : decode cX12_isRun 5 = .ok (.invokestatic 182, 3) := by decide +kernel
theorem dX12_isRun_8 : decode cX12_isRun 8 = .ok (.ireturn, 1) := by decide +kernel
theorem dX12_comes_0 : decode cX12_comes 0 = .ok (.iload_n 3, 1) := by decide +kernel
theorem dX12_comes_1 : decode cX12_comes 1 = .ok (.istore 5, 2) := by decide +kernel
theorem dX12_comes_3 : decode cX12_comes 3 = .ok (.iload_n 1, 1) := by decide +kernel
theorem dX12_comes_4 : decode cX12_comes 4 = .ok (.iconst 1, 1) := by decide +kernel
theorem dX12_comes_5 : decode cX12_comes 5 = .ok (.iadd, 1) := by decide +kernel
theorem dX12_comes_6 : decode cX12_comes 6 = .ok (.istore 6, 2) := by decide +kernel
theorem dX12_comes_8 : decode cX12_comes 8 = .ok (.iload 6, 2) := by decide +kernel
theorem dX12_comes_10 : decode cX12_comes 10 = .ok (.iload_n 2, 1) := by decide +kernel
theorem dX12_comes_11 : decode cX12_comes 11 = .ok (.if_icmp .gt 62, 3) := by decide +kernel
theorem dX12_comes_14 : decode cX12_comes 14 = .ok (.aload_n 0, 1) := by decide +kernel
theorem dX12_comes_15 : decode cX12_comes 15 = .ok (.iload 6, 2) := by decide +kernel
theorem dX12_comes_17 : decode cX12_comes 17 = .ok (.invokevirtual 288, 3) := by decide +kernel
theorem dX12_comes_20 : decode cX12_comes 20 = .ok (.iload 5, 2) := by decide +kernel
theorem dX12_comes_22 : decode cX12_comes 22 = .ok (.aload_n 0, 1) := by decide +kernel
theorem dX12_comes_23 : decode cX12_comes 23 = .ok (.getfield 33, 3) := by decide +kernel
theorem dX12_comes_26 : decode cX12_comes 26 = .ok (.iconst 4, 1) := by decide +kernel
theorem dX12_comes_27 : decode cX12_comes 27 = .ok (.iaload, 1) := by decide +kernel
theorem dX12_comes_28 : decode cX12_comes 28 = .ok (.aload_n 0, 1) := by decide +kernel
theorem dX12_comes_29 : decode cX12_comes 29 = .ok (.getfield 279, 3) := by decide +kernel
theorem dX12_comes_32 : decode cX12_comes 32 = .ok (.isub, 1) := by decide +kernel
theorem dX12_comes_33 : decode cX12_comes 33 = .ok (.iload 6, 2) := by decide +kernel
theorem dX12_comes_35 : decode cX12_comes 35 = .ok (.iload_n 1, 1) := by decide +kernel
theorem dX12_comes_36 : decode cX12_comes 36 = .ok (.isub, 1) := by decide +kernel
theorem dX12_comes_37 : decode cX12_comes 37 = .ok (.iload 4, 2) := by decide +kernel
theorem dX12_comes_39 : decode cX12_comes 39 = .ok (.if_icmp .gt 13, 3) := by decide +kernel
theorem dX12_comes_42 : decode cX12_comes 42 = .ok (.aload_n 0, 1) := by decide +kernel
theorem dX12_comes_43 : decode cX12_comes 43 = .ok (.getfield 33, 3) := by decide +kernel
theorem dX12_comes_46 : decode cX12_comes 46 = .ok (.bipush 7, 2) := by decide +kernel
theorem dX12_comes_48 : decode cX12_comes 48 = .ok (.iaload, 1) := by decide +kernel
theorem dX12_comes_49 : decode cX12_comes 49 = .ok (.goto 4, 3) := by decide +kernel
theorem dX12_comes_52 : decode cX12_comes 52 = .ok (.iconst 0, 1) := by decide +kernel
theorem dX12_comes_53 : decode cX12_comes 53 = .ok (.iadd, 1) := by decide +kernel
theorem dX12_comes_54 : decode cX12_comes 54 = .ok (.iadd, 1) := by decide +kernel
theorem dX12_comes_55 : decode cX12_comes 55 = .ok (.istore 5, 2) := by decide +kernel
theorem dX12_comes_57 : decode cX12_comes 57 = .ok (.iload 5, 2) := by decide +kernel
theorem dX12_comes_59 : decode cX12_comes 59 = .ok (.ifCond .ge 8, 3) := by decide +kernel
theorem dX12_comes_62 : decode cX12_comes 62 = .ok (.iload 6, 2) := by decide +kernel
theorem dX12_comes_64 : decode cX12_comes 64 = .ok (.iconst 1, 1) := by decide +kernel
theorem dX12_comes_65 : decode cX12_comes 65 = .ok (.isub, 1) := by decide +kernel
theorem dX12_comes_66 : decode cX12_comes 66 = .ok (.ireturn, 1) := by decide +kernel
theorem dX12_comes_67 : decode cX12_comes 67 = .ok (.iinc 6 1, 3) := by decide +kernel
theorem dX12_comes_70 : decode cX12_comes 70 = .ok (.goto (-62), 3) := by decide +kernel
theorem dX12_comes_73 : decode cX12_comes 73 = .ok (.iload_n 2, 1) := by decide +kernel
theorem dX12_comes_74 : decode cX12_comes 74 = .ok (.ireturn, 1) := by decide +kernel
theorem dX12_climb_0 : decode cX12_climb 0 = .ok (.aload_n 0, 1) := by decide +kernel
theorem dX12_climb_1 : decode cX12_climb 1 = .ok (.iconst 0, 1) := by decide +kernel
theorem dX12_climb_2 : decode cX12_climb 2 = .ok (.putfield 1, 3) := by decide +kernel
theorem dX12_climb_5 : decode cX12_climb 5 = .ok (.aload_n 0, 1) := by decide +kernel
theorem dX12_climb_6 : decode cX12_climb 6 = .ok (.iload_n 1, 1) := by decide +kernel
theorem dX12_climb_7 : decode cX12_climb 7 = .ok (.iload_n 2, 1) := by decide +kernel
theorem dX12_climb_8 : decode cX12_climb 8 = .ok (.invokevirtual 298, 3) := by decide +kernel
theorem dX12_climb_11 : decode cX12_climb 11 = .ok (.ifCond .eq 21, 3) := by decide +kernel
theorem dX12_climb_14 : decode cX12_climb 14 = .ok (.iload_n 3, 1) := by decide +kernel
theorem dX12_climb_15 : decode cX12_climb 15 = .ok (.invokestatic 301, 3) := by decide +kernel
theorem dX12_climb_18 : decode cX12_climb 18 = .ok (.ifCond .eq 14, 3) := by decide +kernel
theorem dX12_climb_21 : decode cX12_climb 21 = .ok (.aload_n 0, 1) := by decide +kernel
theorem dX12_climb_22 : decode cX12_climb 22 = .ok (.iload_n 1, 1) := by decide +kernel
theorem dX12_climb_23 : decode cX12_climb 23 = .ok (.iload_n 2, 1) := by decide +kernel
theorem dX12_climb_24 : decode cX12_climb 24 = .ok (.iload_n 3, 1) := by decide +kernel
theorem dX12_climb_25 : decode cX12_climb 25 = .ok (.iconst 0, 1) := by decide +kernel
theorem dX12_climb_26 : decode cX12_climb 26 = .ok (.invokevirtual 304, 3) := by decide +kernel
theorem dX12_climb_29 : decode cX12_climb 29 = .ok (.goto 4, 3) := by decide +kernel
theorem dX12_climb_32 : decode cX12_climb 32 = .ok (.iconst (-1), 1) := by decide +kernel
theorem dX12_climb_33 : decode cX12_climb 33 = .ok (.ireturn, 1) := by decide +kernel
theorem dX12_needed_0 : decode cX12_needed 0 = .ok (.aload_n 0, 1) := by decide +kernel
theorem dX12_needed_1 : decode cX12_needed 1 = .ok (.iconst 0, 1) := by decide +kernel
theorem dX12_needed_2 : decode cX12_needed 2 = .ok (.putfield 1, 3) := by decide +kernel
theorem dX12_needed_5 : decode cX12_needed 5 = .ok (.aload_n 0, 1) := by decide +kernel
theorem dX12_needed_6 : decode cX12_needed 6 = .ok (.iload_n 1, 1) := by decide +kernel
theorem dX12_needed_7 : decode cX12_needed 7 = .ok (.iload_n 2, 1) := by decide +kernel
theorem dX12_needed_8 : decode cX12_needed 8 = .ok (.invokevirtual 298, 3) := by decide +kernel
theorem dX12_needed_11 : decode cX12_needed 11 = .ok (.ifCond .ne 5, 3) := by decide +kernel
theorem dX12_needed_14 : decode cX12_needed 14 = .ok (.iconst (-1), 1) := by decide +kernel
theorem dX12_needed_15 : decode cX12_needed 15 = .ok (.ireturn, 1) := by decide +kernel
theorem dX12_needed_16 : decode cX12_needed 16 = .ok (.iconst 0, 1) := by decide +kernel
theorem dX12_needed_17 : decode cX12_needed 17 = .ok (.istore_n 3, 1) := by decide +kernel
theorem dX12_needed_18 : decode cX12_needed 18 = .ok (.iconst 0, 1) := by decide +kernel
theorem dX12_needed_19 : decode cX12_needed 19 = .ok (.istore 4, 2) := by decide +kernel
theorem dX12_needed_21 : decode cX12_needed 21 = .ok (.iload_n 1, 1) := by decide +kernel
theorem dX12_needed_22 : decode cX12_needed 22 = .ok (.iconst 1, 1) := by decide +kernel
theorem dX12_needed_23 : decode cX12_needed 23 = .ok (.iadd, 1) := by decide +kernel
theorem dX12_needed_24 : decode cX12_needed 24 = .ok (.istore 5, 2) := by decide +kernel
theorem dX12_needed_26 : decode cX12_needed 26 = .ok (.iload 5, 2) := by decide +kernel
theorem dX12_needed_28 : decode cX12_needed 28 = .ok (.iload_n 2, 1) := by decide +kernel
theorem dX12_needed_29 : decode cX12_needed 29 = .ok (.if_icmp .gt 45, 3) := by decide +kernel
theorem dX12_needed_32 : decode cX12_needed 32 = .ok (.aload_n 0, 1) := by decide +kernel
theorem dX12_needed_33 : decode cX12_needed 33 = .ok (.iload 5, 2) := by decide +kernel
theorem dX12_needed_35 : decode cX12_needed 35 = .ok (.invokevirtual 288, 3) := by decide +kernel
theorem dX12_needed_38 : decode cX12_needed 38 = .ok (.iload_n 3, 1) := by decide +kernel
theorem dX12_needed_39 : decode cX12_needed 39 = .ok (.aload_n 0, 1) := by decide +kernel
theorem dX12_needed_40 : decode cX12_needed 40 = .ok (.getfield 33, 3) := by decide +kernel
theorem dX12_needed_43 : decode cX12_needed 43 = .ok (.iconst 4, 1) := by decide +kernel
theorem dX12_needed_44 : decode cX12_needed 44 = .ok (.iaload, 1) := by decide +kernel
theorem dX12_needed_45 : decode cX12_needed 45 = .ok (.aload_n 0, 1) := by decide +kernel
theorem dX12_needed_46 : decode cX12_needed 46 = .ok (.getfield 279, 3) := by decide +kernel
theorem dX12_needed_49 : decode cX12_needed 49 = .ok (.isub, 1) := by decide +kernel
theorem dX12_needed_50 : decode cX12_needed 50 = .ok (.iadd, 1) := by decide +kernel
theorem dX12_needed_51 : decode cX12_needed 51 = .ok (.istore_n 3, 1) := by decide +kernel
theorem dX12_needed_52 : decode cX12_needed 52 = .ok (.iload_n 3, 1) := by decide +kernel
theorem dX12_needed_53 : decode cX12_needed 53 = .ok (.ineg, 1) := by decide +kernel
theorem dX12_needed_54 : decode cX12_needed 54 = .ok (.iload 4, 2) := by decide +kernel
theorem dX12_needed_56 : decode cX12_needed 56 = .ok (.if_icmp .le 8, 3) := by decide +kernel
theorem dX12_needed_59 : decode cX12_needed 59 = .ok (.iload_n 3, 1) := by decide +kernel
theorem dX12_needed_60 : decode cX12_needed 60 = .ok (.ineg, 1) := by decide +kernel
theorem dX12_needed_61 : decode cX12_needed 61 = .ok (.goto 5, 3) := by decide +kernel
theorem dX12_needed_64 : decode cX12_needed 64 = .ok (.iload 4, 2) := by decide +kernel
theorem dX12_needed_66 : decode cX12_needed 66 = .ok (.istore 4, 2) := by decide +kernel
theorem dX12_needed_68 : decode cX12_needed 68 = .ok (.iinc 5 1, 3) := by decide +kernel
theorem dX12_needed_71 : decode cX12_needed 71 = .ok (.goto (-45), 3) := by decide +kernel
theorem dX12_needed_74 : decode cX12_needed 74 = .ok (.iload 4, 2) := by decide +kernel
theorem dX12_needed_76 : decode cX12_needed 76 = .ok (.ireturn, 1) := by decide +kernel
theorem dX12_sanded_0 : decode cX12_sanded 0 = .ok (.aload_n 0, 1) := by decide +kernel
theorem dX12_sanded_1 : decode cX12_sanded 1 = .ok (.iconst 0, 1) := by decide +kernel
theorem dX12_sanded_2 : decode cX12_sanded 2 = .ok (.putfield 1, 3) := by decide +kernel
theorem dX12_sanded_5 : decode cX12_sanded 5 = .ok (.aload_n 0, 1) := by decide +kernel
theorem dX12_sanded_6 : decode cX12_sanded 6 = .ok (.iload_n 1, 1) := by decide +kernel
theorem dX12_sanded_7 : decode cX12_sanded 7 = .ok (.iload_n 2, 1) := by decide +kernel
theorem dX12_sanded_8 : decode cX12_sanded 8 = .ok (.invokevirtual 298, 3) := by decide +kernel
theorem dX12_sanded_11 : decode cX12_sanded 11 = .ok (.ifCond .eq 10, 3) := by decide +kernel
theorem dX12_sanded_14 : decode cX12_sanded 14 = .ok (.iload_n 3, 1) := by decide +kernel
theorem dX12_sanded_15 : decode cX12_sanded 15 = .ok (.invokestatic 301, 3) := by decide +kernel
theorem dX12_sanded_18 : decode cX12_sanded 18 = .ok (.ifCond .ne 5, 3) := by decide +kernel
theorem dX12_sanded_21 : decode cX12_sanded 21 = .ok (.iconst (-1), 1) := by decide +kernel
theorem dX12_sanded_22 : decode cX12_sanded 22 = .ok (.ireturn, 1) := by decide +kernel
theorem dX12_sanded_23 : decode cX12_sanded 23 = .ok (.iconst 0, 1) := by decide +kernel
theorem dX12_sanded_24 : decode cX12_sanded 24 = .ok (.istore 4, 2) := by decide +kernel
theorem dX12_sanded_26 : decode cX12_sanded 26 = .ok (.iload 4, 2) := by decide +kernel
theorem dX12_sanded_28 : decode cX12_sanded 28 = .ok (.iload_n 2, 1) := by decide +kernel
theorem dX12_sanded_29 : decode cX12_sanded 29 = .ok (.iload_n 1, 1) := by decide +kernel
theorem dX12_sanded_30 : decode cX12_sanded 30 = .ok (.isub, 1) := by decide +kernel
theorem dX12_sanded_31 : decode cX12_sanded 31 = .ok (.if_icmp .gt 25, 3) := by decide +kernel
theorem dX12_sanded_34 : decode cX12_sanded 34 = .ok (.aload_n 0, 1) := by decide +kernel
theorem dX12_sanded_35 : decode cX12_sanded 35 = .ok (.iload_n 1, 1) := by decide +kernel
theorem dX12_sanded_36 : decode cX12_sanded 36 = .ok (.iload_n 2, 1) := by decide +kernel
theorem dX12_sanded_37 : decode cX12_sanded 37 = .ok (.iload_n 3, 1) := by decide +kernel
theorem dX12_sanded_38 : decode cX12_sanded 38 = .ok (.iload 4, 2) := by decide +kernel
theorem dX12_sanded_40 : decode cX12_sanded 40 = .ok (.invokevirtual 304, 3) := by decide +kernel
theorem dX12_sanded_43 : decode cX12_sanded 43 = .ok (.iload_n 2, 1) := by decide +kernel
theorem dX12_sanded_44 : decode cX12_sanded 44 = .ok (.if_icmp .ne 6, 3) := by decide +kernel
theorem dX12_sanded_47 : decode cX12_sanded 47 = .ok (.iload 4, 2) := by decide +kernel
theorem dX12_sanded_49 : decode cX12_sanded 49 = .ok (.ireturn, 1) := by decide +kernel
theorem dX12_sanded_50 : decode cX12_sanded 50 = .ok (.iinc 4 1, 3) := by decide +kernel
theorem dX12_sanded_53 : decode cX12_sanded 53 = .ok (.goto (-27), 3) := by decide +kernel
theorem dX12_sanded_56 : decode cX12_sanded 56 = .ok (.iconst (-1), 1) := by decide +kernel
theorem dX12_sanded_57 : decode cX12_sanded 57 = .ok (.ireturn, 1) := by decide +kernel
theorem dX12_isHelped_0 : decode cX12_isHelped 0 = .ok (.iload_n 3, 1) := by decide +kernel
theorem dX12_isHelped_1 : decode cX12_isHelped 1 = .ok (.istore 6, 2) := by decide +kernel
theorem dX12_isHelped_3 : decode cX12_isHelped 3 = .ok (.iload_n 1, 1) := by decide +kernel
theorem dX12_isHelped_4 : decode cX12_isHelped 4 = .ok (.iconst 1, 1) := by decide +kernel
theorem dX12_isHelped_5 : decode cX12_isHelped 5 = .ok (.iadd, 1) := by decide +kernel
theorem dX12_isHelped_6 : decode cX12_isHelped 6 = .ok (.istore 7, 2) := by decide +kernel
theorem dX12_isHelped_8 : decode cX12_isHelped 8 = .ok (.iload 7, 2) := by decide +kernel
theorem dX12_isHelped_10 : decode cX12_isHelped 10 = .ok (.iload_n 2, 1) := by decide +kernel
theorem dX12_isHelped_11 : decode cX12_isHelped 11 = .ok (.if_icmp .gt 87, 3) := by decide +kernel
theorem dX12_isHelped_14 : decode cX12_isHelped 14 = .ok (.aload_n 0, 1) := by decide +kernel
theorem dX12_isHelped_15 : decode cX12_isHelped 15 = .ok (.iload 7, 2) := by decide +kernel
theorem dX12_isHelped_17 : decode cX12_isHelped 17 = .ok (.invokevirtual 288, 3) := by decide +kernel
theorem dX12_isHelped_20 : decode cX12_isHelped 20 = .ok (.aload_n 0, 1) := by decide +kernel
theorem dX12_isHelped_21 : decode cX12_isHelped 21 = .ok (.iload 4, 2) := by decide +kernel
theorem dX12_isHelped_23 : decode cX12_isHelped 23 = .ok (.iload 5, 2) := by decide +kernel
theorem dX12_isHelped_25 : decode cX12_isHelped 25 = .ok (.invokevirtual 308, 3) := by decide +kernel
theorem dX12_isHelped_28 : decode cX12_isHelped 28 = .ok (.iload 6, 2) := by decide +kernel
theorem dX12_isHelped_30 : decode cX12_isHelped 30 = .ok (.aload_n 0, 1) := by decide +kernel
theorem dX12_isHelped_31 : decode cX12_isHelped 31 = .ok (.getfield 33, 3) := by decide +kernel
theorem dX12_isHelped_34 : decode cX12_isHelped 34 = .ok (.iconst 4, 1) := by decide +kernel
theorem dX12_isHelped_35 : decode cX12_isHelped 35 = .ok (.iaload, 1) := by decide +kernel
theorem dX12_isHelped_36 : decode cX12_isHelped 36 = .ok (.aload_n 0, 1) := by decide +kernel
theorem dX12_isHelped_37 : decode cX12_isHelped 37 = .ok (.getfield 279, 3) := by decide +kernel
theorem dX12_isHelped_40 : decode cX12_isHelped 40 = .ok (.isub, 1) := by decide +kernel
theorem dX12_isHelped_41 : decode cX12_isHelped 41 = .ok (.iadd, 1) := by decide +kernel
theorem dX12_isHelped_42 : decode cX12_isHelped 42 = .ok (.istore 6, 2) := by decide +kernel
theorem dX12_isHelped_44 : decode cX12_isHelped 44 = .ok (.iload 6, 2) := by decide +kernel
theorem dX12_isHelped_46 : decode cX12_isHelped 46 = .ok (.ifCond .ge 5, 3) := by decide +kernel
theorem dX12_isHelped_49 : decode cX12_isHelped 49 = .ok (.iconst 0, 1) := by decide +kernel
theorem dX12_isHelped_50 : decode cX12_isHelped 50 = .ok (.ireturn, 1) := by decide +kernel
theorem dX12_isHelped_51 : decode cX12_isHelped 51 = .ok (.iconst 0, 1) := by decide +kernel
theorem dX12_isHelped_52 : decode cX12_isHelped 52 = .ok (.istore 8, 2) := by decide +kernel
theorem dX12_isHelped_54 : decode cX12_isHelped 54 = .ok (.iload 8, 2) := by decide +kernel
theorem dX12_isHelped_56 : decode cX12_isHelped 56 = .ok (.aload_n 0, 1) := by decide +kernel
theorem dX12_isHelped_57 : decode cX12_isHelped 57 = .ok (.getfield 270, 3) := by decide +kernel
theorem dX12_isHelped_60 : decode cX12_isHelped 60 = .ok (.if_icmp .ge 32, 3) := by decide +kernel
theorem dX12_isHelped_63 : decode cX12_isHelped 63 = .ok (.aload_n 0, 1) := by decide +kernel
theorem dX12_isHelped_64 : decode cX12_isHelped 64 = .ok (.getfield 56, 3) := by decide +kernel
theorem dX12_isHelped_67 : decode cX12_isHelped 67 = .ok (.iload 8, 2) := by decide +kernel
theorem dX12_isHelped_69 : decode cX12_isHelped 69 = .ok (.iaload, 1) := by decide +kernel
theorem dX12_isHelped_70 : decode cX12_isHelped 70 = .ok (.aload_n 0, 1) := by decide +kernel
theorem dX12_isHelped_71 : decode cX12_isHelped 71 = .ok (.aload_n 0, 1) := by decide +kernel
theorem dX12_isHelped_72 : decode cX12_isHelped 72 = .ok (.getfield 50, 3) := by decide +kernel
theorem dX12_isHelped_75 : decode cX12_isHelped 75 = .ok (.iload 8, 2) := by decide +kernel
theorem dX12_isHelped_77 : decode cX12_isHelped 77 = .ok (.iaload, 1) := by decide +kernel
theorem dX12_isHelped_78 : decode cX12_isHelped 78 = .ok (.invokevirtual 312, 3) := by decide +kernel
theorem dX12_isHelped_81 : decode cX12_isHelped 81 = .ok (.if_icmp .le 5, 3) := by decide +kernel
theorem dX12_isHelped_84 : decode cX12_isHelped 84 = .ok (.iconst 0, 1) := by decide +kernel
theorem dX12_isHelped_85 : decode cX12_isHelped 85 = .ok (.ireturn, 1) := by decide +kernel
theorem dX12_isHelped_86 : decode cX12_isHelped 86 = .ok (.iinc 8 1, 3) := by decide +kernel
theorem dX12_isHelped_89 : decode cX12_isHelped 89 = .ok (.goto (-35), 3) := by decide +kernel
theorem dX12_isHelped_92 : decode cX12_isHelped 92 = .ok (.iinc 7 1, 3) := by decide +kernel
theorem dX12_isHelped_95 : decode cX12_isHelped 95 = .ok (.goto (-87), 3) := by decide +kernel
theorem dX12_isHelped_98 : decode cX12_isHelped 98 = .ok (.iconst 1, 1) := by decide +kernel
theorem dX12_isHelped_99 : decode cX12_isHelped 99 = .ok (.ireturn, 1) := by decide +kernel
theorem dX12_helped_0 : decode cX12_helped 0 = .ok (.aload_n 0, 1) := by decide +kernel
theorem dX12_helped_1 : decode cX12_helped 1 = .ok (.iconst 0, 1) := by decide +kernel
theorem dX12_helped_2 : decode cX12_helped 2 = .ok (.putfield 1, 3) := by decide +kernel
theorem dX12_helped_5 : decode cX12_helped 5 = .ok (.aload_n 0, 1) := by decide +kernel
theorem dX12_helped_6 : decode cX12_helped 6 = .ok (.iload_n 1, 1) := by decide +kernel
theorem dX12_helped_7 : decode cX12_helped 7 = .ok (.iload_n 2, 1) := by decide +kernel
theorem dX12_helped_8 : decode cX12_helped 8 = .ok (.invokevirtual 298, 3) := by decide +kernel
theorem dX12_helped_11 : decode cX12_helped 11 = .ok (.ifCond .eq 22, 3) := by decide +kernel
theorem dX12_helped_14 : decode cX12_helped 14 = .ok (.iload_n 3, 1) := by decide +kernel
theorem dX12_helped_15 : decode cX12_helped 15 = .ok (.invokestatic 301, 3) := by decide +kernel
theorem dX12_helped_18 : decode cX12_helped 18 = .ok (.ifCond .eq 15, 3) := by decide +kernel
theorem dX12_helped_21 : decode cX12_helped 21 = .ok (.iload 4, 2) := by decide +kernel
theorem dX12_helped_23 : decode cX12_helped 23 = .ok (.iconst 1, 1) := by decide +kernel
theorem dX12_helped_24 : decode cX12_helped 24 = .ok (.sipush 999, 3) := by decide +kernel
theorem dX12_helped_27 : decode cX12_helped 27 = .ok (.invokestatic 182, 3) := by decide +kernel
theorem dX12_helped_30 : decode cX12_helped 30 = .ok (.ifCond .ne 5, 3) := by decide +kernel
theorem dX12_helped_33 : decode cX12_helped 33 = .ok (.iconst (-1), 1) := by decide +kernel
theorem dX12_helped_34 : decode cX12_helped 34 = .ok (.ireturn, 1) := by decide +kernel
theorem dX12_helped_35 : decode cX12_helped 35 = .ok (.aload_n 0, 1) := by decide +kernel
theorem dX12_helped_36 : decode cX12_helped 36 = .ok (.iload_n 1, 1) := by decide +kernel
theorem dX12_helped_37 : decode cX12_helped 37 = .ok (.invokevirtual 282, 3) := by decide +kernel
theorem dX12_helped_40 : decode cX12_helped 40 = .ok (.aload_n 0, 1) := by decide +kernel
theorem dX12_helped_41 : decode cX12_helped 41 = .ok (.getfield 270, 3) := by decide +kernel
theorem dX12_helped_44 : decode cX12_helped 44 = .ok (.istore 5, 2) := by decide +kernel
theorem dX12_helped_46 : decode cX12_helped 46 = .ok (.iconst 0, 1) := by decide +kernel
theorem dX12_helped_47 : decode cX12_helped 47 = .ok (.istore 6, 2) := by decide +kernel
theorem dX12_helped_49 : decode cX12_helped 49 = .ok (.iconst 0, 1) := by decide +kernel
theorem dX12_helped_50 : decode cX12_helped 50 = .ok (.istore 7, 2) := by decide +kernel
theorem dX12_helped_52 : decode cX12_helped 52 = .ok (.iload 7, 2) := by decide +kernel
theorem dX12_helped_54 : decode cX12_helped 54 = .ok (.iload 5, 2) := by decide +kernel
theorem dX12_helped_56 : decode cX12_helped 56 = .ok (.if_icmp .ge 36, 3) := by decide +kernel
theorem dX12_helped_59 : decode cX12_helped 59 = .ok (.iload 6, 2) := by decide +kernel
theorem dX12_helped_61 : decode cX12_helped 61 = .ok (.aload_n 0, 1) := by decide +kernel
theorem dX12_helped_62 : decode cX12_helped 62 = .ok (.iload_n 1, 1) := by decide +kernel
theorem dX12_helped_63 : decode cX12_helped 63 = .ok (.iload_n 2, 1) := by decide +kernel
theorem dX12_helped_64 : decode cX12_helped 64 = .ok (.iload_n 3, 1) := by decide +kernel
theorem dX12_helped_65 : decode cX12_helped 65 = .ok (.iload 7, 2) := by decide +kernel
theorem dX12_helped_67 : decode cX12_helped 67 = .ok (.iload 4, 2) := by decide +kernel
theorem dX12_helped_69 : decode cX12_helped 69 = .ok (.invokevirtual 315, 3) := by decide +kernel
theorem dX12_helped_72 : decode cX12_helped 72 = .ok (.ifCond .eq 10, 3) := by decide +kernel
theorem dX12_helped_75 : decode cX12_helped 75 = .ok (.iconst 1, 1) := by decide +kernel
theorem dX12_helped_76 : decode cX12_helped 76 = .ok (.iload 7, 2) := by decide +kernel
theorem dX12_helped_78 : decode cX12_helped 78 = .ok (.ishl, 1) := by decide +kernel
theorem dX12_helped_79 : decode cX12_helped 79 = .ok (.goto 4, 3) := by decide +kernel
theorem dX12_helped_82 : decode cX12_helped 82 = .ok (.iconst 0, 1) := by decide +kernel
theorem dX12_helped_83 : decode cX12_helped 83 = .ok (.ior, 1) := by decide +kernel
theorem dX12_helped_84 : decode cX12_helped 84 = .ok (.istore 6, 2) := by decide +kernel
theorem dX12_helped_86 : decode cX12_helped 86 = .ok (.iinc 7 1, 3) := by decide +kernel
theorem dX12_helped_89 : decode cX12_helped 89 = .ok (.goto (-37), 3) := by decide +kernel
theorem dX12_helped_92 : decode cX12_helped 92 = .ok (.iload 6, 2) := by decide +kernel
theorem dX12_helped_94 : decode cX12_helped 94 = .ok (.ireturn, 1) := by decide +kernel
theorem dX12_inserts_0 : decode cX12_inserts 0 = .ok (.aload_n 0, 1) := by decide +kernel
theorem dX12_inserts_1 : decode cX12_inserts 1 = .ok (.getfield 270, 3) := by decide +kernel
theorem dX12_inserts_4 : decode cX12_inserts 4 = .ok (.istore 4, 2) := by decide +kernel
theorem dX12_inserts_6 : decode cX12_inserts 6 = .ok (.iload 4, 2) := by decide +kernel
theorem dX12_inserts_8 : decode cX12_inserts 8 = .ok (.iload_n 1, 1) := by decide +kernel
theorem dX12_inserts_9 : decode cX12_inserts 9 = .ok (.if_icmp .le 57, 3) := by decide +kernel
theorem dX12_inserts_12 : decode cX12_inserts 12 = .ok (.aload_n 0, 1) := by decide +kernel
theorem dX12_inserts_13 : decode cX12_inserts 13 = .ok (.getfield 50, 3) := by decide +kernel
theorem dX12_inserts_16 : decode cX12_inserts 16 = .ok (.iload 4, 2) := by decide +kernel
theorem dX12_inserts_18 : decode cX12_inserts 18 = .ok (.aload_n 0, 1) := by decide +kernel
theorem dX12_inserts_19 : decode cX12_inserts 19 = .ok (.getfield 50, 3) := by decide +kernel
theorem dX12_inserts_22 : decode cX12_inserts 22 = .ok (.iload 4, 2) := by decide +kernel
theorem dX12_inserts_24 : decode cX12_inserts 24 = .ok (.iconst 1, 1) := by decide +kernel
theorem dX12_inserts_25 : decode cX12_inserts 25 = .ok (.isub, 1) := by decide +kernel
theorem dX12_inserts_26 : decode cX12_inserts 26 = .ok (.iaload, 1) := by decide +kernel
theorem dX12_inserts_27 : decode cX12_inserts 27 = .ok (.iastore, 1) := by decide +kernel
theorem dX12_inserts_28 : decode cX12_inserts 28 = .ok (.aload_n 0, 1) := by decide +kernel
theorem dX12_inserts_29 : decode cX12_inserts 29 = .ok (.getfield 59, 3) := by decide +kernel
theorem dX12_inserts_32 : decode cX12_inserts 32 = .ok (.iload 4, 2) := by decide +kernel
theorem dX12_inserts_34 : decode cX12_inserts 34 = .ok (.aload_n 0, 1) := by decide +kernel
theorem dX12_inserts_35 : decode cX12_inserts 35 = .ok (.getfield 59, 3) := by decide +kernel
theorem dX12_inserts_38 : decode cX12_inserts 38 = .ok (.iload 4, 2) := by decide +kernel
theorem dX12_inserts_40 : decode cX12_inserts 40 = .ok (.iconst 1, 1) := by decide +kernel
theorem dX12_inserts_41 : decode cX12_inserts 41 = .ok (.isub, 1) := by decide +kernel
theorem dX12_inserts_42 : decode cX12_inserts 42 = .ok (.iaload, 1) := by decide +kernel
theorem dX12_inserts_43 : decode cX12_inserts 43 = .ok (.iastore, 1) := by decide +kernel
theorem dX12_inserts_44 : decode cX12_inserts 44 = .ok (.aload_n 0, 1) := by decide +kernel
theorem dX12_inserts_45 : decode cX12_inserts 45 = .ok (.getfield 62, 3) := by decide +kernel
theorem dX12_inserts_48 : decode cX12_inserts 48 = .ok (.iload 4, 2) := by decide +kernel
theorem dX12_inserts_50 : decode cX12_inserts 50 = .ok (.aload_n 0, 1) := by decide +kernel
theorem dX12_inserts_51 : decode cX12_inserts 51 = .ok (.getfield 62, 3) := by decide +kernel
theorem dX12_inserts_54 : decode cX12_inserts 54 = .ok (.iload 4, 2) := by decide +kernel
theorem dX12_inserts_56 : decode cX12_inserts 56 = .ok (.iconst 1, 1) := by decide +kernel
theorem dX12_inserts_57 : decode cX12_inserts 57 = .ok (.isub, 1) := by decide +kernel
theorem dX12_inserts_58 : decode cX12_inserts 58 = .ok (.iaload, 1) := by decide +kernel
theorem dX12_inserts_59 : decode cX12_inserts 59 = .ok (.iastore, 1) := by decide +kernel
theorem dX12_inserts_60 : decode cX12_inserts 60 = .ok (.iinc 4 (-1), 3) := by decide +kernel
theorem dX12_inserts_63 : decode cX12_inserts 63 = .ok (.goto (-57), 3) := by decide +kernel
theorem dX12_inserts_66 : decode cX12_inserts 66 = .ok (.aload_n 0, 1) := by decide +kernel
theorem dX12_inserts_67 : decode cX12_inserts 67 = .ok (.getfield 50, 3) := by decide +kernel
theorem dX12_inserts_70 : decode cX12_inserts 70 = .ok (.iload_n 1, 1) := by decide +kernel
theorem dX12_inserts_71 : decode cX12_inserts 71 = .ok (.iload_n 2, 1) := by decide +kernel
theorem dX12_inserts_72 : decode cX12_inserts 72 = .ok (.iastore, 1) := by decide +kernel
theorem dX12_inserts_73 : decode cX12_inserts 73 = .ok (.aload_n 0, 1) := by decide +kernel
theorem dX12_inserts_74 : decode cX12_inserts 74 = .ok (.getfield 59, 3) := by decide +kernel
theorem dX12_inserts_77 : decode cX12_inserts 77 = .ok (.iload_n 1, 1) := by decide +kernel
theorem dX12_inserts_78 : decode cX12_inserts 78 = .ok (.iload_n 3, 1) := by decide +kernel
theorem dX12_inserts_79 : decode cX12_inserts 79 = .ok (.iastore, 1) := by decide +kernel
theorem dX12_inserts_80 : decode cX12_inserts 80 = .ok (.aload_n 0, 1) := by decide +kernel
theorem dX12_inserts_81 : decode cX12_inserts 81 = .ok (.getfield 62, 3) := by decide +kernel
