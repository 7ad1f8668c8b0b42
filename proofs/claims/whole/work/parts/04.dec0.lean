theorem dX0_init_0 : decode cX0_init 0 = .ok (.aload_n 0, 1) := by decide +kernel
theorem dX0_init_1 : decode cX0_init 1 = .ok (.invokespecial 3, 3) := by decide +kernel
theorem dX0_init_4 : decode cX0_init 4 = .ok (.aload_n 0, 1) := by decide +kernel
theorem dX0_init_5 : decode cX0_init 5 = .ok (.iload_n 1, 1) := by decide +kernel
theorem dX0_init_6 : decode cX0_init 6 = .ok (.putfield 9, 3) := by decide +kernel
theorem dX0_init_9 : decode cX0_init 9 = .ok (.aload_n 0, 1) := by decide +kernel
theorem dX0_init_10 : decode cX0_init 10 = .ok (.aload_n 2, 1) := by decide +kernel
theorem dX0_init_11 : decode cX0_init 11 = .ok (.putfield 15, 3) := by decide +kernel
theorem dX0_init_14 : decode cX0_init 14 = .ok (.aload_n 0, 1) := by decide +kernel
theorem dX0_init_15 : decode cX0_init 15 = .ok (.aconst_null, 1) := by decide +kernel
theorem dX0_init_16 : decode cX0_init 16 = .ok (.putfield 19, 3) := by decide +kernel
theorem dX0_init_19 : decode cX0_init 19 = .ok (.aload_n 0, 1) := by decide +kernel
theorem dX0_init_20 : decode cX0_init 20 = .ok (.iconst 0, 1) := by decide +kernel
theorem dX0_init_21 : decode cX0_init 21 = .ok (.putfield 22, 3) := by decide +kernel
theorem dX0_init_24 : decode cX0_init 24 = .ok (.aload_n 0, 1) := by decide +kernel
theorem dX0_init_25 : decode cX0_init 25 = .ok (.aconst_null, 1) := by decide +kernel
theorem dX0_init_26 : decode cX0_init 26 = .ok (.putfield 26, 3) := by decide +kernel
theorem dX0_init_29 : decode cX0_init 29 = .ok (.return_, 1) := by decide +kernel
theorem dX0_placeOn_0 : decode cX0_placeOn 0 = .ok (.aload_n 0, 1) := by decide +kernel
theorem dX0_placeOn_1 : decode cX0_placeOn 1 = .ok (.getfield 15, 3) := by decide +kernel
theorem dX0_placeOn_4 : decode cX0_placeOn 4 = .ok (.ifnull 19, 3) := by decide +kernel
theorem dX0_placeOn_7 : decode cX0_placeOn 7 = .ok (.aload_n 0, 1) := by decide +kernel
theorem dX0_placeOn_8 : decode cX0_placeOn 8 = .ok (.getfield 15, 3) := by decide +kernel
theorem dX0_placeOn_11 : decode cX0_placeOn 11 = .ok (.getfield 30, 3) := by decide +kernel
theorem dX0_placeOn_14 : decode cX0_placeOn 14 = .ok (.aload_n 1, 1) := by decide +kernel
theorem dX0_placeOn_15 : decode cX0_placeOn 15 = .ok (.if_acmp .ne 8, 3) := by decide +kernel
theorem dX0_placeOn_18 : decode cX0_placeOn 18 = .ok (.aload_n 0, 1) := by decide +kernel
theorem dX0_placeOn_19 : decode cX0_placeOn 19 = .ok (.getfield 15, 3) := by decide +kernel
theorem dX0_placeOn_22 : decode cX0_placeOn 22 = .ok (.areturn, 1) := by decide +kernel
theorem dX0_placeOn_23 : decode cX0_placeOn 23 = .ok (.aload_n 0, 1) := by decide +kernel
theorem dX0_placeOn_24 : decode cX0_placeOn 24 = .ok (.getfield 19, 3) := by decide +kernel
theorem dX0_placeOn_27 : decode cX0_placeOn 27 = .ok (.ifnull 19, 3) := by decide +kernel
theorem dX0_placeOn_30 : decode cX0_placeOn 30 = .ok (.aload_n 0, 1) := by decide +kernel
theorem dX0_placeOn_31 : decode cX0_placeOn 31 = .ok (.getfield 19, 3) := by decide +kernel
theorem dX0_placeOn_34 : decode cX0_placeOn 34 = .ok (.getfield 30, 3) := by decide +kernel
theorem dX0_placeOn_37 : decode cX0_placeOn 37 = .ok (.aload_n 1, 1) := by decide +kernel
theorem dX0_placeOn_38 : decode cX0_placeOn 38 = .ok (.if_acmp .ne 8, 3) := by decide +kernel
theorem dX0_placeOn_41 : decode cX0_placeOn 41 = .ok (.aload_n 0, 1) := by decide +kernel
theorem dX0_placeOn_42 : decode cX0_placeOn 42 = .ok (.getfield 19, 3) := by decide +kernel
theorem dX0_placeOn_45 : decode cX0_placeOn 45 = .ok (.areturn, 1) := by decide +kernel
theorem dX0_placeOn_46 : decode cX0_placeOn 46 = .ok (.aconst_null, 1) := by decide +kernel
theorem dX0_placeOn_47 : decode cX0_placeOn 47 = .ok (.areturn, 1) := by decide +kernel
theorem dX0_hasAddress_0 : decode cX0_hasAddress 0 = .ok (.aload_n 0, 1) := by decide +kernel
theorem dX0_hasAddress_1 : decode cX0_hasAddress 1 = .ok (.getfield 15, 3) := by decide +kernel
theorem dX0_hasAddress_4 : decode cX0_hasAddress 4 = .ok (.ifnull 15, 3) := by decide +kernel
theorem dX0_hasAddress_7 : decode cX0_hasAddress 7 = .ok (.aload_n 0, 1) := by decide +kernel
theorem dX0_hasAddress_8 : decode cX0_hasAddress 8 = .ok (.getfield 15, 3) := by decide +kernel
theorem dX0_hasAddress_11 : decode cX0_hasAddress 11 = .ok (.lload_n 1, 1) := by decide +kernel
theorem dX0_hasAddress_12 : decode cX0_hasAddress 12 = .ok (.iload_n 3, 1) := by decide +kernel
theorem dX0_hasAddress_13 : decode cX0_hasAddress 13 = .ok (.invokevirtual 36, 3) := by decide +kernel
theorem dX0_hasAddress_16 : decode cX0_hasAddress 16 = .ok (.ifCond .ne 22, 3) := by decide +kernel
theorem dX0_hasAddress_19 : decode cX0_hasAddress 19 = .ok (.aload_n 0, 1) := by decide +kernel
theorem dX0_hasAddress_20 : decode cX0_hasAddress 20 = .ok (.getfield 19, 3) := by decide +kernel
theorem dX0_hasAddress_23 : decode cX0_hasAddress 23 = .ok (.ifnull 19, 3) := by decide +kernel
theorem dX0_hasAddress_26 : decode cX0_hasAddress 26 = .ok (.aload_n 0, 1) := by decide +kernel
theorem dX0_hasAddress_27 : decode cX0_hasAddress 27 = .ok (.getfield 19, 3) := by decide +kernel
theorem dX0_hasAddress_30 : decode cX0_hasAddress 30 = .ok (.lload_n 1, 1) := by decide +kernel
theorem dX0_hasAddress_31 : decode cX0_hasAddress 31 = .ok (.iload_n 3, 1) := by decide +kernel
theorem dX0_hasAddress_32 : decode cX0_hasAddress 32 = .ok (.invokevirtual 36, 3) := by decide +kernel
theorem dX0_hasAddress_35 : decode cX0_hasAddress 35 = .ok (.ifCond .eq 7, 3) := by decide +kernel
theorem dX0_hasAddress_38 : decode cX0_hasAddress 38 = .ok (.iconst 1, 1) := by decide +kernel
theorem dX0_hasAddress_39 : decode cX0_hasAddress 39 = .ok (.goto 4, 3) := by decide +kernel
theorem dX0_hasAddress_42 : decode cX0_hasAddress 42 = .ok (.iconst 0, 1) := by decide +kernel
theorem dX0_hasAddress_43 : decode cX0_hasAddress 43 = .ok (.ireturn, 1) := by decide +kernel
theorem dX0_hasAddressesAll_0 : decode cX0_hasAddressesAll 0 = .ok (.aload_n 0, 1) := by decide +kernel
theorem dX0_hasAddressesAll_1 : decode cX0_hasAddressesAll 1 = .ok (.getfield 15, 3) := by decide +kernel
theorem dX0_hasAddressesAll_4 : decode cX0_hasAddressesAll 4 = .ok (.ifnull 60, 3) := by decide +kernel
theorem dX0_hasAddressesAll_7 : decode cX0_hasAddressesAll 7 = .ok (.aload_n 0, 1) := by decide +kernel
theorem dX0_hasAddressesAll_8 : decode cX0_hasAddressesAll 8 = .ok (.getfield 15, 3) := by decide +kernel
theorem dX0_hasAddressesAll_11 : decode cX0_hasAddressesAll 11 = .ok (.getfield 40, 3) := by decide +kernel
theorem dX0_hasAddressesAll_14 : decode cX0_hasAddressesAll 14 = .ok (.ifCond .eq 50, 3) := by decide +kernel
theorem dX0_hasAddressesAll_17 : decode cX0_hasAddressesAll 17 = .ok (.aload_n 0, 1) := by decide +kernel
theorem dX0_hasAddressesAll_18 : decode cX0_hasAddressesAll 18 = .ok (.getfield 15, 3) := by decide +kernel
theorem dX0_hasAddressesAll_21 : decode cX0_hasAddressesAll 21 = .ok (.getfield 30, 3) := by decide +kernel
theorem dX0_hasAddressesAll_24 : decode cX0_hasAddressesAll 24 = .ok (.invokestatic 43, 3) := by decide +kernel
theorem dX0_hasAddressesAll_27 : decode cX0_hasAddressesAll 27 = .ok (.ifCond .eq 37, 3) := by decide +kernel
theorem dX0_hasAddressesAll_30 : decode cX0_hasAddressesAll 30 = .ok (.aload_n 0, 1) := by decide +kernel
theorem dX0_hasAddressesAll_31 : decode cX0_hasAddressesAll 31 = .ok (.getfield 19, 3) := by decide +kernel
theorem dX0_hasAddressesAll_34 : decode cX0_hasAddressesAll 34 = .ok (.ifnull 26, 3) := by decide +kernel
theorem dX0_hasAddressesAll_37 : decode cX0_hasAddressesAll 37 = .ok (.aload_n 0, 1) := by decide +kernel
theorem dX0_hasAddressesAll_38 : decode cX0_hasAddressesAll 38 = .ok (.getfield 19, 3) := by decide +kernel
theorem dX0_hasAddressesAll_41 : decode cX0_hasAddressesAll 41 = .ok (.getfield 40, 3) := by decide +kernel
theorem dX0_hasAddressesAll_44 : decode cX0_hasAddressesAll 44 = .ok (.ifCond .eq 20, 3) := by decide +kernel
theorem dX0_hasAddressesAll_47 : decode cX0_hasAddressesAll 47 = .ok (.aload_n 0, 1) := by decide +kernel
theorem dX0_hasAddressesAll_48 : decode cX0_hasAddressesAll 48 = .ok (.getfield 19, 3) := by decide +kernel
theorem dX0_hasAddressesAll_51 : decode cX0_hasAddressesAll 51 = .ok (.getfield 30, 3) := by decide +kernel
theorem dX0_hasAddressesAll_54 : decode cX0_hasAddressesAll 54 = .ok (.invokestatic 43, 3) := by decide +kernel
theorem dX0_hasAddressesAll_57 : decode cX0_hasAddressesAll 57 = .ok (.ifCond .eq 7, 3) := by decide +kernel
theorem dX0_hasAddressesAll_60 : decode cX0_hasAddressesAll 60 = .ok (.iconst 1, 1) := by decide +kernel
theorem dX0_hasAddressesAll_61 : decode cX0_hasAddressesAll 61 = .ok (.goto 4, 3) := by decide +kernel
theorem dX0_hasAddressesAll_64 : decode cX0_hasAddressesAll 64 = .ok (.iconst 0, 1) := by decide +kernel
theorem dX0_hasAddressesAll_65 : decode cX0_hasAddressesAll 65 = .ok (.ireturn, 1) := by decide +kernel
theorem dX0_losePlaceOn_0 : decode cX0_losePlaceOn 0 = .ok (.aload_n 0, 1) := by decide +kernel
theorem dX0_losePlaceOn_1 : decode cX0_losePlaceOn 1 = .ok (.getfield 15, 3) := by decide +kernel
theorem dX0_losePlaceOn_4 : decode cX0_losePlaceOn 4 = .ok (.ifnull 22, 3) := by decide +kernel
theorem dX0_losePlaceOn_7 : decode cX0_losePlaceOn 7 = .ok (.aload_n 0, 1) := by decide +kernel
theorem dX0_losePlaceOn_8 : decode cX0_losePlaceOn 8 = .ok (.getfield 15, 3) := by decide +kernel
theorem dX0_losePlaceOn_11 : decode cX0_losePlaceOn 11 = .ok (.getfield 30, 3) := by decide +kernel
theorem dX0_losePlaceOn_14 : decode cX0_losePlaceOn 14 = .ok (.aload_n 1, 1) := by decide +kernel
theorem dX0_losePlaceOn_15 : decode cX0_losePlaceOn 15 = .ok (.if_acmp .ne 11, 3) := by decide +kernel
theorem dX0_losePlaceOn_18 : decode cX0_losePlaceOn 18 = .ok (.aload_n 0, 1) := by decide +kernel
theorem dX0_losePlaceOn_19 : decode cX0_losePlaceOn 19 = .ok (.aload_n 0, 1) := by decide +kernel
theorem dX0_losePlaceOn_20 : decode cX0_losePlaceOn 20 = .ok (.getfield 19, 3) := by decide +kernel
theorem dX0_losePlaceOn_23 : decode cX0_losePlaceOn 23 = .ok (.putfield 15, 3) := by decide +kernel
theorem dX0_losePlaceOn_26 : decode cX0_losePlaceOn 26 = .ok (.aload_n 0, 1) := by decide +kernel
theorem dX0_losePlaceOn_27 : decode cX0_losePlaceOn 27 = .ok (.aconst_null, 1) := by decide +kernel
theorem dX0_losePlaceOn_28 : decode cX0_losePlaceOn 28 = .ok (.putfield 19, 3) := by decide +kernel
theorem dX0_losePlaceOn_31 : decode cX0_losePlaceOn 31 = .ok (.return_, 1) := by decide +kernel
theorem dX1_init_0 : decode cX1_init 0 = .ok (.aload_n 0, 1) := by decide +kernel
theorem dX1_init_1 : decode cX1_init 1 = .ok (.invokespecial 3, 3) := by decide +kernel
theorem dX1_init_4 : decode cX1_init 4 = .ok (.aload_n 0, 1) := by decide +kernel
theorem dX1_init_5 : decode cX1_init 5 = .ok (.bipush 40, 2) := by decide +kernel
theorem dX1_init_7 : decode cX1_init 7 = .ok (.newarray .int, 2) := by decide +kernel
theorem dX1_init_9 : decode cX1_init 9 = .ok (.putfield 9, 3) := by decide +kernel
theorem dX1_init_12 : decode cX1_init 12 = .ok (.aload_n 0, 1) := by decide +kernel
theorem dX1_init_13 : decode cX1_init 13 = .ok (.bipush 40, 2) := by decide +kernel
theorem dX1_init_15 : decode cX1_init 15 = .ok (.newarray .boolean, 2) := by decide +kernel
theorem dX1_init_17 : decode cX1_init 17 = .ok (.putfield 15, 3) := by decide +kernel
theorem dX1_init_20 : decode cX1_init 20 = .ok (.aload_n 0, 1) := by decide +kernel
theorem dX1_init_21 : decode cX1_init 21 = .ok (.bipush 40, 2) := by decide +kernel
theorem dX1_init_23 : decode cX1_init 23 = .ok (.newarray .int, 2) := by decide +kernel
theorem dX1_init_25 : decode cX1_init 25 = .ok (.putfield 19, 3) := by decide +kernel
theorem dX1_init_28 : decode cX1_init 28 = .ok (.aload_n 0, 1) := by decide +kernel
theorem dX1_init_29 : decode cX1_init 29 = .ok (.bipush 115, 2) := by decide +kernel
theorem dX1_init_31 : decode cX1_init 31 = .ok (.putfield 22, 3) := by decide +kernel
theorem dX1_init_34 : decode cX1_init 34 = .ok (.aload_n 0, 1) := by decide +kernel
theorem dX1_init_35 : decode cX1_init 35 = .ok (.iconst 0, 1) := by decide +kernel
theorem dX1_init_36 : decode cX1_init 36 = .ok (.putfield 26, 3) := by decide +kernel
theorem dX1_init_39 : decode cX1_init 39 = .ok (.aload_n 0, 1) := by decide +kernel
theorem dX1_init_40 : decode cX1_init 40 = .ok (.iconst 0, 1) := by decide +kernel
theorem dX1_init_41 : decode cX1_init 41 = .ok (.putfield 30, 3) := by decide +kernel
theorem dX1_init_44 : decode cX1_init 44 = .ok (.aload_n 0, 1) := by decide +kernel
theorem dX1_init_45 : decode cX1_init 45 = .ok (.iconst 0, 1) := by decide +kernel
theorem dX1_init_46 : decode cX1_init 46 = .ok (.putfield 34, 3) := by decide +kernel
theorem dX1_init_49 : decode cX1_init 49 = .ok (.return_, 1) := by decide +kernel
theorem dX1_open_0 : decode cX1_open 0 = .ok (.aload_n 0, 1) := by decide +kernel
theorem dX1_open_1 : decode cX1_open 1 = .ok (.getfield 19, 3) := by decide +kernel
theorem dX1_open_4 : decode cX1_open 4 = .ok (.iconst 0, 1) := by decide +kernel
theorem dX1_open_5 : decode cX1_open 5 = .ok (.invokestatic 37, 3) := by decide +kernel
theorem dX1_open_8 : decode cX1_open 8 = .ok (.aload_n 0, 1) := by decide +kernel
theorem dX1_open_9 : decode cX1_open 9 = .ok (.aload_n 1, 1) := by decide +kernel
theorem dX1_open_10 : decode cX1_open 10 = .ok (.getfield 43, 3) := by decide +kernel
theorem dX1_open_13 : decode cX1_open 13 = .ok (.putfield 22, 3) := by decide +kernel
theorem dX1_open_16 : decode cX1_open 16 = .ok (.aload_n 0, 1) := by decide +kernel
theorem dX1_open_17 : decode cX1_open 17 = .ok (.aload_n 1, 1) := by decide +kernel
theorem dX1_open_18 : decode cX1_open 18 = .ok (.getfield 46, 3) := by decide +kernel
theorem dX1_open_21 : decode cX1_open 21 = .ok (.putfield 26, 3) := by decide +kernel
theorem dX1_open_24 : decode cX1_open 24 = .ok (.aload_n 0, 1) := by decide +kernel
theorem dX1_open_25 : decode cX1_open 25 = .ok (.iload_n 2, 1) := by decide +kernel
theorem dX1_open_26 : decode cX1_open 26 = .ok (.putfield 30, 3) := by decide +kernel
theorem dX1_open_29 : decode cX1_open 29 = .ok (.aload_n 0, 1) := by decide +kernel
theorem dX1_open_30 : decode cX1_open 30 = .ok (.iload_n 3, 1) := by decide +kernel
theorem dX1_open_31 : decode cX1_open 31 = .ok (.putfield 34, 3) := by decide +kernel
theorem dX1_open_34 : decode cX1_open 34 = .ok (.return_, 1) := by decide +kernel
theorem dX1_enter_0 : decode cX1_enter 0 = .ok (.iload_n 1, 1) := by decide +kernel
theorem dX1_enter_1 : decode cX1_enter 1 = .ok (.invokestatic 47, 3) := by decide +kernel
theorem dX1_enter_4 : decode cX1_enter 4 = .ok (.ifCond .eq 46, 3) := by decide +kernel
theorem dX1_enter_7 : decode cX1_enter 7 = .ok (.aload_n 0, 1) := by decide +kernel
theorem dX1_enter_8 : decode cX1_enter 8 = .ok (.getfield 9, 3) := by decide +kernel
theorem dX1_enter_11 : decode cX1_enter 11 = .ok (.iload_n 1, 1) := by decide +kernel
theorem dX1_enter_12 : decode cX1_enter 12 = .ok (.aload_n 0, 1) := by decide +kernel
theorem dX1_enter_13 : decode cX1_enter 13 = .ok (.iload_n 1, 1) := by decide +kernel
theorem dX1_enter_14 : decode cX1_enter 14 = .ok (.iload_n 2, 1) := by decide +kernel
theorem dX1_enter_15 : decode cX1_enter 15 = .ok (.invokevirtual 51, 3) := by decide +kernel
theorem dX1_enter_18 : decode cX1_enter 18 = .ok (.iastore, 1) := by decide +kernel
theorem dX1_enter_19 : decode cX1_enter 19 = .ok (.aload_n 0, 1) := by decide +kernel
theorem dX1_enter_20 : decode cX1_enter 20 = .ok (.getfield 15, 3) := by decide +kernel
theorem dX1_enter_23 : decode cX1_enter 23 = .ok (.iload_n 1, 1) := by decide +kernel
theorem dX1_enter_24 : decode cX1_enter 24 = .ok (.iload_n 3, 1) := by decide +kernel
theorem dX1_enter_25 : decode cX1_enter 25 = .ok (.bastore, 1) := by decide +kernel
theorem dX1_enter_26 : decode cX1_enter 26 = .ok (.aload_n 0, 1) := by decide +kernel
theorem dX1_enter_27 : decode cX1_enter 27 = .ok (.getfield 19, 3) := by decide +kernel
theorem dX1_enter_30 : decode cX1_enter 30 = .ok (.iload_n 1, 1) := by decide +kernel
theorem dX1_enter_31 : decode cX1_enter 31 = .ok (.iload 4, 2) := by decide +kernel
theorem dX1_enter_33 : decode cX1_enter 33 = .ok (.iastore, 1) := by decide +kernel
theorem dX1_enter_34 : decode cX1_enter 34 = .ok (.aload_n 0, 1) := by decide +kernel
theorem dX1_enter_35 : decode cX1_enter 35 = .ok (.aload_n 0, 1) := by decide +kernel
theorem dX1_enter_36 : decode cX1_enter 36 = .ok (.getfield 34, 3) := by decide +kernel
theorem dX1_enter_39 : decode cX1_enter 39 = .ok (.iload 4, 2) := by decide +kernel
theorem dX1_enter_41 : decode cX1_enter 41 = .ok (.bipush 10, 2) := by decide +kernel
theorem dX1_enter_43 : decode cX1_enter 43 = .ok (.idiv, 1) := by decide +kernel
theorem dX1_enter_44 : decode cX1_enter 44 = .ok (.invokestatic 55, 3) := by decide +kernel
theorem dX1_enter_47 : decode cX1_enter 47 = .ok (.putfield 34, 3) := by decide +kernel
theorem dX1_enter_50 : decode cX1_enter 50 = .ok (.return_, 1) := by decide +kernel
theorem dX1_codeOf_0 : decode cX1_codeOf 0 = .ok (.iload_n 1, 1) := by decide +kernel
theorem dX1_codeOf_1 : decode cX1_codeOf 1 = .ok (.invokestatic 47, 3) := by decide +kernel
theorem dX1_codeOf_4 : decode cX1_codeOf 4 = .ok (.ifCond .eq 12, 3) := by decide +kernel
theorem dX1_codeOf_7 : decode cX1_codeOf 7 = .ok (.aload_n 0, 1) := by decide +kernel
theorem dX1_codeOf_8 : decode cX1_codeOf 8 = .ok (.getfield 19, 3) := by decide +kernel
theorem dX1_codeOf_11 : decode cX1_codeOf 11 = .ok (.iload_n 1, 1) := by decide +kernel
theorem dX1_codeOf_12 : decode cX1_codeOf 12 = .ok (.iaload, 1) := by decide +kernel
theorem dX1_codeOf_13 : decode cX1_codeOf 13 = .ok (.goto 4, 3) := by decide +kernel
theorem dX1_codeOf_16 : decode cX1_codeOf 16 = .ok (.iconst 0, 1) := by decide +kernel
theorem dX1_codeOf_17 : decode cX1_codeOf 17 = .ok (.ireturn, 1) := by decide +kernel
theorem dX1_codeFor_0 : decode cX1_codeFor 0 = .ok (.aload_n 0, 1) := by decide +kernel
theorem dX1_codeFor_1 : decode cX1_codeFor 1 = .ok (.getfield 22, 3) := by decide +kernel
theorem dX1_codeFor_4 : decode cX1_codeFor 4 = .ok (.bipush 109, 2) := by decide +kernel
theorem dX1_codeFor_6 : decode cX1_codeFor 6 = .ok (.if_icmp .ne 14, 3) := by decide +kernel
theorem dX1_codeFor_9 : decode cX1_codeFor 9 = .ok (.aload_n 0, 1) := by decide +kernel
theorem dX1_codeFor_10 : decode cX1_codeFor 10 = .ok (.aload_n 0, 1) := by decide +kernel
theorem dX1_codeFor_11 : decode cX1_codeFor 11 = .ok (.iload_n 2, 1) := by decide +kernel
theorem dX1_codeFor_12 : decode cX1_codeFor 12 = .ok (.invokevirtual 60, 3) := by decide +kernel
theorem dX1_codeFor_15 : decode cX1_codeFor 15 = .ok (.iload_n 3, 1) := by decide +kernel
theorem dX1_codeFor_16 : decode cX1_codeFor 16 = .ok (.invokevirtual 64, 3) := by decide +kernel
theorem dX1_codeFor_19 : decode cX1_codeFor 19 = .ok (.ireturn, 1) := by decide +kernel
theorem dX1_codeFor_20 : decode cX1_codeFor 20 = .ok (.aload_n 0, 1) := by decide +kernel
theorem dX1_codeFor_21 : decode cX1_codeFor 21 = .ok (.getfield 22, 3) := by decide +kernel
theorem dX1_codeFor_24 : decode cX1_codeFor 24 = .ok (.bipush 121, 2) := by decide +kernel
theorem dX1_codeFor_26 : decode cX1_codeFor 26 = .ok (.if_icmp .ne 13, 3) := by decide +kernel
theorem dX1_codeFor_29 : decode cX1_codeFor 29 = .ok (.aload_n 0, 1) := by decide +kernel
theorem dX1_codeFor_30 : decode cX1_codeFor 30 = .ok (.getfield 34, 3) := by decide +kernel
theorem dX1_codeFor_33 : decode cX1_codeFor 33 = .ok (.iconst 1, 1) := by decide +kernel
theorem dX1_codeFor_34 : decode cX1_codeFor 34 = .ok (.iadd, 1) := by decide +kernel
theorem dX1_codeFor_35 : decode cX1_codeFor 35 = .ok (.bipush 10, 2) := by decide +kernel
theorem dX1_codeFor_37 : decode cX1_codeFor 37 = .ok (.imul, 1) := by decide +kernel
theorem dX1_codeFor_38 : decode cX1_codeFor 38 = .ok (.ireturn, 1) := by decide +kernel
theorem dX1_codeFor_39 : decode cX1_codeFor 39 = .ok (.aload_n 0, 1) := by decide +kernel
theorem dX1_codeFor_40 : decode cX1_codeFor 40 = .ok (.aload_n 0, 1) := by decide +kernel
theorem dX1_codeFor_41 : decode cX1_codeFor 41 = .ok (.iload_n 1, 1) := by decide +kernel
theorem dX1_codeFor_42 : decode cX1_codeFor 42 = .ok (.iload_n 2, 1) := by decide +kernel
theorem dX1_codeFor_43 : decode cX1_codeFor 43 = .ok (.invokevirtual 51, 3) := by decide +kernel
theorem dX1_codeFor_46 : decode cX1_codeFor 46 = .ok (.iload_n 3, 1) := by decide +kernel
theorem dX1_codeFor_47 : decode cX1_codeFor 47 = .ok (.invokevirtual 68, 3) := by decide +kernel
theorem dX1_codeFor_50 : decode cX1_codeFor 50 = .ok (.ireturn, 1) := by decide +kernel
theorem dX1_codeByMetres_0 : decode cX1_codeByMetres 0 = .ok (.iconst 2, 1) := by decide +kernel
theorem dX1_codeByMetres_1 : decode cX1_codeByMetres 1 = .ok (.iload_n 1, 1) := by decide +kernel
theorem dX1_codeByMetres_2 : decode cX1_codeByMetres 2 = .ok (.bipush 10, 2) := by decide +kernel
theorem dX1_codeByMetres_4 : decode cX1_codeByMetres 4 = .ok (.idiv, 1) := by decide +kernel
theorem dX1_codeByMetres_5 : decode cX1_codeByMetres 5 = .ok (.imul, 1) := by decide +kernel
theorem dX1_codeByMetres_6 : decode cX1_codeByMetres 6 = .ok (.iload_n 2, 1) := by decide +kernel
theorem dX1_codeByMetres_7 : decode cX1_codeByMetres 7 = .ok (.ifCond .eq 7, 3) := by decide +kernel
theorem dX1_codeByMetres_10 : decode cX1_codeByMetres 10 = .ok (.iconst 1, 1) := by decide +kernel
theorem dX1_codeByMetres_11 : decode cX1_codeByMetres 11 = .ok (.goto 4, 3) := by decide +kernel
theorem dX1_codeByMetres_14 : decode cX1_codeByMetres 14 = .ok (.iconst 2, 1) := by decide +kernel
theorem dX1_codeByMetres_15 : decode cX1_codeByMetres 15 = .ok (.iadd, 1) := by decide +kernel
theorem dX1_codeByMetres_16 : decode cX1_codeByMetres 16 = .ok (.istore_n 3, 1) := by decide +kernel
theorem dX1_codeByMetres_17 : decode cX1_codeByMetres 17 = .ok (.aload_n 0, 1) := by decide +kernel
theorem dX1_codeByMetres_18 : decode cX1_codeByMetres 18 = .ok (.iload_n 3, 1) := by decide +kernel
theorem dX1_codeByMetres_19 : decode cX1_codeByMetres 19 = .ok (.bipush 10, 2) := by decide +kernel
theorem dX1_codeByMetres_21 : decode cX1_codeByMetres 21 = .ok (.imul, 1) := by decide +kernel
theorem dX1_codeByMetres_22 : decode cX1_codeByMetres 22 = .ok (.invokevirtual 71, 3) := by decide +kernel
theorem dX1_codeByMetres_25 : decode cX1_codeByMetres 25 = .ok (.ifCond .eq 11, 3) := by decide +kernel
theorem dX1_codeByMetres_28 : decode cX1_codeByMetres 28 = .ok (.aload_n 0, 1) := by decide +kernel
theorem dX1_codeByMetres_29 : decode cX1_codeByMetres 29 = .ok (.iload_n 3, 1) := by decide +kernel
theorem dX1_codeByMetres_30 : decode cX1_codeByMetres 30 = .ok (.invokevirtual 74, 3) := by decide +kernel
theorem dX1_codeByMetres_33 : decode cX1_codeByMetres 33 = .ok (.goto 7, 3) := by decide +kernel
theorem dX1_codeByMetres_36 : decode cX1_codeByMetres 36 = .ok (.iload_n 3, 1) := by decide +kernel
theorem dX1_codeByMetres_37 : decode cX1_codeByMetres 37 = .ok (.bipush 10, 2) := by decide +kernel
theorem dX1_codeByMetres_39 : decode cX1_codeByMetres 39 = .ok (.imul, 1) := by decide +kernel
theorem dX1_codeByMetres_40 : decode cX1_codeByMetres 40 = .ok (.ireturn, 1) := by decide +kernel
theorem dX1_codeBySteps_0 : decode cX1_codeBySteps 0 = .ok (.aload_n 0, 1) := by decide +kernel
theorem dX1_codeBySteps_1 : decode cX1_codeBySteps 1 = .ok (.iload_n 1, 1) := by decide +kernel
theorem dX1_codeBySteps_2 : decode cX1_codeBySteps 2 = .ok (.iload_n 2, 1) := by decide +kernel
theorem dX1_codeBySteps_3 : decode cX1_codeBySteps 3 = .ok (.invokevirtual 77, 3) := by decide +kernel
theorem dX1_codeBySteps_6 : decode cX1_codeBySteps 6 = .ok (.istore_n 3, 1) := by decide +kernel
theorem dX1_codeBySteps_7 : decode cX1_codeBySteps 7 = .ok (.aload_n 0, 1) := by decide +kernel
theorem dX1_codeBySteps_8 : decode cX1_codeBySteps 8 = .ok (.iload_n 1, 1) := by decide +kernel
theorem dX1_codeBySteps_9 : decode cX1_codeBySteps 9 = .ok (.iload_n 2, 1) := by decide +kernel
theorem dX1_codeBySteps_10 : decode cX1_codeBySteps 10 = .ok (.invokevirtual 80, 3) := by decide +kernel
theorem dX1_codeBySteps_13 : decode cX1_codeBySteps 13 = .ok (.istore 4, 2) := by decide +kernel
theorem dX1_codeBySteps_15 : decode cX1_codeBySteps 15 = .ok (.aload_n 0, 1) := by decide +kernel
theorem dX1_codeBySteps_16 : decode cX1_codeBySteps 16 = .ok (.iload_n 3, 1) := by decide +kernel
theorem dX1_codeBySteps_17 : decode cX1_codeBySteps 17 = .ok (.iload 4, 2) := by decide +kernel
theorem dX1_codeBySteps_19 : decode cX1_codeBySteps 19 = .ok (.iload_n 2, 1) := by decide +kernel
theorem dX1_codeBySteps_20 : decode cX1_codeBySteps 20 = .ok (.invokevirtual 83, 3) := by decide +kernel
theorem dX1_codeBySteps_23 : decode cX1_codeBySteps 23 = .ok (.istore 5, 2) := by decide +kernel
theorem dX1_codeBySteps_25 : decode cX1_codeBySteps 25 = .ok (.iload 5, 2) := by decide +kernel
theorem dX1_codeBySteps_27 : decode cX1_codeBySteps 27 = .ok (.ifCond .eq 9, 3) := by decide +kernel
theorem dX1_codeBySteps_30 : decode cX1_codeBySteps 30 = .ok (.iload 5, 2) := by decide +kernel
theorem dX1_codeBySteps_32 : decode cX1_codeBySteps 32 = .ok (.bipush 10, 2) := by decide +kernel
theorem dX1_codeBySteps_34 : decode cX1_codeBySteps 34 = .ok (.imul, 1) := by decide +kernel
theorem dX1_codeBySteps_35 : decode cX1_codeBySteps 35 = .ok (.ireturn, 1) := by decide +kernel
theorem dX1_codeBySteps_36 : decode cX1_codeBySteps 36 = .ok (.aload_n 0, 1) := by decide +kernel
theorem dX1_codeBySteps_37 : decode cX1_codeBySteps 37 = .ok (.iload_n 3, 1) := by decide +kernel
theorem dX1_codeBySteps_38 : decode cX1_codeBySteps 38 = .ok (.ifCond .eq 7, 3) := by decide +kernel
theorem dX1_codeBySteps_41 : decode cX1_codeBySteps 41 = .ok (.iload_n 3, 1) := by decide +kernel
theorem dX1_codeBySteps_42 : decode cX1_codeBySteps 42 = .ok (.goto 5, 3) := by decide +kernel
theorem dX1_codeBySteps_45 : decode cX1_codeBySteps 45 = .ok (.iload 4, 2) := by decide +kernel
theorem dX1_codeBySteps_47 : decode cX1_codeBySteps 47 = .ok (.invokevirtual 74, 3) := by decide +kernel
theorem dX1_codeBySteps_50 : decode cX1_codeBySteps 50 = .ok (.ireturn, 1) := by decide +kernel
theorem dX1_leastFree_0 : decode cX1_leastFree 0 = .ok (.iload_n 3, 1) := by decide +kernel
theorem dX1_leastFree_1 : decode cX1_leastFree 1 = .ok (.ifCond .eq 7, 3) := by decide +kernel
theorem dX1_leastFree_4 : decode cX1_leastFree 4 = .ok (.iconst 1, 1) := by decide +kernel
theorem dX1_leastFree_5 : decode cX1_leastFree 5 = .ok (.goto 4, 3) := by decide +kernel
theorem dX1_leastFree_8 : decode cX1_leastFree 8 = .ok (.iconst 0, 1) := by decide +kernel
theorem dX1_leastFree_9 : decode cX1_leastFree 9 = .ok (.istore 4, 2) := by decide +kernel
theorem dX1_leastFree_11 : decode cX1_leastFree 11 = .ok (.iload_n 1, 1) := by decide +kernel
theorem dX1_leastFree_12 : decode cX1_leastFree 12 = .ok (.iconst 1, 1) := by decide +kernel
theorem dX1_leastFree_13 : decode cX1_leastFree 13 = .ok (.iadd, 1) := by decide +kernel
theorem dX1_leastFree_14 : decode cX1_leastFree 14 = .ok (.istore 5, 2) := by decide +kernel
theorem dX1_leastFree_16 : decode cX1_leastFree 16 = .ok (.iload 5, 2) := by decide +kernel
theorem dX1_leastFree_18 : decode cX1_leastFree 18 = .ok (.iconst 1, 1) := by decide +kernel
theorem dX1_leastFree_19 : decode cX1_leastFree 19 = .ok (.iand, 1) := by decide +kernel
theorem dX1_leastFree_20 : decode cX1_leastFree 20 = .ok (.iload 4, 2) := by decide +kernel
theorem dX1_leastFree_22 : decode cX1_leastFree 22 = .ok (.if_icmp .ne 8, 3) := by decide +kernel
theorem dX1_leastFree_25 : decode cX1_leastFree 25 = .ok (.iload 5, 2) := by decide +kernel
theorem dX1_leastFree_27 : decode cX1_leastFree 27 = .ok (.goto 7, 3) := by decide +kernel
theorem dX1_leastFree_30 : decode cX1_leastFree 30 = .ok (.iload 5, 2) := by decide +kernel
theorem dX1_leastFree_32 : decode cX1_leastFree 32 = .ok (.iconst 1, 1) := by decide +kernel
theorem dX1_leastFree_33 : decode cX1_leastFree 33 = .ok (.iadd, 1) := by decide +kernel
theorem dX1_leastFree_34 : decode cX1_leastFree 34 = .ok (.istore 6, 2) := by decide +kernel
theorem dX1_leastFree_36 : decode cX1_leastFree 36 = .ok (.iconst 0, 1) := by decide +kernel
theorem dX1_leastFree_37 : decode cX1_leastFree 37 = .ok (.istore 7, 2) := by decide +kernel
theorem dX1_leastFree_39 : decode cX1_leastFree 39 = .ok (.iload 7, 2) := by decide +kernel
theorem dX1_leastFree_41 : decode cX1_leastFree 41 = .ok (.bipush 40, 2) := by decide +kernel
theorem dX1_leastFree_43 : decode cX1_leastFree 43 = .ok (.if_icmp .gt 36, 3) := by decide +kernel
theorem dX1_leastFree_46 : decode cX1_leastFree 46 = .ok (.iload_n 2, 1) := by decide +kernel
theorem dX1_leastFree_47 : decode cX1_leastFree 47 = .ok (.ifCond .eq 11, 3) := by decide +kernel
theorem dX1_leastFree_50 : decode cX1_leastFree 50 = .ok (.iload 6, 2) := by decide +kernel
theorem dX1_leastFree_52 : decode cX1_leastFree 52 = .ok (.iload_n 2, 1) := by decide +kernel
theorem dX1_leastFree_53 : decode cX1_leastFree 53 = .ok (.if_icmp .lt 5, 3) := by decide +kernel
theorem dX1_leastFree_56 : decode cX1_leastFree 56 = .ok (.iconst 0, 1) := by decide +kernel
theorem dX1_leastFree_57 : decode cX1_leastFree 57 = .ok (.ireturn, 1) := by decide +kernel
theorem dX1_leastFree_58 : decode cX1_leastFree 58 = .ok (.aload_n 0, 1) := by decide +kernel
theorem dX1_leastFree_59 : decode cX1_leastFree 59 = .ok (.iload 6, 2) := by decide +kernel
theorem dX1_leastFree_61 : decode cX1_leastFree 61 = .ok (.invokevirtual 87, 3) := by decide +kernel
theorem dX1_leastFree_64 : decode cX1_leastFree 64 = .ok (.ifCond .ne 6, 3) := by decide +kernel
theorem dX1_leastFree_67 : decode cX1_leastFree 67 = .ok (.iload 6, 2) := by decide +kernel
theorem dX1_leastFree_69 : decode cX1_leastFree 69 = .ok (.ireturn, 1) := by decide +kernel
theorem dX1_leastFree_70 : decode cX1_leastFree 70 = .ok (.iinc 6 2, 3) := by decide +kernel
theorem dX1_leastFree_73 : decode cX1_leastFree 73 = .ok (.iinc 7 1, 3) := by decide +kernel
theorem dX1_leastFree_76 : decode cX1_leastFree 76 = .ok (.goto (-37), 3) := by decide +kernel
theorem dX1_leastFree_79 : decode cX1_leastFree 79 = .ok (.iconst 0, 1) := by decide +kernel
theorem dX1_leastFree_80 : decode cX1_leastFree 80 = .ok (.ireturn, 1) := by decide +kernel
theorem dX1_codeWithLetter_0 : decode cX1_codeWithLetter 0 = .ok (.iconst 1, 1) := by decide +kernel
theorem dX1_codeWithLetter_1 : decode cX1_codeWithLetter 1 = .ok (.istore_n 2, 1) := by decide +kernel
theorem dX1_codeWithLetter_2 : decode cX1_codeWithLetter 2 = .ok (.iload_n 2, 1) := by decide +kernel
theorem dX1_codeWithLetter_3 : decode cX1_codeWithLetter 3 = .ok (.bipush 9, 2) := by decide +kernel
theorem dX1_codeWithLetter_5 : decode cX1_codeWithLetter 5 = .ok (.if_icmp .gt 26, 3) := by decide +kernel
theorem dX1_codeWithLetter_8 : decode cX1_codeWithLetter 8 = .ok (.iload_n 1, 1) := by decide +kernel
theorem dX1_codeWithLetter_9 : decode cX1_codeWithLetter 9 = .ok (.bipush 10, 2) := by decide +kernel
theorem dX1_codeWithLetter_11 : decode cX1_codeWithLetter 11 = .ok (.imul, 1) := by decide +kernel
theorem dX1_codeWithLetter_12 : decode cX1_codeWithLetter 12 = .ok (.iload_n 2, 1) := by decide +kernel
theorem dX1_codeWithLetter_13 : decode cX1_codeWithLetter 13 = .ok (.iadd, 1) := by decide +kernel
theorem dX1_codeWithLetter_14 : decode cX1_codeWithLetter 14 = .ok (.istore_n 3, 1) := by decide +kernel
theorem dX1_codeWithLetter_15 : decode cX1_codeWithLetter 15 = .ok (.aload_n 0, 1) := by decide +kernel
theorem dX1_codeWithLetter_16 : decode cX1_codeWithLetter 16 = .ok (.iload_n 3, 1) := by decide +kernel
theorem dX1_codeWithLetter_17 : decode cX1_codeWithLetter 17 = .ok (.invokevirtual 71, 3) := by decide +kernel
theorem dX1_codeWithLetter_20 : decode cX1_codeWithLetter 20 = .ok (.ifCond .ne 5, 3) := by decide +kernel
theorem dX1_codeWithLetter_23 : decode cX1_codeWithLetter 23 = .ok (.iload_n 3, 1) := by decide +kernel
theorem dX1_codeWithLetter_24 : decode cX1_codeWithLetter 24 = .ok (.ireturn, 1) := by decide +kernel
theorem dX1_codeWithLetter_25 : decode cX1_codeWithLetter 25 = .ok (.iinc 2 1, 3) := by decide +kernel
theorem dX1_codeWithLetter_28 : decode cX1_codeWithLetter 28 = .ok (.goto (-26), 3) := by decide +kernel
theorem dX1_codeWithLetter_31 : decode cX1_codeWithLetter 31 = .ok (.iconst 0, 1) := by decide +kernel
theorem dX1_codeWithLetter_32 : decode cX1_codeWithLetter 32 = .ok (.ireturn, 1) := by decide +kernel
theorem dX1_numberBefore_0 : decode cX1_numberBefore 0 = .ok (.iconst 0, 1) := by decide +kernel
theorem dX1_numberBefore_1 : decode cX1_numberBefore 1 = .ok (.istore_n 3, 1) := by decide +kernel
theorem dX1_numberBefore_2 : decode cX1_numberBefore 2 = .ok (.iconst (-1), 1) := by decide +kernel
theorem dX1_numberBefore_3 : decode cX1_numberBefore 3 = .ok (.istore 4, 2) := by decide +kernel
theorem dX1_numberBefore_5 : decode cX1_numberBefore 5 = .ok (.iconst 0, 1) := by decide +kernel
theorem dX1_numberBefore_6 : decode cX1_numberBefore 6 = .ok (.istore 5, 2) := by decide +kernel
theorem dX1_numberBefore_8 : decode cX1_numberBefore 8 = .ok (.iload 5, 2) := by decide +kernel
theorem dX1_numberBefore_10 : decode cX1_numberBefore 10 = .ok (.bipush 40, 2) := by decide +kernel
theorem dX1_numberBefore_12 : decode cX1_numberBefore 12 = .ok (.if_icmp .ge 73, 3) := by decide +kernel
theorem dX1_numberBefore_15 : decode cX1_numberBefore 15 = .ok (.aload_n 0, 1) := by decide +kernel
theorem dX1_numberBefore_16 : decode cX1_numberBefore 16 = .ok (.getfield 19, 3) := by decide +kernel
theorem dX1_numberBefore_19 : decode cX1_numberBefore 19 = .ok (.iload 5, 2) := by decide +kernel
theorem dX1_numberBefore_21 : decode cX1_numberBefore 21 = .ok (.iaload, 1) := by decide +kernel
theorem dX1_numberBefore_22 : decode cX1_numberBefore 22 = .ok (.ifCond .eq 57, 3) := by decide +kernel
theorem dX1_numberBefore_25 : decode cX1_numberBefore 25 = .ok (.aload_n 0, 1) := by decide +kernel
theorem dX1_numberBefore_26 : decode cX1_numberBefore 26 = .ok (.getfield 15, 3) := by decide +kernel
theorem dX1_numberBefore_29 : decode cX1_numberBefore 29 = .ok (.iload 5, 2) := by decide +kernel
theorem dX1_numberBefore_31 : decode cX1_numberBefore 31 = .ok (.baload, 1) := by decide +kernel
theorem dX1_numberBefore_32 : decode cX1_numberBefore 32 = .ok (.iload_n 2, 1) := by decide +kernel
theorem dX1_numberBefore_33 : decode cX1_numberBefore 33 = .ok (.if_icmp .ne 46, 3) := by decide +kernel
theorem dX1_numberBefore_36 : decode cX1_numberBefore 36 = .ok (.aload_n 0, 1) := by decide +kernel
theorem dX1_numberBefore_37 : decode cX1_numberBefore 37 = .ok (.getfield 9, 3) := by decide +kernel
theorem dX1_numberBefore_40 : decode cX1_numberBefore 40 = .ok (.iload 5, 2) := by decide +kernel
theorem dX1_numberBefore_42 : decode cX1_numberBefore 42 = .ok (.iaload, 1) := by decide +kernel
theorem dX1_numberBefore_43 : decode cX1_numberBefore 43 = .ok (.iload_n 1, 1) := by decide +kernel
theorem dX1_numberBefore_44 : decode cX1_numberBefore 44 = .ok (.if_icmp .ge 35, 3) := by decide +kernel
theorem dX1_numberBefore_47 : decode cX1_numberBefore 47 = .ok (.aload_n 0, 1) := by decide +kernel
theorem dX1_numberBefore_48 : decode cX1_numberBefore 48 = .ok (.getfield 9, 3) := by decide +kernel
theorem dX1_numberBefore_51 : decode cX1_numberBefore 51 = .ok (.iload 5, 2) := by decide +kernel
theorem dX1_numberBefore_53 : decode cX1_numberBefore 53 = .ok (.iaload, 1) := by decide +kernel
theorem dX1_numberBefore_54 : decode cX1_numberBefore 54 = .ok (.iload 4, 2) := by decide +kernel
theorem dX1_numberBefore_56 : decode cX1_numberBefore 56 = .ok (.if_icmp .le 23, 3) := by decide +kernel
theorem dX1_numberBefore_59 : decode cX1_numberBefore 59 = .ok (.aload_n 0, 1) := by decide +kernel
theorem dX1_numberBefore_60 : decode cX1_numberBefore 60 = .ok (.getfield 9, 3) := by decide +kernel
theorem dX1_numberBefore_63 : decode cX1_numberBefore 63 = .ok (.iload 5, 2) := by decide +kernel
theorem dX1_numberBefore_65 : decode cX1_numberBefore 65 = .ok (.iaload, 1) := by decide +kernel
theorem dX1_numberBefore_66 : decode cX1_numberBefore 66 = .ok (.istore 4, 2) := by decide +kernel
theorem dX1_numberBefore_68 : decode cX1_numberBefore 68 = .ok (.aload_n 0, 1) := by decide +kernel
theorem dX1_numberBefore_69 : decode cX1_numberBefore 69 = .ok (.getfield 19, 3) := by decide +kernel
theorem dX1_numberBefore_72 : decode cX1_numberBefore 72 = .ok (.iload 5, 2) := by decide +kernel
theorem dX1_numberBefore_74 : decode cX1_numberBefore 74 = .ok (.iaload, 1) := by decide +kernel
theorem dX1_numberBefore_75 : decode cX1_numberBefore 75 = .ok (.bipush 10, 2) := by decide +kernel
theorem dX1_numberBefore_77 : decode cX1_numberBefore 77 = .ok (.idiv, 1) := by decide +kernel
theorem dX1_numberBefore_78 : decode cX1_numberBefore 78 = .ok (.istore_n 3, 1) := by decide +kernel
theorem dX1_numberBefore_79 : decode cX1_numberBefore 79 = .ok (.iinc 5 1, 3) := by decide +kernel
theorem dX1_numberBefore_82 : decode cX1_numberBefore 82 = .ok (.goto (-74), 3) := by decide +kernel
theorem dX1_numberBefore_85 : decode cX1_numberBefore 85 = .ok (.iload_n 3, 1) := by decide +kernel
theorem dX1_numberBefore_86 : decode cX1_numberBefore 86 = .ok (.ireturn, 1) := by decide +kernel
theorem dX1_numberAfter_0 : decode cX1_numberAfter 0 = .ok (.iconst 0, 1) := by decide +kernel
theorem dX1_numberAfter_1 : decode cX1_numberAfter 1 = .ok (.istore_n 3, 1) := by decide +kernel
theorem dX1_numberAfter_2 : decode cX1_numberAfter 2 = .ok (.ldc 90, 2) := by decide +kernel
theorem dX1_numberAfter_4 : decode cX1_numberAfter 4 = .ok (.istore 4, 2) := by decide +kernel
theorem dX1_numberAfter_6 : decode cX1_numberAfter 6 = .ok (.iconst 0, 1) := by decide +kernel
theorem dX1_numberAfter_7 : decode cX1_numberAfter 7 = .ok (.istore 5, 2) := by decide +kernel
theorem dX1_numberAfter_9 : decode cX1_numberAfter 9 = .ok (.iload 5, 2) := by decide +kernel
theorem dX1_numberAfter_11 : decode cX1_numberAfter 11 = .ok (.bipush 40, 2) := by decide +kernel
theorem dX1_numberAfter_13 : decode cX1_numberAfter 13 = .ok (.if_icmp .ge 73, 3) := by decide +kernel
theorem dX1_numberAfter_16 : decode cX1_numberAfter 16 = .ok (.aload_n 0, 1) := by decide +kernel
theorem dX1_numberAfter_17 : decode cX1_numberAfter 17 = .ok (.getfield 19, 3) := by decide +kernel
theorem dX1_numberAfter_20 : decode cX1_numberAfter 20 = .ok (.iload 5, 2) := by decide +kernel
theorem dX1_numberAfter_22 : decode cX1_numberAfter 22 = .ok (.iaload, 1) := by decide +kernel
theorem dX1_numberAfter_23 : decode cX1_numberAfter 23 = .ok (.ifCond .eq 57, 3) := by decide +kernel
theorem dX1_numberAfter_26 : decode cX1_numberAfter 26 = .ok (.aload_n 0, 1) := by decide +kernel
theorem dX1_numberAfter_27 : decode cX1_numberAfter 27 = .ok (.getfield 15, 3) := by decide +kernel
theorem dX1_numberAfter_30 : decode cX1_numberAfter 30 = .ok (.iload 5, 2) := by decide +kernel
theorem dX1_numberAfter_32 : decode cX1_numberAfter 32 = .ok (.baload, 1) := by decide +kernel
theorem dX1_numberAfter_33 : decode cX1_numberAfter 33 = .ok (.iload_n 2, 1) := by decide +kernel
theorem dX1_numberAfter_34 : decode cX1_numberAfter 34 = .ok (.if_icmp .ne 46, 3) := by decide +kernel
theorem dX1_numberAfter_37 : decode cX1_numberAfter 37 = .ok (.aload_n 0, 1) := by decide +kernel
theorem dX1_numberAfter_38 : decode cX1_numberAfter 38 = .ok (.getfield 9, 3) := by decide +kernel
theorem dX1_numberAfter_41 : decode cX1_numberAfter 41 = .ok (.iload 5, 2) := by decide +kernel
theorem dX1_numberAfter_43 : decode cX1_numberAfter 43 = .ok (.iaload, 1) := by decide +kernel
theorem dX1_numberAfter_44 : decode cX1_numberAfter 44 = .ok (.iload_n 1, 1) := by decide +kernel
theorem dX1_numberAfter_45 : decode cX1_numberAfter 45 = .ok (.if_icmp .le 35, 3) := by decide +kernel
theorem dX1_numberAfter_48 : decode cX1_numberAfter 48 = .ok (.aload_n 0, 1) := by decide +kernel
theorem dX1_numberAfter_49 : decode cX1_numberAfter 49 = .ok (.getfield 9, 3) := by decide +kernel
theorem dX1_numberAfter_52 : decode cX1_numberAfter 52 = .ok (.iload 5, 2) := by decide +kernel
theorem dX1_numberAfter_54 : decode cX1_numberAfter 54 = .ok (.iaload, 1) := by decide +kernel
theorem dX1_numberAfter_55 : decode cX1_numberAfter 55 = .ok (.iload 4, 2) := by decide +kernel
theorem dX1_numberAfter_57 : decode cX1_numberAfter 57 = .ok (.if_icmp .ge 23, 3) := by decide +kernel
theorem dX1_numberAfter_60 : decode cX1_numberAfter 60 = .ok (.aload_n 0, 1) := by decide +kernel
theorem dX1_numberAfter_61 : decode cX1_numberAfter 61 = .ok (.getfield 9, 3) := by decide +kernel
theorem dX1_numberAfter_64 : decode cX1_numberAfter 64 = .ok (.iload 5, 2) := by decide +kernel
theorem dX1_numberAfter_66 : decode cX1_numberAfter 66 = .ok (.iaload, 1) := by decide +kernel
theorem dX1_numberAfter_67 : decode cX1_numberAfter 67 = .ok (.istore 4, 2) := by decide +kernel
theorem dX1_numberAfter_69 : decode cX1_numberAfter 69 = .ok (.aload_n 0, 1) := by decide +kernel
theorem dX1_numberAfter_70 : decode cX1_numberAfter 70 = .ok (.getfield 19, 3) := by decide +kernel
theorem dX1_numberAfter_73 : decode cX1_numberAfter 73 = .ok (.iload 5, 2) := by decide +kernel
theorem dX1_numberAfter_75 : decode cX1_numberAfter 75 = .ok (.iaload, 1) := by decide +kernel
theorem dX1_numberAfter_76 : decode cX1_numberAfter 76 = .ok (.bipush 10, 2) := by decide +kernel
theorem dX1_numberAfter_78 : decode cX1_numberAfter 78 = .ok (.idiv, 1) := by decide +kernel
theorem dX1_numberAfter_79 : decode cX1_numberAfter 79 = .ok (.istore_n 3, 1) := by decide +kernel
theorem dX1_numberAfter_80 : decode cX1_numberAfter 80 = .ok (.iinc 5 1, 3) := by decide +kernel
theorem dX1_numberAfter_83 : decode cX1_numberAfter 83 = .ok (.goto (-74), 3) := by decide +kernel
theorem dX1_numberAfter_86 : decode cX1_numberAfter 86 = .ok (.iload_n 3, 1) := by decide +kernel
theorem dX1_numberAfter_87 : decode cX1_numberAfter 87 = .ok (.ireturn, 1) := by decide +kernel
theorem dX1_isGiven_0 : decode cX1_isGiven 0 = .ok (.aload_n 0, 1) := by decide +kernel
theorem dX1_isGiven_1 : decode cX1_isGiven 1 = .ok (.getfield 19, 3) := by decide +kernel
theorem dX1_isGiven_4 : decode cX1_isGiven 4 = .ok (.astore_n 2, 1) := by decide +kernel
theorem dX1_isGiven_5 : decode cX1_isGiven 5 = .ok (.aload_n 2, 1) := by decide +kernel
theorem dX1_isGiven_6 : decode cX1_isGiven 6 = .ok (.arraylength, 1) := by decide +kernel
theorem dX1_isGiven_7 : decode cX1_isGiven 7 = .ok (.istore_n 3, 1) := by decide +kernel
theorem dX1_isGiven_8 : decode cX1_isGiven 8 = .ok (.iconst 0, 1) := by decide +kernel
theorem dX1_isGiven_9 : decode cX1_isGiven 9 = .ok (.istore 4, 2) := by decide +kernel
theorem dX1_isGiven_11 : decode cX1_isGiven 11 = .ok (.iload 4, 2) := by decide +kernel
theorem dX1_isGiven_13 : decode cX1_isGiven 13 = .ok (.iload_n 3, 1) := by decide +kernel
theorem dX1_isGiven_14 : decode cX1_isGiven 14 = .ok (.if_icmp .ge 23, 3) := by decide +kernel
theorem dX1_isGiven_17 : decode cX1_isGiven 17 = .ok (.aload_n 2, 1) := by decide +kernel
theorem dX1_isGiven_18 : decode cX1_isGiven 18 = .ok (.iload 4, 2) := by decide +kernel
theorem dX1_isGiven_20 : decode cX1_isGiven 20 = .ok (.iaload, 1) := by decide +kernel
theorem dX1_isGiven_21 : decode cX1_isGiven 21 = .ok (.istore 5, 2) := by decide +kernel
theorem dX1_isGiven_23 : decode cX1_isGiven 23 = .ok (.iload 5, 2) := by decide +kernel
theorem dX1_isGiven_25 : decode cX1_isGiven 25 = .ok (.iload_n 1, 1) := by decide +kernel
theorem dX1_isGiven_26 : decode cX1_isGiven 26 = .ok (.if_icmp .ne 5, 3) := by decide +kernel
theorem dX1_isGiven_29 : decode cX1_isGiven 29 = .ok (.iconst 1, 1) := by decide +kernel
theorem dX1_isGiven_30 : decode cX1_isGiven 30 = .ok (.ireturn, 1) := by decide +kernel
theorem dX1_isGiven_31 : decode cX1_isGiven 31 = .ok (.iinc 4 1, 3) := by decide +kernel
theorem dX1_isGiven_34 : decode cX1_isGiven 34 = .ok (.goto (-23), 3) := by decide +kernel
theorem dX1_isGiven_37 : decode cX1_isGiven 37 = .ok (.iconst 0, 1) := by decide +kernel
theorem dX1_isGiven_38 : decode cX1_isGiven 38 = .ok (.ireturn, 1) := by decide +kernel
theorem dX1_isNumberGiven_0 : decode cX1_isNumberGiven 0 = .ok (.aload_n 0, 1) := by decide +kernel
theorem dX1_isNumberGiven_1 : decode cX1_isNumberGiven 1 = .ok (.getfield 19, 3) := by decide +kernel
theorem dX1_isNumberGiven_4 : decode cX1_isNumberGiven 4 = .ok (.astore_n 2, 1) := by decide +kernel
theorem dX1_isNumberGiven_5 : decode cX1_isNumberGiven 5 = .ok (.aload_n 2, 1) := by decide +kernel
theorem dX1_isNumberGiven_6 : decode cX1_isNumberGiven 6 = .ok (.arraylength, 1) := by decide +kernel
theorem dX1_isNumberGiven_7 : decode cX1_isNumberGiven 7 = .ok (.istore_n 3, 1) := by decide +kernel
theorem dX1_isNumberGiven_8 : decode cX1_isNumberGiven 8 = .ok (.iconst 0, 1) := by decide +kernel
theorem dX1_isNumberGiven_9 : decode cX1_isNumberGiven 9 = .ok (.istore 4, 2) := by decide +kernel
theorem dX1_isNumberGiven_11 : decode cX1_isNumberGiven 11 = .ok (.iload 4, 2) := by decide +kernel
theorem dX1_isNumberGiven_13 : decode cX1_isNumberGiven 13 = .ok (.iload_n 3, 1) := by decide +kernel
theorem dX1_isNumberGiven_14 : decode cX1_isNumberGiven 14 = .ok (.if_icmp .ge 31, 3) := by decide +kernel
theorem dX1_isNumberGiven_17 : decode cX1_isNumberGiven 17 = .ok (.aload_n 2, 1) := by decide +kernel
theorem dX1_isNumberGiven_18 : decode cX1_isNumberGiven 18 = .ok (.iload 4, 2) := by decide +kernel
theorem dX1_isNumberGiven_20 : decode cX1_isNumberGiven 20 = .ok (.iaload, 1) := by decide +kernel
theorem dX1_isNumberGiven_21 : decode cX1_isNumberGiven 21 = .ok (.istore 5, 2) := by decide +kernel
theorem dX1_isNumberGiven_23 : decode cX1_isNumberGiven 23 = .ok (.iload 5, 2) := by decide +kernel
theorem dX1_isNumberGiven_25 : decode cX1_isNumberGiven 25 = .ok (.ifCond .eq 14, 3) := by decide +kernel
theorem dX1_isNumberGiven_28 : decode cX1_isNumberGiven 28 = .ok (.iload 5, 2) := by decide +kernel
theorem dX1_isNumberGiven_30 : decode cX1_isNumberGiven 30 = .ok (.bipush 10, 2) := by decide +kernel
theorem dX1_isNumberGiven_32 : decode cX1_isNumberGiven 32 = .ok (.idiv, 1) := by decide +kernel
theorem dX1_isNumberGiven_33 : decode cX1_isNumberGiven 33 = .ok (.iload_n 1, 1) := by decide +kernel
theorem dX1_isNumberGiven_34 : decode cX1_isNumberGiven 34 = .ok (.if_icmp .ne 5, 3) := by decide +kernel
theorem dX1_isNumberGiven_37 : decode cX1_isNumberGiven 37 = .ok (.iconst 1, 1) := by decide +kernel
theorem dX1_isNumberGiven_38 : decode cX1_isNumberGiven 38 = .ok (.ireturn, 1) := by decide +kernel
theorem dX1_isNumberGiven_39 : decode cX1_isNumberGiven 39 = .ok (.iinc 4 1, 3) := by decide +kernel
theorem dX1_isNumberGiven_42 : decode cX1_isNumberGiven 42 = .ok (.goto (-31), 3) := by decide +kernel
theorem dX1_isNumberGiven_45 : decode cX1_isNumberGiven 45 = .ok (.iconst 0, 1) := by decide +kernel
theorem dX1_isNumberGiven_46 : decode cX1_isNumberGiven 46 = .ok (.ireturn, 1) := by decide +kernel
theorem dX1_pairsAgainstOrder_0 : decode cX1_pairsAgainstOrder 0 = .ok (.iconst 0, 1) := by decide +kernel
theorem dX1_pairsAgainstOrder_1 : decode cX1_pairsAgainstOrder 1 = .ok (.istore_n 1, 1) := by decide +kernel
theorem dX1_pairsAgainstOrder_2 : decode cX1_pairsAgainstOrder 2 = .ok (.iconst 0, 1) := by decide +kernel
theorem dX1_pairsAgainstOrder_3 : decode cX1_pairsAgainstOrder 3 = .ok (.istore_n 2, 1) := by decide +kernel
theorem dX1_pairsAgainstOrder_4 : decode cX1_pairsAgainstOrder 4 = .ok (.iload_n 2, 1) := by decide +kernel
theorem dX1_pairsAgainstOrder_5 : decode cX1_pairsAgainstOrder 5 = .ok (.bipush 40, 2) := by decide +kernel
theorem dX1_pairsAgainstOrder_7 : decode cX1_pairsAgainstOrder 7 = .ok (.if_icmp .ge 89, 3) := by decide +kernel
theorem dX1_pairsAgainstOrder_10 : decode cX1_pairsAgainstOrder 10 = .ok (.iconst 0, 1) := by decide +kernel
theorem dX1_pairsAgainstOrder_11 : decode cX1_pairsAgainstOrder 11 = .ok (.istore_n 3, 1) := by decide +kernel
theorem dX1_pairsAgainstOrder_12 : decode cX1_pairsAgainstOrder 12 = .ok (.iload_n 3, 1) := by decide +kernel
theorem dX1_pairsAgainstOrder_13 : decode cX1_pairsAgainstOrder 13 = .ok (.bipush 40, 2) := by decide +kernel
theorem dX1_pairsAgainstOrder_15 : decode cX1_pairsAgainstOrder 15 = .ok (.if_icmp .ge 75, 3) := by decide +kernel
theorem dX1_pairsAgainstOrder_18 : decode cX1_pairsAgainstOrder 18 = .ok (.aload_n 0, 1) := by decide +kernel
theorem dX1_pairsAgainstOrder_19 : decode cX1_pairsAgainstOrder 19 = .ok (.getfield 19, 3) := by decide +kernel
theorem dX1_pairsAgainstOrder_22 : decode cX1_pairsAgainstOrder 22 = .ok (.iload_n 2, 1) := by decide +kernel
theorem dX1_pairsAgainstOrder_23 : decode cX1_pairsAgainstOrder 23 = .ok (.iaload, 1) := by decide +kernel
theorem dX1_pairsAgainstOrder_24 : decode cX1_pairsAgainstOrder 24 = .ok (.ifCond .eq 60, 3) := by decide +kernel
theorem dX1_pairsAgainstOrder_27 : decode cX1_pairsAgainstOrder 27 = .ok (.aload_n 0, 1) := by decide +kernel
theorem dX1_pairsAgainstOrder_28 : decode cX1_pairsAgainstOrder 28 = .ok (.getfield 19, 3) := by decide +kernel
theorem dX1_pairsAgainstOrder_31 : decode cX1_pairsAgainstOrder 31 = .ok (.iload_n 3, 1) := by decide +kernel
theorem dX1_pairsAgainstOrder_32 : decode cX1_pairsAgainstOrder 32 = .ok (.iaload, 1) := by decide +kernel
theorem dX1_pairsAgainstOrder_33 : decode cX1_pairsAgainstOrder 33 = .ok (.ifCond .eq 51, 3) := by decide +kernel
theorem dX1_pairsAgainstOrder_36 : decode cX1_pairsAgainstOrder 36 = .ok (.aload_n 0, 1) := by decide +kernel
theorem dX1_pairsAgainstOrder_37 : decode cX1_pairsAgainstOrder 37 = .ok (.getfield 15, 3) := by decide +kernel
theorem dX1_pairsAgainstOrder_40 : decode cX1_pairsAgainstOrder 40 = .ok (.iload_n 2, 1) := by decide +kernel
theorem dX1_pairsAgainstOrder_41 : decode cX1_pairsAgainstOrder 41 = .ok (.baload, 1) := by decide +kernel
theorem dX1_pairsAgainstOrder_42 : decode cX1_pairsAgainstOrder 42 = .ok (.aload_n 0, 1) := by decide +kernel
theorem dX1_pairsAgainstOrder_43 : decode cX1_pairsAgainstOrder 43 = .ok (.getfield 15, 3) := by decide +kernel
theorem dX1_pairsAgainstOrder_46 : decode cX1_pairsAgainstOrder 46 = .ok (.iload_n 3, 1) := by decide +kernel
theorem dX1_pairsAgainstOrder_47 : decode cX1_pairsAgainstOrder 47 = .ok (.baload, 1) := by decide +kernel
theorem dX1_pairsAgainstOrder_48 : decode cX1_pairsAgainstOrder 48 = .ok (.if_icmp .ne 36, 3) := by decide +kernel
theorem dX1_pairsAgainstOrder_51 : decode cX1_pairsAgainstOrder 51 = .ok (.aload_n 0, 1) := by decide +kernel
theorem dX1_pairsAgainstOrder_52 : decode cX1_pairsAgainstOrder 52 = .ok (.getfield 9, 3) := by decide +kernel
theorem dX1_pairsAgainstOrder_55 : decode cX1_pairsAgainstOrder 55 = .ok (.iload_n 2, 1) := by decide +kernel
theorem dX1_pairsAgainstOrder_56 : decode cX1_pairsAgainstOrder 56 = .ok (.iaload, 1) := by decide +kernel
theorem dX1_pairsAgainstOrder_57 : decode cX1_pairsAgainstOrder 57 = .ok (.aload_n 0, 1) := by decide +kernel
theorem dX1_pairsAgainstOrder_58 : decode cX1_pairsAgainstOrder 58 = .ok (.getfield 9, 3) := by decide +kernel
theorem dX1_pairsAgainstOrder_61 : decode cX1_pairsAgainstOrder 61 = .ok (.iload_n 3, 1) := by decide +kernel
theorem dX1_pairsAgainstOrder_62 : decode cX1_pairsAgainstOrder 62 = .ok (.iaload, 1) := by decide +kernel
theorem dX1_pairsAgainstOrder_63 : decode cX1_pairsAgainstOrder 63 = .ok (.if_icmp .ge 21, 3) := by decide +kernel
theorem dX1_pairsAgainstOrder_66 : decode cX1_pairsAgainstOrder 66 = .ok (.aload_n 0, 1) := by decide +kernel
theorem dX1_pairsAgainstOrder_67 : decode cX1_pairsAgainstOrder 67 = .ok (.getfield 19, 3) := by decide +kernel
theorem dX1_pairsAgainstOrder_70 : decode cX1_pairsAgainstOrder 70 = .ok (.iload_n 2, 1) := by decide +kernel
theorem dX1_pairsAgainstOrder_71 : decode cX1_pairsAgainstOrder 71 = .ok (.iaload, 1) := by decide +kernel
theorem dX1_pairsAgainstOrder_72 : decode cX1_pairsAgainstOrder 72 = .ok (.aload_n 0, 1) := by decide +kernel
theorem dX1_pairsAgainstOrder_73 : decode cX1_pairsAgainstOrder 73 = .ok (.getfield 19, 3) := by decide +kernel
theorem dX1_pairsAgainstOrder_76 : decode cX1_pairsAgainstOrder 76 = .ok (.iload_n 3, 1) := by decide +kernel
theorem dX1_pairsAgainstOrder_77 : decode cX1_pairsAgainstOrder 77 = .ok (.iaload, 1) := by decide +kernel
theorem dX1_pairsAgainstOrder_78 : decode cX1_pairsAgainstOrder 78 = .ok (.if_icmp .le 6, 3) := by decide +kernel
theorem dX1_pairsAgainstOrder_81 : decode cX1_pairsAgainstOrder 81 = .ok (.iinc 1 1, 3) := by decide +kernel
theorem dX1_pairsAgainstOrder_84 : decode cX1_pairsAgainstOrder 84 = .ok (.iinc 3 1, 3) := by decide +kernel
theorem dX1_pairsAgainstOrder_87 : decode cX1_pairsAgainstOrder 87 = .ok (.goto (-75), 3) := by decide +kernel
theorem dX1_pairsAgainstOrder_90 : decode cX1_pairsAgainstOrder 90 = .ok (.iinc 2 1, 3) := by decide +kernel
theorem dX1_pairsAgainstOrder_93 : decode cX1_pairsAgainstOrder 93 = .ok (.goto (-89), 3) := by decide +kernel
theorem dX1_pairsAgainstOrder_96 : decode cX1_pairsAgainstOrder 96 = .ok (.iload_n 1, 1) := by decide +kernel
theorem dX1_pairsAgainstOrder_97 : decode cX1_pairsAgainstOrder 97 = .ok (.ireturn, 1) := by decide +kernel
theorem dX1_hasTwins_0 : decode cX1_hasTwins 0 = .ok (.iconst 0, 1) := by decide +kernel
theorem dX1_hasTwins_1 : decode cX1_hasTwins 1 = .ok (.istore_n 1, 1) := by decide +kernel
theorem dX1_hasTwins_2 : decode cX1_hasTwins 2 = .ok (.iload_n 1, 1) := by decide +kernel
theorem dX1_hasTwins_3 : decode cX1_hasTwins 3 = .ok (.bipush 40, 2) := by decide +kernel
theorem dX1_hasTwins_5 : decode cX1_hasTwins 5 = .ok (.if_icmp .ge 48, 3) := by decide +kernel
theorem dX1_hasTwins_8 : decode cX1_hasTwins 8 = .ok (.iconst 0, 1) := by decide +kernel
theorem dX1_hasTwins_9 : decode cX1_hasTwins 9 = .ok (.istore_n 2, 1) := by decide +kernel
theorem dX1_hasTwins_10 : decode cX1_hasTwins 10 = .ok (.iload_n 2, 1) := by decide +kernel
theorem dX1_hasTwins_11 : decode cX1_hasTwins 11 = .ok (.iload_n 1, 1) := by decide +kernel
theorem dX1_hasTwins_12 : decode cX1_hasTwins 12 = .ok (.if_icmp .ge 35, 3) := by decide +kernel
theorem dX1_hasTwins_15 : decode cX1_hasTwins 15 = .ok (.aload_n 0, 1) := by decide +kernel
theorem dX1_hasTwins_16 : decode cX1_hasTwins 16 = .ok (.getfield 19, 3) := by decide +kernel
theorem dX1_hasTwins_19 : decode cX1_hasTwins 19 = .ok (.iload_n 1, 1) := by decide +kernel
theorem dX1_hasTwins_20 : decode cX1_hasTwins 20 = .ok (.iaload, 1) := by decide +kernel
theorem dX1_hasTwins_21 : decode cX1_hasTwins 21 = .ok (.ifCond .eq 20, 3) := by decide +kernel
theorem dX1_hasTwins_24 : decode cX1_hasTwins 24 = .ok (.aload_n 0, 1) := by decide +kernel
theorem dX1_hasTwins_25 : decode cX1_hasTwins 25 = .ok (.getfield 19, 3) := by decide +kernel
theorem dX1_hasTwins_28 : decode cX1_hasTwins 28 = .ok (.iload_n 1, 1) := by decide +kernel
theorem dX1_hasTwins_29 : decode cX1_hasTwins 29 = .ok (.iaload, 1) := by decide +kernel
theorem dX1_hasTwins_30 : decode cX1_hasTwins 30 = .ok (.aload_n 0, 1) := by decide +kernel
theorem dX1_hasTwins_31 : decode cX1_hasTwins 31 = .ok (.getfield 19, 3) := by decide +kernel
theorem dX1_hasTwins_34 : decode cX1_hasTwins 34 = .ok (.iload_n 2, 1) := by decide +kernel
theorem dX1_hasTwins_35 : decode cX1_hasTwins 35 = .ok (.iaload, 1) := by decide +kernel
theorem dX1_hasTwins_36 : decode cX1_hasTwins 36 = .ok (.if_icmp .ne 5, 3) := by decide +kernel
theorem dX1_hasTwins_39 : decode cX1_hasTwins 39 = .ok (.iconst 1, 1) := by decide +kernel
theorem dX1_hasTwins_40 : decode cX1_hasTwins 40 = .ok (.ireturn, 1) := by decide +kernel
theorem dX1_hasTwins_41 : decode cX1_hasTwins 41 = .ok (.iinc 2 1, 3) := by decide +kernel
theorem dX1_hasTwins_44 : decode cX1_hasTwins 44 = .ok (.goto (-34), 3) := by decide +kernel
theorem dX1_hasTwins_47 : decode cX1_hasTwins 47 = .ok (.iinc 1 1, 3) := by decide +kernel
theorem dX1_hasTwins_50 : decode cX1_hasTwins 50 = .ok (.goto (-48), 3) := by decide +kernel
theorem dX1_hasTwins_53 : decode cX1_hasTwins 53 = .ok (.iconst 0, 1) := by decide +kernel
theorem dX1_hasTwins_54 : decode cX1_hasTwins 54 = .ok (.ireturn, 1) := by decide +kernel
theorem dX1_metresOn_0 : decode cX1_metresOn 0 = .ok (.aload_n 0, 1) := by decide +kernel
theorem dX1_metresOn_1 : decode cX1_metresOn 1 = .ok (.getfield 26, 3) := by decide +kernel
theorem dX1_metresOn_4 : decode cX1_metresOn 4 = .ok (.ifCond .eq 12, 3) := by decide +kernel
theorem dX1_metresOn_7 : decode cX1_metresOn 7 = .ok (.aload_n 0, 1) := by decide +kernel
theorem dX1_metresOn_8 : decode cX1_metresOn 8 = .ok (.getfield 30, 3) := by decide +kernel
theorem dX1_metresOn_11 : decode cX1_metresOn 11 = .ok (.iload_n 1, 1) := by decide +kernel
theorem dX1_metresOn_12 : decode cX1_metresOn 12 = .ok (.isub, 1) := by decide +kernel
theorem dX1_metresOn_13 : decode cX1_metresOn 13 = .ok (.goto 4, 3) := by decide +kernel
theorem dX1_metresOn_16 : decode cX1_metresOn 16 = .ok (.iload_n 1, 1) := by decide +kernel
theorem dX1_metresOn_17 : decode cX1_metresOn 17 = .ok (.ireturn, 1) := by decide +kernel
theorem dX1_keyOf_0 : decode cX1_keyOf 0 = .ok (.aload_n 0, 1) := by decide +kernel
theorem dX1_keyOf_1 : decode cX1_keyOf 1 = .ok (.iload_n 2, 1) := by decide +kernel
theorem dX1_keyOf_2 : decode cX1_keyOf 2 = .ok (.invokevirtual 60, 3) := by decide +kernel
theorem dX1_keyOf_5 : decode cX1_keyOf 5 = .ok (.bipush 64, 2) := by decide +kernel
theorem dX1_keyOf_7 : decode cX1_keyOf 7 = .ok (.imul, 1) := by decide +kernel
theorem dX1_keyOf_8 : decode cX1_keyOf 8 = .ok (.iload_n 1, 1) := by decide +kernel
theorem dX1_keyOf_9 : decode cX1_keyOf 9 = .ok (.iadd, 1) := by decide +kernel
theorem dX1_keyOf_10 : decode cX1_keyOf 10 = .ok (.ireturn, 1) := by decide +kernel
theorem dX1_isRow_0 : decode cX1_isRow 0 = .ok (.iload_n 0, 1) := by decide +kernel
theorem dX1_isRow_1 : decode cX1_isRow 1 = .ok (.ifCond .lt 13, 3) := by decide +kernel
theorem dX1_isRow_4 : decode cX1_isRow 4 = .ok (.iload_n 0, 1) := by decide +kernel
theorem dX1_isRow_5 : decode cX1_isRow 5 = .ok (.bipush 40, 2) := by decide +kernel
theorem dX1_isRow_7 : decode cX1_isRow 7 = .ok (.if_icmp .ge 7, 3) := by decide +kernel
theorem dX1_isRow_10 : decode cX1_isRow 10 = .ok (.iconst 1, 1) := by decide +kernel
theorem dX1_isRow_11 : decode cX1_isRow 11 = .ok (.goto 4, 3) := by decide +kernel
theorem dX1_isRow_14 : decode cX1_isRow 14 = .ok (.iconst 0, 1) := by decide +kernel
theorem dX1_isRow_15 : decode cX1_isRow 15 = .ok (.ireturn, 1) := by decide +kernel
theorem dX2_longer_0 : decode cX2_longer 0 = .ok (.lload_n 0, 1) := by decide +kernel
theorem dX2_longer_1 : decode cX2_longer 1 = .ok (.iconst 5, 1) := by decide +kernel
theorem dX2_longer_2 : decode cX2_longer 2 = .ok (.lshl, 1) := by decide +kernel
theorem dX2_longer_3 : decode cX2_longer 3 = .ok (.iload_n 2, 1) := by decide +kernel
theorem dX2_longer_4 : decode cX2_longer 4 = .ok (.bipush 97, 2) := by decide +kernel
theorem dX2_longer_6 : decode cX2_longer 6 = .ok (.isub, 1) := by decide +kernel
theorem dX2_longer_7 : decode cX2_longer 7 = .ok (.iconst 1, 1) := by decide +kernel
theorem dX2_longer_8 : decode cX2_longer 8 = .ok (.iadd, 1) := by decide +kernel
theorem dX2_longer_9 : decode cX2_longer 9 = .ok (.i2l, 1) := by decide +kernel
theorem dX2_longer_10 : decode cX2_longer 10 = .ok (.lor, 1) := by decide +kernel
theorem dX2_longer_11 : decode cX2_longer 11 = .ok (.lreturn, 1) := by decide +kernel
theorem dX2_lengthOf_0 : decode cX2_lengthOf 0 = .ok (.iconst 0, 1) := by decide +kernel
theorem dX2_lengthOf_1 : decode cX2_lengthOf 1 = .ok (.istore_n 2, 1) := by decide +kernel
theorem dX2_lengthOf_2 : decode cX2_lengthOf 2 = .ok (.iload_n 2, 1) := by decide +kernel
theorem dX2_lengthOf_3 : decode cX2_lengthOf 3 = .ok (.bipush 7, 2) := by decide +kernel
theorem dX2_lengthOf_5 : decode cX2_lengthOf 5 = .ok (.if_icmp .ge 19, 3) := by decide +kernel
theorem dX2_lengthOf_8 : decode cX2_lengthOf 8 = .ok (.lload_n 0, 1) := by decide +kernel
theorem dX2_lengthOf_9 : decode cX2_lengthOf 9 = .ok (.iload_n 2, 1) := by decide +kernel
theorem dX2_lengthOf_10 : decode cX2_lengthOf 10 = .ok (.iconst 5, 1) := by decide +kernel
theorem dX2_lengthOf_11 : decode cX2_lengthOf 11 = .ok (.imul, 1) := by decide +kernel
theorem dX2_lengthOf_12 : decode cX2_lengthOf 12 = .ok (.lshr, 1) := by decide +kernel
theorem dX2_lengthOf_13 : decode cX2_lengthOf 13 = .ok (.lconst 0, 1) := by decide +kernel
theorem dX2_lengthOf_14 : decode cX2_lengthOf 14 = .ok (.lcmp, 1) := by decide +kernel
theorem dX2_lengthOf_15 : decode cX2_lengthOf 15 = .ok (.ifCond .eq 9, 3) := by decide +kernel
theorem dX2_lengthOf_18 : decode cX2_lengthOf 18 = .ok (.iinc 2 1, 3) := by decide +kernel
theorem dX2_lengthOf_21 : decode cX2_lengthOf 21 = .ok (.goto (-19), 3) := by decide +kernel
theorem dX2_lengthOf_24 : decode cX2_lengthOf 24 = .ok (.iload_n 2, 1) := by decide +kernel
theorem dX2_lengthOf_25 : decode cX2_lengthOf 25 = .ok (.ireturn, 1) := by decide +kernel
theorem dX2_letterOf_0 : decode cX2_letterOf 0 = .ok (.lload_n 0, 1) := by decide +kernel
theorem dX2_letterOf_1 : decode cX2_letterOf 1 = .ok (.invokestatic 11, 3) := by decide +kernel
theorem dX2_letterOf_4 : decode cX2_letterOf 4 = .ok (.iconst 1, 1) := by decide +kernel
theorem dX2_letterOf_5 : decode cX2_letterOf 5 = .ok (.isub, 1) := by decide +kernel
theorem dX2_letterOf_6 : decode cX2_letterOf 6 = .ok (.iload_n 2, 1) := by decide +kernel
theorem dX2_letterOf_7 : decode cX2_letterOf 7 = .ok (.isub, 1) := by decide +kernel
theorem dX2_letterOf_8 : decode cX2_letterOf 8 = .ok (.istore_n 3, 1) := by decide +kernel
theorem dX2_letterOf_9 : decode cX2_letterOf 9 = .ok (.lload_n 0, 1) := by decide +kernel
theorem dX2_letterOf_10 : decode cX2_letterOf 10 = .ok (.iload_n 3, 1) := by decide +kernel
theorem dX2_letterOf_11 : decode cX2_letterOf 11 = .ok (.iconst 5, 1) := by decide +kernel
theorem dX2_letterOf_12 : decode cX2_letterOf 12 = .ok (.imul, 1) := by decide +kernel
theorem dX2_letterOf_13 : decode cX2_letterOf 13 = .ok (.lshr, 1) := by decide +kernel
theorem dX2_letterOf_14 : decode cX2_letterOf 14 = .ok (.l2i, 1) := by decide +kernel
theorem dX2_letterOf_15 : decode cX2_letterOf 15 = .ok (.bipush 31, 2) := by decide +kernel
theorem dX2_letterOf_17 : decode cX2_letterOf 17 = .ok (.iand, 1) := by decide +kernel
theorem dX2_letterOf_18 : decode cX2_letterOf 18 = .ok (.istore 4, 2) := by decide +kernel
theorem dX2_letterOf_20 : decode cX2_letterOf 20 = .ok (.bipush 96, 2) := by decide +kernel
theorem dX2_letterOf_22 : decode cX2_letterOf 22 = .ok (.iload 4, 2) := by decide +kernel
theorem dX2_letterOf_24 : decode cX2_letterOf 24 = .ok (.iadd, 1) := by decide +kernel
theorem dX2_letterOf_25 : decode cX2_letterOf 25 = .ok (.i2c, 1) := by decide +kernel
theorem dX2_letterOf_26 : decode cX2_letterOf 26 = .ok (.ireturn, 1) := by decide +kernel
theorem dX3_init_0 : decode cX3_init 0 = .ok (.aload_n 0, 1) := by decide +kernel
theorem dX3_init_1 : decode cX3_init 1 = .ok (.invokespecial 3, 3) := by decide +kernel
theorem dX3_init_4 : decode cX3_init 4 = .ok (.aload_n 0, 1) := by decide +kernel
theorem dX3_init_5 : decode cX3_init 5 = .ok (.sipush 200, 3) := by decide +kernel
theorem dX3_init_8 : decode cX3_init 8 = .ok (.newarray .long, 2) := by decide +kernel
theorem dX3_init_10 : decode cX3_init 10 = .ok (.putfield 9, 3) := by decide +kernel
theorem dX3_init_13 : decode cX3_init 13 = .ok (.aload_n 0, 1) := by decide +kernel
theorem dX3_init_14 : decode cX3_init 14 = .ok (.sipush 200, 3) := by decide +kernel
theorem dX3_init_17 : decode cX3_init 17 = .ok (.newarray .int, 2) := by decide +kernel
theorem dX3_init_19 : decode cX3_init 19 = .ok (.putfield 15, 3) := by decide +kernel
theorem dX3_init_22 : decode cX3_init 22 = .ok (.aload_n 0, 1) := by decide +kernel
theorem dX3_init_23 : decode cX3_init 23 = .ok (.sipush 200, 3) := by decide +kernel
theorem dX3_init_26 : decode cX3_init 26 = .ok (.newarray .int, 2) := by decide +kernel
theorem dX3_init_28 : decode cX3_init 28 = .ok (.putfield 19, 3) := by decide +kernel
theorem dX3_init_31 : decode cX3_init 31 = .ok (.aload_n 0, 1) := by decide +kernel
theorem dX3_init_32 : decode cX3_init 32 = .ok (.sipush 200, 3) := by decide +kernel
theorem dX3_init_35 : decode cX3_init 35 = .ok (.newarray .int, 2) := by decide +kernel
theorem dX3_init_37 : decode cX3_init 37 = .ok (.putfield 22, 3) := by decide +kernel
theorem dX3_init_40 : decode cX3_init 40 = .ok (.aload_n 0, 1) := by decide +kernel
theorem dX3_init_41 : decode cX3_init 41 = .ok (.iconst 0, 1) := by decide +kernel
theorem dX3_init_42 : decode cX3_init 42 = .ok (.putfield 25, 3) := by decide +kernel
theorem dX3_init_45 : decode cX3_init 45 = .ok (.aload_n 0, 1) := by decide +kernel
theorem dX3_init_46 : decode cX3_init 46 = .ok (.iconst 0, 1) := by decide +kernel
theorem dX3_init_47 : decode cX3_init 47 = .ok (.putfield 29, 3) := by decide +kernel
theorem dX3_init_50 : decode cX3_init 50 = .ok (.return_, 1) := by decide +kernel
theorem dX3_keep_0 : decode cX3_keep 0 = .ok (.aload_n 0, 1) := by decide +kernel
theorem dX3_keep_1 : decode cX3_keep 1 = .ok (.getfield 29, 3) := by decide +kernel
theorem dX3_keep_4 : decode cX3_keep 4 = .ok (.invokestatic 32, 3) := by decide +kernel
theorem dX3_keep_7 : decode cX3_keep 7 = .ok (.ifCond .ne 4, 3) := by decide +kernel
theorem dX3_keep_10 : decode cX3_keep 10 = .ok (.return_, 1) := by decide +kernel
theorem dX3_keep_11 : decode cX3_keep 11 = .ok (.aload_n 0, 1) := by decide +kernel
theorem dX3_keep_12 : decode cX3_keep 12 = .ok (.getfield 9, 3) := by decide +kernel
theorem dX3_keep_15 : decode cX3_keep 15 = .ok (.aload_n 0, 1) := by decide +kernel
theorem dX3_keep_16 : decode cX3_keep 16 = .ok (.getfield 29, 3) := by decide +kernel
theorem dX3_keep_19 : decode cX3_keep 19 = .ok (.lload_n 1, 1) := by decide +kernel
theorem dX3_keep_20 : decode cX3_keep 20 = .ok (.lastore, 1) := by decide +kernel
theorem dX3_keep_21 : decode cX3_keep 21 = .ok (.aload_n 0, 1) := by decide +kernel
theorem dX3_keep_22 : decode cX3_keep 22 = .ok (.getfield 15, 3) := by decide +kernel
theorem dX3_keep_25 : decode cX3_keep 25 = .ok (.aload_n 0, 1) := by decide +kernel
theorem dX3_keep_26 : decode cX3_keep 26 = .ok (.getfield 29, 3) := by decide +kernel
theorem dX3_keep_29 : decode cX3_keep 29 = .ok (.iload_n 3, 1) := by decide +kernel
theorem dX3_keep_30 : decode cX3_keep 30 = .ok (.iastore, 1) := by decide +kernel
theorem dX3_keep_31 : decode cX3_keep 31 = .ok (.aload_n 0, 1) := by decide +kernel
theorem dX3_keep_32 : decode cX3_keep 32 = .ok (.getfield 19, 3) := by decide +kernel
theorem dX3_keep_35 : decode cX3_keep 35 = .ok (.aload_n 0, 1) := by decide +kernel
theorem dX3_keep_36 : decode cX3_keep 36 = .ok (.getfield 29, 3) := by decide +kernel
theorem dX3_keep_39 : decode cX3_keep 39 = .ok (.iload 4, 2) := by decide +kernel
theorem dX3_keep_41 : decode cX3_keep 41 = .ok (.iastore, 1) := by decide +kernel
theorem dX3_keep_42 : decode cX3_keep 42 = .ok (.aload_n 0, 1) := by decide +kernel
theorem dX3_keep_43 : decode cX3_keep 43 = .ok (.getfield 22, 3) := by decide +kernel
theorem dX3_keep_46 : decode cX3_keep 46 = .ok (.aload_n 0, 1) := by decide +kernel
theorem dX3_keep_47 : decode cX3_keep 47 = .ok (.getfield 29, 3) := by decide +kernel
theorem dX3_keep_50 : decode cX3_keep 50 = .ok (.iload 5, 2) := by decide +kernel
theorem dX3_keep_52 : decode cX3_keep 52 = .ok (.iastore, 1) := by decide +kernel
theorem dX3_keep_53 : decode cX3_keep 53 = .ok (.aload_n 0, 1) := by decide +kernel
theorem dX3_keep_54 : decode cX3_keep 54 = .ok (.aload_n 0, 1) := by decide +kernel
theorem dX3_keep_55 : decode cX3_keep 55 = .ok (.getfield 29, 3) := by decide +kernel
theorem dX3_keep_58 : decode cX3_keep 58 = .ok (.iconst 1, 1) := by decide +kernel
theorem dX3_keep_59 : decode cX3_keep 59 = .ok (.iadd, 1) := by decide +kernel
theorem dX3_keep_60 : decode cX3_keep 60 = .ok (.sipush 200, 3) := by decide +kernel
theorem dX3_keep_63 : decode cX3_keep 63 = .ok (.if_icmp .ge 12, 3) := by decide +kernel
theorem dX3_keep_66 : decode cX3_keep 66 = .ok (.aload_n 0, 1) := by decide +kernel
theorem dX3_keep_67 : decode cX3_keep 67 = .ok (.getfield 29, 3) := by decide +kernel
theorem dX3_keep_70 : decode cX3_keep 70 = .ok (.iconst 1, 1) := by decide +kernel
theorem dX3_keep_71 : decode cX3_keep 71 = .ok (.iadd, 1) := by decide +kernel
theorem dX3_keep_72 : decode cX3_keep 72 = .ok (.goto 4, 3) := by decide +kernel
theorem dX3_keep_75 : decode cX3_keep 75 = .ok (.iconst 0, 1) := by decide +kernel
theorem dX3_keep_76 : decode cX3_keep 76 = .ok (.putfield 29, 3) := by decide +kernel
theorem dX3_keep_79 : decode cX3_keep 79 = .ok (.aload_n 0, 1) := by decide +kernel
theorem dX3_keep_80 : decode cX3_keep 80 = .ok (.aload_n 0, 1) := by decide +kernel
theorem dX3_keep_81 : decode cX3_keep 81 = .ok (.getfield 25, 3) := by decide +kernel
theorem dX3_keep_84 : decode cX3_keep 84 = .ok (.iconst 1, 1) := by decide +kernel
theorem dX3_keep_85 : decode cX3_keep 85 = .ok (.iadd, 1) := by decide +kernel
theorem dX3_keep_86 : decode cX3_keep 86 = .ok (.sipush 200, 3) := by decide +kernel
theorem dX3_keep_89 : decode cX3_keep 89 = .ok (.invokestatic 36, 3) := by decide +kernel
theorem dX3_keep_92 : decode cX3_keep 92 = .ok (.putfield 25, 3) := by decide +kernel
theorem dX3_keep_95 : decode cX3_keep 95 = .ok (.return_, 1) := by decide +kernel
theorem dX3_newest_0 : decode cX3_newest 0 = .ok (.iconst 1, 1) := by decide +kernel
theorem dX3_newest_1 : decode cX3_newest 1 = .ok (.istore 4, 2) := by decide +kernel
theorem dX3_newest_3 : decode cX3_newest 3 = .ok (.iload 4, 2) := by decide +kernel
theorem dX3_newest_5 : decode cX3_newest 5 = .ok (.aload_n 0, 1) := by decide +kernel
theorem dX3_newest_6 : decode cX3_newest 6 = .ok (.getfield 25, 3) := by decide +kernel
theorem dX3_newest_9 : decode cX3_newest 9 = .ok (.if_icmp .gt 76, 3) := by decide +kernel
theorem dX3_newest_12 : decode cX3_newest 12 = .ok (.aload_n 0, 1) := by decide +kernel
theorem dX3_newest_13 : decode cX3_newest 13 = .ok (.getfield 29, 3) := by decide +kernel
theorem dX3_newest_16 : decode cX3_newest 16 = .ok (.iload 4, 2) := by decide +kernel
theorem dX3_newest_18 : decode cX3_newest 18 = .ok (.isub, 1) := by decide +kernel
theorem dX3_newest_19 : decode cX3_newest 19 = .ok (.ifCond .ge 17, 3) := by decide +kernel
theorem dX3_newest_22 : decode cX3_newest 22 = .ok (.aload_n 0, 1) := by decide +kernel
theorem dX3_newest_23 : decode cX3_newest 23 = .ok (.getfield 29, 3) := by decide +kernel
theorem dX3_newest_26 : decode cX3_newest 26 = .ok (.iload 4, 2) := by decide +kernel
theorem dX3_newest_28 : decode cX3_newest 28 = .ok (.isub, 1) := by decide +kernel
theorem dX3_newest_29 : decode cX3_newest 29 = .ok (.sipush 200, 3) := by decide +kernel
theorem dX3_newest_32 : decode cX3_newest 32 = .ok (.iadd, 1) := by decide +kernel
theorem dX3_newest_33 : decode cX3_newest 33 = .ok (.goto 10, 3) := by decide +kernel
theorem dX3_newest_36 : decode cX3_newest 36 = .ok (.aload_n 0, 1) := by decide +kernel
theorem dX3_newest_37 : decode cX3_newest 37 = .ok (.getfield 29, 3) := by decide +kernel
theorem dX3_newest_40 : decode cX3_newest 40 = .ok (.iload 4, 2) := by decide +kernel
theorem dX3_newest_42 : decode cX3_newest 42 = .ok (.isub, 1) := by decide +kernel
theorem dX3_newest_43 : decode cX3_newest 43 = .ok (.istore 5, 2) := by decide +kernel
theorem dX3_newest_45 : decode cX3_newest 45 = .ok (.iload 5, 2) := by decide +kernel
theorem dX3_newest_47 : decode cX3_newest 47 = .ok (.invokestatic 32, 3) := by decide +kernel
theorem dX3_newest_50 : decode cX3_newest 50 = .ok (.ifCond .eq 29, 3) := by decide +kernel
theorem dX3_newest_53 : decode cX3_newest 53 = .ok (.aload_n 0, 1) := by decide +kernel
theorem dX3_newest_54 : decode cX3_newest 54 = .ok (.getfield 9, 3) := by decide +kernel
theorem dX3_newest_57 : decode cX3_newest 57 = .ok (.iload 5, 2) := by decide +kernel
theorem dX3_newest_59 : decode cX3_newest 59 = .ok (.laload, 1) := by decide +kernel
theorem dX3_newest_60 : decode cX3_newest 60 = .ok (.lload_n 1, 1) := by decide +kernel
theorem dX3_newest_61 : decode cX3_newest 61 = .ok (.lcmp, 1) := by decide +kernel
theorem dX3_newest_62 : decode cX3_newest 62 = .ok (.ifCond .ne 17, 3) := by decide +kernel
theorem dX3_newest_65 : decode cX3_newest 65 = .ok (.aload_n 0, 1) := by decide +kernel
theorem dX3_newest_66 : decode cX3_newest 66 = .ok (.getfield 15, 3) := by decide +kernel
theorem dX3_newest_69 : decode cX3_newest 69 = .ok (.iload 5, 2) := by decide +kernel
theorem dX3_newest_71 : decode cX3_newest 71 = .ok (.iaload, 1) := by decide +kernel
theorem dX3_newest_72 : decode cX3_newest 72 = .ok (.iload_n 3, 1) := by decide +kernel
theorem dX3_newest_73 : decode cX3_newest 73 = .ok (.if_icmp .ne 6, 3) := by decide +kernel
theorem dX3_newest_76 : decode cX3_newest 76 = .ok (.iload 5, 2) := by decide +kernel
theorem dX3_newest_78 : decode cX3_newest 78 = .ok (.ireturn, 1) := by decide +kernel
theorem dX3_newest_79 : decode cX3_newest 79 = .ok (.iinc 4 1, 3) := by decide +kernel
theorem dX3_newest_82 : decode cX3_newest 82 = .ok (.goto (-79), 3) := by decide +kernel
theorem dX3_newest_85 : decode cX3_newest 85 = .ok (.iconst (-1), 1) := by decide +kernel
theorem dX3_newest_86 : decode cX3_newest 86 = .ok (.ireturn, 1) := by decide +kernel
theorem dX3_doorIn_0 : decode cX3_doorIn 0 = .ok (.iload_n 1, 1) := by decide +kernel
theorem dX3_doorIn_1 : decode cX3_doorIn 1 = .ok (.invokestatic 32, 3) := by decide +kernel
theorem dX3_doorIn_4 : decode cX3_doorIn 4 = .ok (.ifCond .eq 12, 3) := by decide +kernel
theorem dX3_doorIn_7 : decode cX3_doorIn 7 = .ok (.aload_n 0, 1) := by decide +kernel
theorem dX3_doorIn_8 : decode cX3_doorIn 8 = .ok (.getfield 19, 3) := by decide +kernel
theorem dX3_doorIn_11 : decode cX3_doorIn 11 = .ok (.iload_n 1, 1) := by decide +kernel
theorem dX3_doorIn_12 : decode cX3_doorIn 12 = .ok (.iaload, 1) := by decide +kernel
theorem dX3_doorIn_13 : decode cX3_doorIn 13 = .ok (.goto 4, 3) := by decide +kernel
theorem dX3_doorIn_16 : decode cX3_doorIn 16 = .ok (.iconst (-1), 1) := by decide +kernel
theorem dX3_doorIn_17 : decode cX3_doorIn 17 = .ok (.ireturn, 1) := by decide +kernel
theorem dX3_dayIn_0 : decode cX3_dayIn 0 = .ok (.iload_n 1, 1) := by decide +kernel
theorem dX3_dayIn_1 : decode cX3_dayIn 1 = .ok (.invokestatic 32, 3) := by decide +kernel
theorem dX3_dayIn_4 : decode cX3_dayIn 4 = .ok (.ifCond .eq 12, 3) := by decide +kernel
theorem dX3_dayIn_7 : decode cX3_dayIn 7 = .ok (.aload_n 0, 1) := by decide +kernel
theorem dX3_dayIn_8 : decode cX3_dayIn 8 = .ok (.getfield 22, 3) := by decide +kernel
theorem dX3_dayIn_11 : decode cX3_dayIn 11 = .ok (.iload_n 1, 1) := by decide +kernel
theorem dX3_dayIn_12 : decode cX3_dayIn 12 = .ok (.iaload, 1) := by decide +kernel
theorem dX3_dayIn_13 : decode cX3_dayIn 13 = .ok (.goto 4, 3) := by decide +kernel
theorem dX3_dayIn_16 : decode cX3_dayIn 16 = .ok (.iconst 0, 1) := by decide +kernel
theorem dX3_dayIn_17 : decode cX3_dayIn 17 = .ok (.ireturn, 1) := by decide +kernel
theorem dX3_isRow_0 : decode cX3_isRow 0 = .ok (.iload_n 0, 1) := by decide +kernel
theorem dX3_isRow_1 : decode cX3_isRow 1 = .ok (.ifCond .lt 14, 3) := by decide +kernel
theorem dX3_isRow_4 : decode cX3_isRow 4 = .ok (.iload_n 0, 1) := by decide +kernel
theorem dX3_isRow_5 : decode cX3_isRow 5 = .ok (.sipush 200, 3) := by decide +kernel
theorem dX3_isRow_8 : decode cX3_isRow 8 = .ok (.if_icmp .ge 7, 3) := by decide +kernel
theorem dX3_isRow_11 : decode cX3_isRow 11 = .ok (.iconst 1, 1) := by decide +kernel
theorem dX3_isRow_12 : decode cX3_isRow 12 = .ok (.goto 4, 3) := by decide +kernel
theorem dX3_isRow_15 : decode cX3_isRow 15 = .ok (.iconst 0, 1) := by decide +kernel
theorem dX3_isRow_16 : decode cX3_isRow 16 = .ok (.ireturn, 1) := by decide +kernel
theorem dX4_init_0 : decode cX4_init 0 = .ok (.aload_n 0, 1) := by decide +kernel
theorem dX4_init_1 : decode cX4_init 1 = .ok (.invokespecial 3, 3) := by decide +kernel
theorem dX4_init_4 : decode cX4_init 4 = .ok (.aload_n 0, 1) := by decide +kernel
theorem dX4_init_5 : decode cX4_init 5 = .ok (.bipush 40, 2) := by decide +kernel
theorem dX4_init_7 : decode cX4_init 7 = .ok (.newarray .int, 2) := by decide +kernel
theorem dX4_init_9 : decode cX4_init 9 = .ok (.putfield 9, 3) := by decide +kernel
theorem dX4_init_12 : decode cX4_init 12 = .ok (.aload_n 0, 1) := by decide +kernel
theorem dX4_init_13 : decode cX4_init 13 = .ok (.iconst 0, 1) := by decide +kernel
theorem dX4_init_14 : decode cX4_init 14 = .ok (.putfield 15, 3) := by decide +kernel
theorem dX4_init_17 : decode cX4_init 17 = .ok (.return_, 1) := by decide +kernel
theorem dX4_clear_0 : decode cX4_clear 0 = .ok (.aload_n 0, 1) := by decide +kernel
theorem dX4_clear_1 : decode cX4_clear 1 = .ok (.iconst 0, 1) := by decide +kernel
theorem dX4_clear_2 : decode cX4_clear 2 = .ok (.putfield 15, 3) := by decide +kernel
theorem dX4_clear_5 : decode cX4_clear 5 = .ok (.return_, 1) := by decide +kernel
theorem dX4_put_0 : decode cX4_put 0 = .ok (.aload_n 0, 1) := by decide +kernel
theorem dX4_put_1 : decode cX4_put 1 = .ok (.getfield 15, 3) := by decide +kernel
theorem dX4_put_4 : decode cX4_put 4 = .ok (.istore_n 3, 1) := by decide +kernel
theorem dX4_put_5 : decode cX4_put 5 = .ok (.iload_n 3, 1) := by decide +kernel
theorem dX4_put_6 : decode cX4_put 6 = .ok (.ifCond .lt 12, 3) := by decide +kernel
theorem dX4_put_9 : decode cX4_put 9 = .ok (.iload_n 3, 1) := by decide +kernel
theorem dX4_put_10 : decode cX4_put 10 = .ok (.aload_n 0, 1) := by decide +kernel
theorem dX4_put_11 : decode cX4_put 11 = .ok (.getfield 9, 3) := by decide +kernel
theorem dX4_put_14 : decode cX4_put 14 = .ok (.arraylength, 1) := by decide +kernel
theorem dX4_put_15 : decode cX4_put 15 = .ok (.if_icmp .lt 4, 3) := by decide +kernel
theorem dX4_put_18 : decode cX4_put 18 = .ok (.return_, 1) := by decide +kernel
theorem dX4_put_19 : decode cX4_put 19 = .ok (.iload_n 1, 1) := by decide +kernel
theorem dX4_put_20 : decode cX4_put 20 = .ok (.bipush 64, 2) := by decide +kernel
theorem dX4_put_22 : decode cX4_put 22 = .ok (.imul, 1) := by decide +kernel
theorem dX4_put_23 : decode cX4_put 23 = .ok (.iload_n 2, 1) := by decide +kernel
theorem dX4_put_24 : decode cX4_put 24 = .ok (.iadd, 1) := by decide +kernel
theorem dX4_put_25 : decode cX4_put 25 = .ok (.istore 4, 2) := by decide +kernel
theorem dX4_put_27 : decode cX4_put 27 = .ok (.iload_n 3, 1) := by decide +kernel
theorem dX4_put_28 : decode cX4_put 28 = .ok (.ifCond .le 36, 3) := by decide +kernel
theorem dX4_put_31 : decode cX4_put 31 = .ok (.aload_n 0, 1) := by decide +kernel
theorem dX4_put_32 : decode cX4_put 32 = .ok (.getfield 9, 3) := by decide +kernel
theorem dX4_put_35 : decode cX4_put 35 = .ok (.iload_n 3, 1) := by decide +kernel
theorem dX4_put_36 : decode cX4_put 36 = .ok (.iconst 1, 1) := by decide +kernel
theorem dX4_put_37 : decode cX4_put 37 = .ok (.isub, 1) := by decide +kernel
theorem dX4_put_38 : decode cX4_put 38 = .ok (.iaload, 1) := by decide +kernel
theorem dX4_put_39 : decode cX4_put 39 = .ok (.iload 4, 2) := by decide +kernel
theorem dX4_put_41 : decode cX4_put 41 = .ok (.if_icmp .le 23, 3) := by decide +kernel
theorem dX4_put_44 : decode cX4_put 44 = .ok (.aload_n 0, 1) := by decide +kernel
theorem dX4_put_45 : decode cX4_put 45 = .ok (.getfield 9, 3) := by decide +kernel
theorem dX4_put_48 : decode cX4_put 48 = .ok (.iload_n 3, 1) := by decide +kernel
theorem dX4_put_49 : decode cX4_put 49 = .ok (.aload_n 0, 1) := by decide +kernel
theorem dX4_put_50 : decode cX4_put 50 = .ok (.getfield 9, 3) := by decide +kernel
theorem dX4_put_53 : decode cX4_put 53 = .ok (.iload_n 3, 1) := by decide +kernel
theorem dX4_put_54 : decode cX4_put 54 = .ok (.iconst 1, 1) := by decide +kernel
theorem dX4_put_55 : decode cX4_put 55 = .ok (.isub, 1) := by decide +kernel
theorem dX4_put_56 : decode cX4_put 56 = .ok (.iaload, 1) := by decide +kernel
theorem dX4_put_57 : decode cX4_put 57 = .ok (.iastore, 1) := by decide +kernel
theorem dX4_put_58 : decode cX4_put 58 = .ok (.iinc 3 (-1), 3) := by decide +kernel
theorem dX4_put_61 : decode cX4_put 61 = .ok (.goto (-34), 3) := by decide +kernel
theorem dX4_put_64 : decode cX4_put 64 = .ok (.aload_n 0, 1) := by decide +kernel
theorem dX4_put_65 : decode cX4_put 65 = .ok (.getfield 9, 3) := by decide +kernel
theorem dX4_put_68 : decode cX4_put 68 = .ok (.iload_n 3, 1) := by decide +kernel
theorem dX4_put_69 : decode cX4_put 69 = .ok (.iload 4, 2) := by decide +kernel
theorem dX4_put_71 : decode cX4_put 71 = .ok (.iastore, 1) := by decide +kernel
theorem dX4_put_72 : decode cX4_put 72 = .ok (.aload_n 0, 1) := by decide +kernel
theorem dX4_put_73 : decode cX4_put 73 = .ok (.dup, 1) := by decide +kernel
theorem dX4_put_74 : decode cX4_put 74 = .ok (.getfield 15, 3) := by decide +kernel
theorem dX4_put_77 : decode cX4_put 77 = .ok (.iconst 1, 1) := by decide +kernel
theorem dX4_put_78 : decode cX4_put 78 = .ok (.iadd, 1) := by decide +kernel
theorem dX4_put_79 : decode cX4_put 79 = .ok (.putfield 15, 3) := by decide +kernel
theorem dX4_put_82 : decode cX4_put 82 = .ok (.return_, 1) := by decide +kernel
theorem dX4_doorIn_0 : decode cX4_doorIn 0 = .ok (.iload_n 1, 1) := by decide +kernel
theorem dX4_doorIn_1 : decode cX4_doorIn 1 = .ok (.ifCond .lt 32, 3) := by decide +kernel
theorem dX4_doorIn_4 : decode cX4_doorIn 4 = .ok (.iload_n 1, 1) := by decide +kernel
theorem dX4_doorIn_5 : decode cX4_doorIn 5 = .ok (.aload_n 0, 1) := by decide +kernel
theorem dX4_doorIn_6 : decode cX4_doorIn 6 = .ok (.getfield 15, 3) := by decide +kernel
theorem dX4_doorIn_9 : decode cX4_doorIn 9 = .ok (.if_icmp .ge 24, 3) := by decide +kernel
theorem dX4_doorIn_12 : decode cX4_doorIn 12 = .ok (.iload_n 1, 1) := by decide +kernel
theorem dX4_doorIn_13 : decode cX4_doorIn 13 = .ok (.aload_n 0, 1) := by decide +kernel
theorem dX4_doorIn_14 : decode cX4_doorIn 14 = .ok (.getfield 9, 3) := by decide +kernel
theorem dX4_doorIn_17 : decode cX4_doorIn 17 = .ok (.arraylength, 1) := by decide +kernel
theorem dX4_doorIn_18 : decode cX4_doorIn 18 = .ok (.if_icmp .ge 15, 3) := by decide +kernel
theorem dX4_doorIn_21 : decode cX4_doorIn 21 = .ok (.aload_n 0, 1) := by decide +kernel
theorem dX4_doorIn_22 : decode cX4_doorIn 22 = .ok (.getfield 9, 3) := by decide +kernel
theorem dX4_doorIn_25 : decode cX4_doorIn 25 = .ok (.iload_n 1, 1) := by decide +kernel
theorem dX4_doorIn_26 : decode cX4_doorIn 26 = .ok (.iaload, 1) := by decide +kernel
theorem dX4_doorIn_27 : decode cX4_doorIn 27 = .ok (.bipush 64, 2) := by decide +kernel
theorem dX4_doorIn_29 : decode cX4_doorIn 29 = .ok (.irem, 1) := by decide +kernel
theorem dX4_doorIn_30 : decode cX4_doorIn 30 = .ok (.goto 4, 3) := by decide +kernel
theorem dX4_doorIn_33 : decode cX4_doorIn 33 = .ok (.iconst (-1), 1) := by decide +kernel
theorem dX4_doorIn_34 : decode cX4_doorIn 34 = .ok (.ireturn, 1) := by decide +kernel
theorem dX5_init_0 : decode cX5_init 0 = .ok (.aload_n 0, 1) := by decide +kernel
theorem dX5_init_1 : decode cX5_init 1 = .ok (.invokespecial 1, 3) := by decide +kernel
theorem dX5_init_4 : decode cX5_init 4 = .ok (.aload_n 0, 1) := by decide +kernel
theorem dX5_init_5 : decode cX5_init 5 = .ok (.iload_n 1, 1) := by decide +kernel
theorem dX5_init_6 : decode cX5_init 6 = .ok (.putfield 7, 3) := by decide +kernel
theorem dX5_init_9 : decode cX5_init 9 = .ok (.aload_n 0, 1) := by decide +kernel
theorem dX5_init_10 : decode cX5_init 10 = .ok (.aload_n 2, 1) := by decide +kernel
theorem dX5_init_11 : decode cX5_init 11 = .ok (.putfield 13, 3) := by decide +kernel
theorem dX5_init_14 : decode cX5_init 14 = .ok (.aload_n 0, 1) := by decide +kernel
theorem dX5_init_15 : decode cX5_init 15 = .ok (.iload_n 3, 1) := by decide +kernel
theorem dX5_init_16 : decode cX5_init 16 = .ok (.putfield 17, 3) := by decide +kernel
theorem dX5_init_19 : decode cX5_init 19 = .ok (.aload_n 0, 1) := by decide +kernel
theorem dX5_init_20 : decode cX5_init 20 = .ok (.iload 4, 2) := by decide +kernel
theorem dX5_init_22 : decode cX5_init 22 = .ok (.putfield 20, 3) := by decide +kernel
theorem dX5_init_25 : decode cX5_init 25 = .ok (.aload_n 0, 1) := by decide +kernel
theorem dX5_init_26 : decode cX5_init 26 = .ok (.iload 5, 2) := by decide +kernel
theorem dX5_init_28 : decode cX5_init 28 = .ok (.putfield 24, 3) := by decide +kernel
theorem dX5_init_31 : decode cX5_init 31 = .ok (.return_, 1) := by decide +kernel
theorem dX5_isAddress_0 : decode cX5_isAddress 0 = .ok (.iload_n 3, 1) := by decide +kernel
theorem dX5_isAddress_1 : decode cX5_isAddress 1 = .ok (.aload_n 0, 1) := by decide +kernel
theorem dX5_isAddress_2 : decode cX5_isAddress 2 = .ok (.getfield 24, 3) := by decide +kernel
theorem dX5_isAddress_5 : decode cX5_isAddress 5 = .ok (.if_icmp .ne 25, 3) := by decide +kernel
theorem dX5_isAddress_8 : decode cX5_isAddress 8 = .ok (.aload_n 0, 1) := by decide +kernel
theorem dX5_isAddress_9 : decode cX5_isAddress 9 = .ok (.getfield 13, 3) := by decide +kernel
theorem dX5_isAddress_12 : decode cX5_isAddress 12 = .ok (.ifnull 18, 3) := by decide +kernel
theorem dX5_isAddress_15 : decode cX5_isAddress 15 = .ok (.aload_n 0, 1) := by decide +kernel
theorem dX5_isAddress_16 : decode cX5_isAddress 16 = .ok (.getfield 13, 3) := by decide +kernel
theorem dX5_isAddress_19 : decode cX5_isAddress 19 = .ok (.lload_n 1, 1) := by decide +kernel
theorem dX5_isAddress_20 : decode cX5_isAddress 20 = .ok (.invokevirtual 27, 3) := by decide +kernel
theorem dX5_isAddress_23 : decode cX5_isAddress 23 = .ok (.ifCond .eq 7, 3) := by decide +kernel
theorem dX5_isAddress_26 : decode cX5_isAddress 26 = .ok (.iconst 1, 1) := by decide +kernel
theorem dX5_isAddress_27 : decode cX5_isAddress 27 = .ok (.goto 4, 3) := by decide +kernel
theorem dX5_isAddress_30 : decode cX5_isAddress 30 = .ok (.iconst 0, 1) := by decide +kernel
theorem dX5_isAddress_31 : decode cX5_isAddress 31 = .ok (.ireturn, 1) := by decide +kernel
theorem dX6_init_0 : decode cX6_init 0 = .ok (.aload_n 0, 1) := by decide +kernel
theorem dX6_init_1 : decode cX6_init 1 = .ok (.invokespecial 1, 3) := by decide +kernel
theorem dX6_init_4 : decode cX6_init 4 = .ok (.aload_n 0, 1) := by decide +kernel
theorem dX6_init_5 : decode cX6_init 5 = .ok (.iload_n 1, 1) := by decide +kernel
theorem dX6_init_6 : decode cX6_init 6 = .ok (.putfield 7, 3) := by decide +kernel
theorem dX6_init_9 : decode cX6_init 9 = .ok (.aload_n 0, 1) := by decide +kernel
theorem dX6_init_10 : decode cX6_init 10 = .ok (.lload_n 2, 1) := by decide +kernel
theorem dX6_init_11 : decode cX6_init 11 = .ok (.putfield 13, 3) := by decide +kernel
theorem dX6_init_14 : decode cX6_init 14 = .ok (.aload_n 0, 1) := by decide +kernel
theorem dX6_init_15 : decode cX6_init 15 = .ok (.lconst 0, 1) := by decide +kernel
theorem dX6_init_16 : decode cX6_init 16 = .ok (.putfield 19, 3) := by decide +kernel
theorem dX6_init_19 : decode cX6_init 19 = .ok (.aload_n 0, 1) := by decide +kernel
theorem dX6_init_20 : decode cX6_init 20 = .ok (.iload 4, 2) := by decide +kernel
theorem dX6_init_22 : decode cX6_init 22 = .ok (.putfield 22, 3) := by decide +kernel
theorem dX6_init_25 : decode cX6_init 25 = .ok (.aload_n 0, 1) := by decide +kernel
theorem dX6_init_26 : decode cX6_init 26 = .ok (.iload 5, 2) := by decide +kernel
theorem dX6_init_28 : decode cX6_init 28 = .ok (.putfield 25, 3) := by decide +kernel
theorem dX6_init_31 : decode cX6_init 31 = .ok (.aload_n 0, 1) := by decide +kernel
theorem dX6_init_32 : decode cX6_init 32 = .ok (.iload 6, 2) := by decide +kernel
theorem dX6_init_34 : decode cX6_init 34 = .ok (.putfield 29, 3) := by decide +kernel
theorem dX6_init_37 : decode cX6_init 37 = .ok (.aload_n 0, 1) := by decide +kernel
theorem dX6_init_38 : decode cX6_init 38 = .ok (.iconst 0, 1) := by decide +kernel
theorem dX6_init_39 : decode cX6_init 39 = .ok (.putfield 33, 3) := by decide +kernel
theorem dX6_init_42 : decode cX6_init 42 = .ok (.aload_n 0, 1) := by decide +kernel
theorem dX6_init_43 : decode cX6_init 43 = .ok (.iconst 0, 1) := by decide +kernel
theorem dX6_init_44 : decode cX6_init 44 = .ok (.putfield 36, 3) := by decide +kernel
theorem dX6_init_47 : decode cX6_init 47 = .ok (.return_, 1) := by decide +kernel
theorem dX6_hasName_0 : decode cX6_hasName 0 = .ok (.lload_n 1, 1) := by decide +kernel
theorem dX6_hasName_1 : decode cX6_hasName 1 = .ok (.lconst 0, 1) := by decide +kernel
theorem dX6_hasName_2 : decode cX6_hasName 2 = .ok (.lcmp, 1) := by decide +kernel
theorem dX6_hasName_3 : decode cX6_hasName 3 = .ok (.ifCond .eq 25, 3) := by decide +kernel
theorem dX6_hasName_6 : decode cX6_hasName 6 = .ok (.lload_n 1, 1) := by decide +kernel
theorem dX6_hasName_7 : decode cX6_hasName 7 = .ok (.aload_n 0, 1) := by decide +kernel
theorem dX6_hasName_8 : decode cX6_hasName 8 = .ok (.getfield 13, 3) := by decide +kernel
theorem dX6_hasName_11 : decode cX6_hasName 11 = .ok (.lcmp, 1) := by decide +kernel
theorem dX6_hasName_12 : decode cX6_hasName 12 = .ok (.ifCond .eq 12, 3) := by decide +kernel
theorem dX6_hasName_15 : decode cX6_hasName 15 = .ok (.lload_n 1, 1) := by decide +kernel
theorem dX6_hasName_16 : decode cX6_hasName 16 = .ok (.aload_n 0, 1) := by decide +kernel
theorem dX6_hasName_17 : decode cX6_hasName 17 = .ok (.getfield 19, 3) := by decide +kernel
theorem dX6_hasName_20 : decode cX6_hasName 20 = .ok (.lcmp, 1) := by decide +kernel
theorem dX6_hasName_21 : decode cX6_hasName 21 = .ok (.ifCond .ne 7, 3) := by decide +kernel
theorem dX6_hasName_24 : decode cX6_hasName 24 = .ok (.iconst 1, 1) := by decide +kernel
theorem dX6_hasName_25 : decode cX6_hasName 25 = .ok (.goto 4, 3) := by decide +kernel
theorem dX6_hasName_28 : decode cX6_hasName 28 = .ok (.iconst 0, 1) := by decide +kernel
theorem dX6_hasName_29 : decode cX6_hasName 29 = .ok (.ireturn, 1) := by decide +kernel
theorem dX6_farness_0 : decode cX6_farness 0 = .ok (.aload_n 0, 1) := by decide +kernel
theorem dX6_farness_1 : decode cX6_farness 1 = .ok (.getfield 29, 3) := by decide +kernel
theorem dX6_farness_4 : decode cX6_farness 4 = .ok (.ifCond .eq 12, 3) := by decide +kernel
theorem dX6_farness_7 : decode cX6_farness 7 = .ok (.aload_n 0, 1) := by decide +kernel
theorem dX6_farness_8 : decode cX6_farness 8 = .ok (.getfield 22, 3) := by decide +kernel
theorem dX6_farness_11 : decode cX6_farness 11 = .ok (.iload_n 1, 1) := by decide +kernel
theorem dX6_farness_12 : decode cX6_farness 12 = .ok (.isub, 1) := by decide +kernel
theorem dX6_farness_13 : decode cX6_farness 13 = .ok (.goto 4, 3) := by decide +kernel
theorem dX6_farness_16 : decode cX6_farness 16 = .ok (.iload_n 1, 1) := by decide +kernel
theorem dX6_farness_17 : decode cX6_farness 17 = .ok (.ireturn, 1) := by decide +kernel
theorem dX6_notice_0 : decode cX6_notice 0 = .ok (.aload_n 0, 1) := by decide +kernel
theorem dX6_notice_1 : decode cX6_notice 1 = .ok (.aload_n 0, 1) := by decide +kernel
theorem dX6_notice_2 : decode cX6_notice 2 = .ok (.getfield 36, 3) := by decide +kernel
theorem dX6_notice_5 : decode cX6_notice 5 = .ok (.iload_n 1, 1) := by decide +kernel
theorem dX6_notice_6 : decode cX6_notice 6 = .ok (.bipush 10, 2) := by decide +kernel
theorem dX6_notice_8 : decode cX6_notice 8 = .ok (.idiv, 1) := by decide +kernel
theorem dX6_notice_9 : decode cX6_notice 9 = .ok (.invokestatic 39, 3) := by decide +kernel
theorem dX6_notice_12 : decode cX6_notice 12 = .ok (.putfield 36, 3) := by decide +kernel
theorem dX6_notice_15 : decode cX6_notice 15 = .ok (.return_, 1) := by decide +kernel
theorem dX7_init_0 : decode cX7_init 0 = .ok (.aload_n 0, 1) := by decide +kernel
theorem dX7_init_1 : decode cX7_init 1 = .ok (.invokespecial 3, 3) := by decide +kernel
theorem dX7_init_4 : decode cX7_init 4 = .ok (.aload_n 0, 1) := by decide +kernel
theorem dX7_init_5 : decode cX7_init 5 = .ok (.bipush 12, 2) := by decide +kernel
theorem dX7_init_7 : decode cX7_init 7 = .ok (.anewarray 9, 3) := by decide +kernel
theorem dX7_init_10 : decode cX7_init 10 = .ok (.putfield 11, 3) := by decide +kernel
theorem dX7_init_13 : decode cX7_init 13 = .ok (.aload_n 0, 1) := by decide +kernel
theorem dX7_init_14 : decode cX7_init 14 = .ok (.bipush 40, 2) := by decide +kernel
theorem dX7_init_16 : decode cX7_init 16 = .ok (.anewarray 15, 3) := by decide +kernel
theorem dX7_init_19 : decode cX7_init 19 = .ok (.putfield 17, 3) := by decide +kernel
theorem dX7_init_22 : decode cX7_init 22 = .ok (.aload_n 0, 1) := by decide +kernel
theorem dX7_init_23 : decode cX7_init 23 = .ok (.new 21, 3) := by decide +kernel
theorem dX7_init_26 : decode cX7_init 26 = .ok (.dup, 1) := by decide +kernel
theorem dX7_init_27 : decode cX7_init 27 = .ok (.invokespecial 23, 3) := by decide +kernel
theorem dX7_init_30 : decode cX7_init 30 = .ok (.putfield 24, 3) := by decide +kernel
theorem dX7_init_33 : decode cX7_init 33 = .ok (.aload_n 0, 1) := by decide +kernel
theorem dX7_init_34 : decode cX7_init 34 = .ok (.new 28, 3) := by decide +kernel
theorem dX7_init_37 : decode cX7_init 37 = .ok (.dup, 1) := by decide +kernel
theorem dX7_init_38 : decode cX7_init 38 = .ok (.invokespecial 30, 3) := by decide +kernel
theorem dX7_init_41 : decode cX7_init 41 = .ok (.putfield 31, 3) := by decide +kernel
theorem dX7_init_44 : decode cX7_init 44 = .ok (.aload_n 0, 1) := by decide +kernel
theorem dX7_init_45 : decode cX7_init 45 = .ok (.new 35, 3) := by decide +kernel
theorem dX7_init_48 : decode cX7_init 48 = .ok (.dup, 1) := by decide +kernel
theorem dX7_init_49 : decode cX7_init 49 = .ok (.invokespecial 37, 3) := by decide +kernel
theorem dX7_init_52 : decode cX7_init 52 = .ok (.putfield 38, 3) := by decide +kernel
theorem dX7_init_55 : decode cX7_init 55 = .ok (.aload_n 0, 1) := by decide +kernel
theorem dX7_init_56 : decode cX7_init 56 = .ok (.iconst 0, 1) := by decide +kernel
theorem dX7_init_57 : decode cX7_init 57 = .ok (.putfield 42, 3) := by decide +kernel
theorem dX7_init_60 : decode cX7_init 60 = .ok (.aload_n 0, 1) := by decide +kernel
theorem dX7_init_61 : decode cX7_init 61 = .ok (.iconst 0, 1) := by decide +kernel
theorem dX7_init_62 : decode cX7_init 62 = .ok (.putfield 46, 3) := by decide +kernel
theorem dX7_init_65 : decode cX7_init 65 = .ok (.aload_n 0, 1) := by decide +kernel
theorem dX7_init_66 : decode cX7_init 66 = .ok (.lconst 0, 1) := by decide +kernel
theorem dX7_init_67 : decode cX7_init 67 = .ok (.putfield 51, 3) := by decide +kernel
theorem dX7_init_70 : decode cX7_init 70 = .ok (.aload_n 0, 1) := by decide +kernel
theorem dX7_init_71 : decode cX7_init 71 = .ok (.iconst 0, 1) := by decide +kernel
theorem dX7_init_72 : decode cX7_init 72 = .ok (.putfield 55, 3) := by decide +kernel
theorem dX7_init_75 : decode cX7_init 75 = .ok (.return_, 1) := by decide +kernel
theorem dX7_type_0 : decode cX7_type 0 = .ok (.iload_n 1, 1) := by decide +kernel
theorem dX7_type_1 : decode cX7_type 1 = .ok (.bipush 97, 2) := by decide +kernel
theorem dX7_type_3 : decode cX7_type 3 = .ok (.if_icmp .lt 9, 3) := by decide +kernel
theorem dX7_type_6 : decode cX7_type 6 = .ok (.iload_n 1, 1) := by decide +kernel
theorem dX7_type_7 : decode cX7_type 7 = .ok (.bipush 122, 2) := by decide +kernel
theorem dX7_type_9 : decode cX7_type 9 = .ok (.if_icmp .le 13, 3) := by decide +kernel
theorem dX7_type_12 : decode cX7_type 12 = .ok (.new 58, 3) := by decide +kernel
theorem dX7_type_15 : decode cX7_type 15 = .ok (.dup, 1) := by decide +kernel
theorem dX7_type_16 : decode cX7_type 16 = .ok (.ldc 60, 2) := by decide +kernel
theorem dX7_type_18 : decode cX7_type 18 = .ok (.invokespecial 62, 3) := by decide +kernel
theorem dX7_type_21 : decode cX7_type 21 = .ok (.athrow, 1) := by decide +kernel
theorem dX7_type_22 : decode cX7_type 22 = .ok (.aload_n 0, 1) := by decide +kernel
theorem dX7_type_23 : decode cX7_type 23 = .ok (.getfield 51, 3) := by decide +kernel
theorem dX7_type_26 : decode cX7_type 26 = .ok (.invokestatic 65, 3) := by decide +kernel
theorem dX7_type_29 : decode cX7_type 29 = .ok (.istore_n 2, 1) := by decide +kernel
theorem dX7_type_30 : decode cX7_type 30 = .ok (.iload_n 2, 1) := by decide +kernel
theorem dX7_type_31 : decode cX7_type 31 = .ok (.bipush 7, 2) := by decide +kernel
theorem dX7_type_33 : decode cX7_type 33 = .ok (.if_icmp .lt 13, 3) := by decide +kernel
theorem dX7_type_36 : decode cX7_type 36 = .ok (.new 69, 3) := by decide +kernel
theorem dX7_type_39 : decode cX7_type 39 = .ok (.dup, 1) := by decide +kernel
theorem dX7_type_40 : decode cX7_type 40 = .ok (.ldc 71, 2) := by decide +kernel
theorem dX7_type_42 : decode cX7_type 42 = .ok (.invokespecial 73, 3) := by decide +kernel
theorem dX7_type_45 : decode cX7_type 45 = .ok (.athrow, 1) := by decide +kernel
theorem dX7_type_46 : decode cX7_type 46 = .ok (.aload_n 0, 1) := by decide +kernel
theorem dX7_type_47 : decode cX7_type 47 = .ok (.aload_n 0, 1) := by decide +kernel
theorem dX7_type_48 : decode cX7_type 48 = .ok (.getfield 51, 3) := by decide +kernel
theorem dX7_type_51 : decode cX7_type 51 = .ok (.iload_n 1, 1) := by decide +kernel
theorem dX7_type_52 : decode cX7_type 52 = .ok (.invokestatic 74, 3) := by decide +kernel
theorem dX7_type_55 : decode cX7_type 55 = .ok (.putfield 51, 3) := by decide +kernel
theorem dX7_type_58 : decode cX7_type 58 = .ok (.iload_n 2, 1) := by decide +kernel
theorem dX7_type_59 : decode cX7_type 59 = .ok (.iconst 1, 1) := by decide +kernel
theorem dX7_type_60 : decode cX7_type 60 = .ok (.iadd, 1) := by decide +kernel
theorem dX7_type_61 : decode cX7_type 61 = .ok (.ireturn, 1) := by decide +kernel
theorem dX7_wipe_0 : decode cX7_wipe 0 = .ok (.aload_n 0, 1) := by decide +kernel
theorem dX7_wipe_1 : decode cX7_wipe 1 = .ok (.getfield 51, 3) := by decide +kernel
theorem dX7_wipe_4 : decode cX7_wipe 4 = .ok (.invokestatic 65, 3) := by decide +kernel
theorem dX7_wipe_7 : decode cX7_wipe 7 = .ok (.istore_n 1, 1) := by decide +kernel
theorem dX7_wipe_8 : decode cX7_wipe 8 = .ok (.aload_n 0, 1) := by decide +kernel
theorem dX7_wipe_9 : decode cX7_wipe 9 = .ok (.lconst 0, 1) := by decide +kernel
theorem dX7_wipe_10 : decode cX7_wipe 10 = .ok (.putfield 51, 3) := by decide +kernel
theorem dX7_wipe_13 : decode cX7_wipe 13 = .ok (.iload_n 1, 1) := by decide +kernel
theorem dX7_wipe_14 : decode cX7_wipe 14 = .ok (.ireturn, 1) := by decide +kernel
theorem dX7_rename_0 : decode cX7_rename 0 = .ok (.aload_n 0, 1) := by decide +kernel
theorem dX7_rename_1 : decode cX7_rename 1 = .ok (.iload_n 1, 1) := by decide +kernel
theorem dX7_rename_2 : decode cX7_rename 2 = .ok (.invokevirtual 78, 3) := by decide +kernel
theorem dX7_rename_5 : decode cX7_rename 5 = .ok (.astore_n 2, 1) := by decide +kernel
theorem dX7_rename_6 : decode cX7_rename 6 = .ok (.aload_n 0, 1) := by decide +kernel
theorem dX7_rename_7 : decode cX7_rename 7 = .ok (.getfield 51, 3) := by decide +kernel
theorem dX7_rename_10 : decode cX7_rename 10 = .ok (.lconst 0, 1) := by decide +kernel
theorem dX7_rename_11 : decode cX7_rename 11 = .ok (.lcmp, 1) := by decide +kernel
theorem dX7_rename_12 : decode cX7_rename 12 = .ok (.ifCond .eq 14, 3) := by decide +kernel
theorem dX7_rename_15 : decode cX7_rename 15 = .ok (.aload_n 0, 1) := by decide +kernel
theorem dX7_rename_16 : decode cX7_rename 16 = .ok (.aload_n 0, 1) := by decide +kernel
theorem dX7_rename_17 : decode cX7_rename 17 = .ok (.getfield 51, 3) := by decide +kernel
theorem dX7_rename_20 : decode cX7_rename 20 = .ok (.invokevirtual 82, 3) := by decide +kernel
theorem dX7_rename_23 : decode cX7_rename 23 = .ok (.ifCond .eq 13, 3) := by decide +kernel
theorem dX7_rename_26 : decode cX7_rename 26 = .ok (.new 86, 3) := by decide +kernel
theorem dX7_rename_29 : decode cX7_rename 29 = .ok (.dup, 1) := by decide +kernel
theorem dX7_rename_30 : decode cX7_rename 30 = .ok (.ldc 88, 2) := by decide +kernel
theorem dX7_rename_32 : decode cX7_rename 32 = .ok (.invokespecial 90, 3) := by decide +kernel
theorem dX7_rename_35 : decode cX7_rename 35 = .ok (.athrow, 1) := by decide +kernel
theorem dX7_rename_36 : decode cX7_rename 36 = .ok (.aload_n 0, 1) := by decide +kernel
theorem dX7_rename_37 : decode cX7_rename 37 = .ok (.aload_n 2, 1) := by decide +kernel
theorem dX7_rename_38 : decode cX7_rename 38 = .ok (.aload_n 2, 1) := by decide +kernel
theorem dX7_rename_39 : decode cX7_rename 39 = .ok (.getfield 91, 3) := by decide +kernel
theorem dX7_rename_42 : decode cX7_rename 42 = .ok (.invokevirtual 94, 3) := by decide +kernel
theorem dX7_rename_45 : decode cX7_rename 45 = .ok (.aload_n 2, 1) := by decide +kernel
theorem dX7_rename_46 : decode cX7_rename 46 = .ok (.aload_n 0, 1) := by decide +kernel
theorem dX7_rename_47 : decode cX7_rename 47 = .ok (.getfield 51, 3) := by decide +kernel
theorem dX7_rename_50 : decode cX7_rename 50 = .ok (.putfield 91, 3) := by decide +kernel
theorem dX7_rename_53 : decode cX7_rename 53 = .ok (.aload_n 0, 1) := by decide +kernel
theorem dX7_rename_54 : decode cX7_rename 54 = .ok (.lconst 0, 1) := by decide +kernel
theorem dX7_rename_55 : decode cX7_rename 55 = .ok (.putfield 51, 3) := by decide +kernel
theorem dX7_rename_58 : decode cX7_rename 58 = .ok (.aload_n 0, 1) := by decide +kernel
theorem dX7_rename_59 : decode cX7_rename 59 = .ok (.getfield 24, 3) := by decide +kernel
theorem dX7_rename_62 : decode cX7_rename 62 = .ok (.getfield 98, 3) := by decide +kernel
theorem dX7_rename_65 : decode cX7_rename 65 = .ok (.ireturn, 1) := by decide +kernel
theorem dX7_translate_0 : decode cX7_translate 0 = .ok (.aload_n 0, 1) := by decide +kernel
theorem dX7_translate_1 : decode cX7_translate 1 = .ok (.iload_n 1, 1) := by decide +kernel
theorem dX7_translate_2 : decode cX7_translate 2 = .ok (.invokevirtual 78, 3) := by decide +kernel
theorem dX7_translate_5 : decode cX7_translate 5 = .ok (.astore_n 2, 1) := by decide +kernel
theorem dX7_translate_6 : decode cX7_translate 6 = .ok (.aload_n 0, 1) := by decide +kernel
theorem dX7_translate_7 : decode cX7_translate 7 = .ok (.aload_n 0, 1) := by decide +kernel
theorem dX7_translate_8 : decode cX7_translate 8 = .ok (.getfield 51, 3) := by decide +kernel
theorem dX7_translate_11 : decode cX7_translate 11 = .ok (.invokevirtual 82, 3) := by decide +kernel
theorem dX7_translate_14 : decode cX7_translate 14 = .ok (.ifCond .eq 13, 3) := by decide +kernel
theorem dX7_translate_17 : decode cX7_translate 17 = .ok (.new 86, 3) := by decide +kernel
theorem dX7_translate_20 : decode cX7_translate 20 = .ok (.dup, 1) := by decide +kernel
theorem dX7_translate_21 : decode cX7_translate 21 = .ok (.ldc 101, 2) := by decide +kernel
theorem dX7_translate_23 : decode cX7_translate 23 = .ok (.invokespecial 90, 3) := by decide +kernel
theorem dX7_translate_26 : decode cX7_translate 26 = .ok (.athrow, 1) := by decide +kernel
theorem dX7_translate_27 : decode cX7_translate 27 = .ok (.aload_n 0, 1) := by decide +kernel
theorem dX7_translate_28 : decode cX7_translate 28 = .ok (.aload_n 2, 1) := by decide +kernel
theorem dX7_translate_29 : decode cX7_translate 29 = .ok (.aload_n 2, 1) := by decide +kernel
theorem dX7_translate_30 : decode cX7_translate 30 = .ok (.getfield 103, 3) := by decide +kernel
theorem dX7_translate_33 : decode cX7_translate 33 = .ok (.invokevirtual 94, 3) := by decide +kernel
theorem dX7_translate_36 : decode cX7_translate 36 = .ok (.aload_n 2, 1) := by decide +kernel
theorem dX7_translate_37 : decode cX7_translate 37 = .ok (.aload_n 0, 1) := by decide +kernel
theorem dX7_translate_38 : decode cX7_translate 38 = .ok (.getfield 51, 3) := by decide +kernel
theorem dX7_translate_41 : decode cX7_translate 41 = .ok (.putfield 103, 3) := by decide +kernel
theorem dX7_translate_44 : decode cX7_translate 44 = .ok (.aload_n 0, 1) := by decide +kernel
theorem dX7_translate_45 : decode cX7_translate 45 = .ok (.lconst 0, 1) := by decide +kernel
theorem dX7_translate_46 : decode cX7_translate 46 = .ok (.putfield 51, 3) := by decide +kernel
theorem dX7_translate_49 : decode cX7_translate 49 = .ok (.aload_n 0, 1) := by decide +kernel
theorem dX7_translate_50 : decode cX7_translate 50 = .ok (.getfield 24, 3) := by decide +kernel
theorem dX7_translate_53 : decode cX7_translate 53 = .ok (.getfield 98, 3) := by decide +kernel
theorem dX7_translate_56 : decode cX7_translate 56 = .ok (.ireturn, 1) := by decide +kernel
theorem dX7_letter_0 : decode cX7_letter 0 = .ok (.aload_n 0, 1) := by decide +kernel
theorem dX7_letter_1 : decode cX7_letter 1 = .ok (.iload_n 1, 1) := by decide +kernel
theorem dX7_letter_2 : decode cX7_letter 2 = .ok (.invokevirtual 78, 3) := by decide +kernel
theorem dX7_letter_5 : decode cX7_letter 5 = .ok (.astore 4, 2) := by decide +kernel
theorem dX7_letter_7 : decode cX7_letter 7 = .ok (.iload_n 2, 1) := by decide +kernel
theorem dX7_letter_8 : decode cX7_letter 8 = .ok (.ifCond .eq 11, 3) := by decide +kernel
theorem dX7_letter_11 : decode cX7_letter 11 = .ok (.aload 4, 2) := by decide +kernel
theorem dX7_letter_13 : decode cX7_letter 13 = .ok (.getfield 103, 3) := by decide +kernel
theorem dX7_letter_16 : decode cX7_letter 16 = .ok (.goto 8, 3) := by decide +kernel
theorem dX7_letter_19 : decode cX7_letter 19 = .ok (.aload 4, 2) := by decide +kernel
theorem dX7_letter_21 : decode cX7_letter 21 = .ok (.getfield 91, 3) := by decide +kernel
theorem dX7_letter_24 : decode cX7_letter 24 = .ok (.lstore 5, 2) := by decide +kernel
theorem dX7_letter_26 : decode cX7_letter 26 = .ok (.iload_n 3, 1) := by decide +kernel
theorem dX7_letter_27 : decode cX7_letter 27 = .ok (.ifCond .lt 12, 3) := by decide +kernel
theorem dX7_letter_30 : decode cX7_letter 30 = .ok (.iload_n 3, 1) := by decide +kernel
theorem dX7_letter_31 : decode cX7_letter 31 = .ok (.lload 5, 2) := by decide +kernel
theorem dX7_letter_33 : decode cX7_letter 33 = .ok (.invokestatic 65, 3) := by decide +kernel
theorem dX7_letter_36 : decode cX7_letter 36 = .ok (.if_icmp .lt 13, 3) := by decide +kernel
theorem dX7_letter_39 : decode cX7_letter 39 = .ok (.new 106, 3) := by decide +kernel
theorem dX7_letter_42 : decode cX7_letter 42 = .ok (.dup, 1) := by decide +kernel
theorem dX7_letter_43 : decode cX7_letter 43 = .ok (.ldc 108, 2) := by decide +kernel
theorem dX7_letter_45 : decode cX7_letter 45 = .ok (.invokespecial 110, 3) := by decide +kernel
theorem dX7_letter_48 : decode cX7_letter 48 = .ok (.athrow, 1) := by decide +kernel
theorem dX7_letter_49 : decode cX7_letter 49 = .ok (.lload 5, 2) := by decide +kernel
theorem dX7_letter_51 : decode cX7_letter 51 = .ok (.iload_n 3, 1) := by decide +kernel
theorem dX7_letter_52 : decode cX7_letter 52 = .ok (.invokestatic 111, 3) := by decide +kernel
theorem dX7_letter_55 : decode cX7_letter 55 = .ok (.ireturn, 1) := by decide +kernel
theorem dX7_street_0 : decode cX7_street 0 = .ok (.iload_n 2, 1) := by decide +kernel
theorem dX7_street_1 : decode cX7_street 1 = .ok (.invokestatic 115, 3) := by decide +kernel
theorem dX7_street_4 : decode cX7_street 4 = .ok (.ifCond .eq 16, 3) := by decide +kernel
theorem dX7_street_7 : decode cX7_street 7 = .ok (.iload_n 1, 1) := by decide +kernel
theorem dX7_street_8 : decode cX7_street 8 = .ok (.bipush 10, 2) := by decide +kernel
theorem dX7_street_10 : decode cX7_street 10 = .ok (.if_icmp .lt 10, 3) := by decide +kernel
theorem dX7_street_13 : decode cX7_street 13 = .ok (.iload_n 1, 1) := by decide +kernel
theorem dX7_street_14 : decode cX7_street 14 = .ok (.sipush 999, 3) := by decide +kernel
theorem dX7_street_17 : decode cX7_street 17 = .ok (.if_icmp .le 13, 3) := by decide +kernel
theorem dX7_street_20 : decode cX7_street 20 = .ok (.new 58, 3) := by decide +kernel
theorem dX7_street_23 : decode cX7_street 23 = .ok (.dup, 1) := by decide +kernel
theorem dX7_street_24 : decode cX7_street 24 = .ok (.ldc 119, 2) := by decide +kernel
theorem dX7_street_26 : decode cX7_street 26 = .ok (.invokespecial 62, 3) := by decide +kernel
theorem dX7_street_29 : decode cX7_street 29 = .ok (.athrow, 1) := by decide +kernel
theorem dX7_street_30 : decode cX7_street 30 = .ok (.aload_n 0, 1) := by decide +kernel
theorem dX7_street_31 : decode cX7_street 31 = .ok (.getfield 51, 3) := by decide +kernel
theorem dX7_street_34 : decode cX7_street 34 = .ok (.lconst 0, 1) := by decide +kernel
theorem dX7_street_35 : decode cX7_street 35 = .ok (.lcmp, 1) := by decide +kernel
theorem dX7_street_36 : decode cX7_street 36 = .ok (.ifCond .eq 14, 3) := by decide +kernel
theorem dX7_street_39 : decode cX7_street 39 = .ok (.aload_n 0, 1) := by decide +kernel
theorem dX7_street_40 : decode cX7_street 40 = .ok (.aload_n 0, 1) := by decide +kernel
theorem dX7_street_41 : decode cX7_street 41 = .ok (.getfield 51, 3) := by decide +kernel
theorem dX7_street_44 : decode cX7_street 44 = .ok (.invokevirtual 82, 3) := by decide +kernel
theorem dX7_street_47 : decode cX7_street 47 = .ok (.ifCond .eq 13, 3) := by decide +kernel
theorem dX7_street_50 : decode cX7_street 50 = .ok (.new 86, 3) := by decide +kernel
theorem dX7_street_53 : decode cX7_street 53 = .ok (.dup, 1) := by decide +kernel
theorem dX7_street_54 : decode cX7_street 54 = .ok (.ldc 88, 2) := by decide +kernel
theorem dX7_street_56 : decode cX7_street 56 = .ok (.invokespecial 90, 3) := by decide +kernel
theorem dX7_street_59 : decode cX7_street 59 = .ok (.athrow, 1) := by decide +kernel
theorem dX7_street_60 : decode cX7_street 60 = .ok (.aload_n 0, 1) := by decide +kernel
theorem dX7_street_61 : decode cX7_street 61 = .ok (.getfield 42, 3) := by decide +kernel
theorem dX7_street_64 : decode cX7_street 64 = .ok (.istore 4, 2) := by decide +kernel
theorem dX7_street_66 : decode cX7_street 66 = .ok (.iload 4, 2) := by decide +kernel
theorem dX7_street_68 : decode cX7_street 68 = .ok (.ifCond .lt 13, 3) := by decide +kernel
theorem dX7_street_71 : decode cX7_street 71 = .ok (.iload 4, 2) := by decide +kernel
theorem dX7_street_73 : decode cX7_street 73 = .ok (.aload_n 0, 1) := by decide +kernel
theorem dX7_street_74 : decode cX7_street 74 = .ok (.getfield 11, 3) := by decide +kernel
theorem dX7_street_77 : decode cX7_street 77 = .ok (.arraylength, 1) := by decide +kernel
theorem dX7_street_78 : decode cX7_street 78 = .ok (.if_icmp .lt 13, 3) := by decide +kernel
theorem dX7_street_81 : decode cX7_street 81 = .ok (.new 69, 3) := by decide +kernel
theorem dX7_street_84 : decode cX7_street 84 = .ok (.dup, 1) := by decide +kernel
theorem dX7_street_85 : decode cX7_street 85 = .ok (.ldc 121, 2) := by decide +kernel
theorem dX7_street_87 : decode cX7_street 87 = .ok (.invokespecial 73, 3) := by decide +kernel
theorem dX7_street_90 : decode cX7_street 90 = .ok (.athrow, 1) := by decide +kernel
theorem dX7_street_91 : decode cX7_street 91 = .ok (.aload_n 0, 1) := by decide +kernel
theorem dX7_street_92 : decode cX7_street 92 = .ok (.getfield 11, 3) := by decide +kernel
theorem dX7_street_95 : decode cX7_street 95 = .ok (.iload 4, 2) := by decide +kernel
theorem dX7_street_97 : decode cX7_street 97 = .ok (.new 9, 3) := by decide +kernel
theorem dX7_street_100 : decode cX7_street 100 = .ok (.dup, 1) := by decide +kernel
theorem dX7_street_101 : decode cX7_street 101 = .ok (.iload 4, 2) := by decide +kernel
theorem dX7_street_103 : decode cX7_street 103 = .ok (.aload_n 0, 1) := by decide +kernel
theorem dX7_street_104 : decode cX7_street 104 = .ok (.getfield 51, 3) := by decide +kernel
theorem dX7_street_107 : decode cX7_street 107 = .ok (.iload_n 1, 1) := by decide +kernel
theorem dX7_street_108 : decode cX7_street 108 = .ok (.iload_n 2, 1) := by decide +kernel
theorem dX7_street_109 : decode cX7_street 109 = .ok (.iload_n 3, 1) := by decide +kernel
theorem dX7_street_110 : decode cX7_street 110 = .ok (.invokespecial 123, 3) := by decide +kernel
theorem dX7_street_113 : decode cX7_street 113 = .ok (.aastore, 1) := by decide +kernel
theorem dX7_street_114 : decode cX7_street 114 = .ok (.aload_n 0, 1) := by decide +kernel
theorem dX7_street_115 : decode cX7_street 115 = .ok (.iload 4, 2) := by decide +kernel
theorem dX7_street_117 : decode cX7_street 117 = .ok (.iconst 1, 1) := by decide +kernel
theorem dX7_street_118 : decode cX7_street 118 = .ok (.iadd, 1) := by decide +kernel
theorem dX7_street_119 : decode cX7_street 119 = .ok (.putfield 42, 3) := by decide +kernel
theorem dX7_street_122 : decode cX7_street 122 = .ok (.aload_n 0, 1) := by decide +kernel
theorem dX7_street_123 : decode cX7_street 123 = .ok (.lconst 0, 1) := by decide +kernel
theorem dX7_street_124 : decode cX7_street 124 = .ok (.putfield 51, 3) := by decide +kernel
theorem dX7_street_127 : decode cX7_street 127 = .ok (.iload 4, 2) := by decide +kernel
theorem dX7_street_129 : decode cX7_street 129 = .ok (.ireturn, 1) := by decide +kernel
theorem dX7_way_0 : decode cX7_way 0 = .ok (.aload_n 0, 1) := by decide +kernel
theorem dX7_way_1 : decode cX7_way 1 = .ok (.iload_n 1, 1) := by decide +kernel
theorem dX7_way_2 : decode cX7_way 2 = .ok (.invokevirtual 78, 3) := by decide +kernel
theorem dX7_way_5 : decode cX7_way 5 = .ok (.astore 4, 2) := by decide +kernel
theorem dX7_way_7 : decode cX7_way 7 = .ok (.iload_n 2, 1) := by decide +kernel
theorem dX7_way_8 : decode cX7_way 8 = .ok (.invokestatic 115, 3) := by decide +kernel
theorem dX7_way_11 : decode cX7_way 11 = .ok (.ifCond .ne 13, 3) := by decide +kernel
theorem dX7_way_14 : decode cX7_way 14 = .ok (.new 58, 3) := by decide +kernel
theorem dX7_way_17 : decode cX7_way 17 = .ok (.dup, 1) := by decide +kernel
theorem dX7_way_18 : decode cX7_way 18 = .ok (.ldc 126, 2) := by decide +kernel
theorem dX7_way_20 : decode cX7_way 20 = .ok (.invokespecial 62, 3) := by decide +kernel
theorem dX7_way_23 : decode cX7_way 23 = .ok (.athrow, 1) := by decide +kernel
theorem dX7_way_24 : decode cX7_way 24 = .ok (.aload 4, 2) := by decide +kernel
theorem dX7_way_26 : decode cX7_way 26 = .ok (.getfield 128, 3) := by decide +kernel
theorem dX7_way_29 : decode cX7_way 29 = .ok (.istore 5, 2) := by decide +kernel
theorem dX7_way_31 : decode cX7_way 31 = .ok (.aload 4, 2) := by decide +kernel
theorem dX7_way_33 : decode cX7_way 33 = .ok (.iload_n 2, 1) := by decide +kernel
theorem dX7_way_34 : decode cX7_way 34 = .ok (.putfield 128, 3) := by decide +kernel
theorem dX7_way_37 : decode cX7_way 37 = .ok (.aload 4, 2) := by decide +kernel
theorem dX7_way_39 : decode cX7_way 39 = .ok (.iload_n 3, 1) := by decide +kernel
theorem dX7_way_40 : decode cX7_way 40 = .ok (.putfield 132, 3) := by decide +kernel
theorem dX7_way_43 : decode cX7_way 43 = .ok (.iload 5, 2) := by decide +kernel
theorem dX7_way_45 : decode cX7_way 45 = .ok (.ireturn, 1) := by decide +kernel
theorem dX7_renumber_0 : decode cX7_renumber 0 = .ok (.aload_n 0, 1) := by decide +kernel
theorem dX7_renumber_1 : decode cX7_renumber 1 = .ok (.iload_n 1, 1) := by decide +kernel
theorem dX7_renumber_2 : decode cX7_renumber 2 = .ok (.invokevirtual 78, 3) := by decide +kernel
theorem dX7_renumber_5 : decode cX7_renumber 5 = .ok (.astore_n 2, 1) := by decide +kernel
theorem dX7_renumber_6 : decode cX7_renumber 6 = .ok (.aload_n 0, 1) := by decide +kernel
theorem dX7_renumber_7 : decode cX7_renumber 7 = .ok (.getfield 31, 3) := by decide +kernel
theorem dX7_renumber_10 : decode cX7_renumber 10 = .ok (.aload_n 2, 1) := by decide +kernel
theorem dX7_renumber_11 : decode cX7_renumber 11 = .ok (.aload_n 2, 1) := by decide +kernel
theorem dX7_renumber_12 : decode cX7_renumber 12 = .ok (.getfield 136, 3) := by decide +kernel
theorem dX7_renumber_15 : decode cX7_renumber 15 = .ok (.iconst 0, 1) := by decide +kernel
theorem dX7_renumber_16 : decode cX7_renumber 16 = .ok (.invokevirtual 139, 3) := by decide +kernel
theorem dX7_renumber_19 : decode cX7_renumber 19 = .ok (.aload_n 0, 1) := by decide +kernel
theorem dX7_renumber_20 : decode cX7_renumber 20 = .ok (.aload_n 2, 1) := by decide +kernel
theorem dX7_renumber_21 : decode cX7_renumber 21 = .ok (.invokevirtual 143, 3) := by decide +kernel
theorem dX7_renumber_24 : decode cX7_renumber 24 = .ok (.aload_n 0, 1) := by decide +kernel
theorem dX7_renumber_25 : decode cX7_renumber 25 = .ok (.aload_n 2, 1) := by decide +kernel
theorem dX7_renumber_26 : decode cX7_renumber 26 = .ok (.iconst 0, 1) := by decide +kernel
theorem dX7_renumber_27 : decode cX7_renumber 27 = .ok (.invokevirtual 147, 3) := by decide +kernel
theorem dX7_renumber_30 : decode cX7_renumber 30 = .ok (.ifCond .ne 13, 3) := by decide +kernel
theorem dX7_renumber_33 : decode cX7_renumber 33 = .ok (.new 86, 3) := by decide +kernel
theorem dX7_renumber_36 : decode cX7_renumber 36 = .ok (.dup, 1) := by decide +kernel
theorem dX7_renumber_37 : decode cX7_renumber 37 = .ok (.ldc 151, 2) := by decide +kernel
theorem dX7_renumber_39 : decode cX7_renumber 39 = .ok (.invokespecial 90, 3) := by decide +kernel
theorem dX7_renumber_42 : decode cX7_renumber 42 = .ok (.athrow, 1) := by decide +kernel
theorem dX7_renumber_43 : decode cX7_renumber 43 = .ok (.aload_n 2, 1) := by decide +kernel
theorem dX7_renumber_44 : decode cX7_renumber 44 = .ok (.aload_n 0, 1) := by decide +kernel
theorem dX7_renumber_45 : decode cX7_renumber 45 = .ok (.getfield 31, 3) := by decide +kernel
theorem dX7_renumber_48 : decode cX7_renumber 48 = .ok (.getfield 153, 3) := by decide +kernel
theorem dX7_renumber_51 : decode cX7_renumber 51 = .ok (.putfield 156, 3) := by decide +kernel
theorem dX7_renumber_54 : decode cX7_renumber 54 = .ok (.aload_n 0, 1) := by decide +kernel
theorem dX7_renumber_55 : decode cX7_renumber 55 = .ok (.aload_n 2, 1) := by decide +kernel
theorem dX7_renumber_56 : decode cX7_renumber 56 = .ok (.invokevirtual 157, 3) := by decide +kernel
theorem dX7_renumber_59 : decode cX7_renumber 59 = .ok (.ireturn, 1) := by decide +kernel
theorem dX7_join_0 : decode cX7_join 0 = .ok (.aload_n 0, 1) := by decide +kernel
theorem dX7_join_1 : decode cX7_join 1 = .ok (.iload_n 1, 1) := by decide +kernel
theorem dX7_join_2 : decode cX7_join 2 = .ok (.invokevirtual 78, 3) := by decide +kernel
theorem dX7_join_5 : decode cX7_join 5 = .ok (.astore_n 3, 1) := by decide +kernel
theorem dX7_join_6 : decode cX7_join 6 = .ok (.aload_n 0, 1) := by decide +kernel
theorem dX7_join_7 : decode cX7_join 7 = .ok (.iload_n 2, 1) := by decide +kernel
theorem dX7_join_8 : decode cX7_join 8 = .ok (.invokevirtual 78, 3) := by decide +kernel
theorem dX7_join_11 : decode cX7_join 11 = .ok (.astore 4, 2) := by decide +kernel
theorem dX7_join_13 : decode cX7_join 13 = .ok (.aload_n 3, 1) := by decide +kernel
theorem dX7_join_14 : decode cX7_join 14 = .ok (.getfield 136, 3) := by decide +kernel
theorem dX7_join_17 : decode cX7_join 17 = .ok (.aload 4, 2) := by decide +kernel
theorem dX7_join_19 : decode cX7_join 19 = .ok (.getfield 136, 3) := by decide +kernel
theorem dX7_join_22 : decode cX7_join 22 = .ok (.iadd, 1) := by decide +kernel
theorem dX7_join_23 : decode cX7_join 23 = .ok (.istore 5, 2) := by decide +kernel
theorem dX7_join_25 : decode cX7_join 25 = .ok (.aload_n 3, 1) := by decide +kernel
theorem dX7_join_26 : decode cX7_join 26 = .ok (.aload 4, 2) := by decide +kernel
theorem dX7_join_28 : decode cX7_join 28 = .ok (.if_acmp .eq 11, 3) := by decide +kernel
theorem dX7_join_31 : decode cX7_join 31 = .ok (.iload 5, 2) := by decide +kernel
theorem dX7_join_33 : decode cX7_join 33 = .ok (.sipush 999, 3) := by decide +kernel
theorem dX7_join_36 : decode cX7_join 36 = .ok (.if_icmp .le 13, 3) := by decide +kernel
theorem dX7_join_39 : decode cX7_join 39 = .ok (.new 58, 3) := by decide +kernel
theorem dX7_join_42 : decode cX7_join 42 = .ok (.dup, 1) := by decide +kernel
theorem dX7_join_43 : decode cX7_join 43 = .ok (.ldc 161, 2) := by decide +kernel
theorem dX7_join_45 : decode cX7_join 45 = .ok (.invokespecial 62, 3) := by decide +kernel
theorem dX7_join_48 : decode cX7_join 48 = .ok (.athrow, 1) := by decide +kernel
theorem dX7_join_49 : decode cX7_join 49 = .ok (.aload_n 0, 1) := by decide +kernel
theorem dX7_join_50 : decode cX7_join 50 = .ok (.aload_n 3, 1) := by decide +kernel
theorem dX7_join_51 : decode cX7_join 51 = .ok (.iload 5, 2) := by decide +kernel
theorem dX7_join_53 : decode cX7_join 53 = .ok (.invokevirtual 163, 3) := by decide +kernel
theorem dX7_join_56 : decode cX7_join 56 = .ok (.aload_n 0, 1) := by decide +kernel
theorem dX7_join_57 : decode cX7_join 57 = .ok (.aload_n 3, 1) := by decide +kernel
theorem dX7_join_58 : decode cX7_join 58 = .ok (.aload 4, 2) := by decide +kernel
theorem dX7_join_60 : decode cX7_join 60 = .ok (.invokevirtual 167, 3) := by decide +kernel
theorem dX7_join_63 : decode cX7_join 63 = .ok (.aload_n 0, 1) := by decide +kernel
theorem dX7_join_64 : decode cX7_join 64 = .ok (.aload 4, 2) := by decide +kernel
theorem dX7_join_66 : decode cX7_join 66 = .ok (.aload_n 3, 1) := by decide +kernel
theorem dX7_join_67 : decode cX7_join 67 = .ok (.getfield 136, 3) := by decide +kernel
theorem dX7_join_70 : decode cX7_join 70 = .ok (.invokevirtual 147, 3) := by decide +kernel
theorem dX7_join_73 : decode cX7_join 73 = .ok (.ifCond .ne 13, 3) := by decide +kernel
theorem dX7_join_76 : decode cX7_join 76 = .ok (.new 86, 3) := by decide +kernel
theorem dX7_join_79 : decode cX7_join 79 = .ok (.dup, 1) := by decide +kernel
theorem dX7_join_80 : decode cX7_join 80 = .ok (.ldc 151, 2) := by decide +kernel
theorem dX7_join_82 : decode cX7_join 82 = .ok (.invokespecial 90, 3) := by decide +kernel
theorem dX7_join_85 : decode cX7_join 85 = .ok (.athrow, 1) := by decide +kernel
theorem dX7_join_86 : decode cX7_join 86 = .ok (.aload_n 0, 1) := by decide +kernel
theorem dX7_join_87 : decode cX7_join 87 = .ok (.aload 4, 2) := by decide +kernel
theorem dX7_join_89 : decode cX7_join 89 = .ok (.invokevirtual 171, 3) := by decide +kernel
theorem dX7_join_92 : decode cX7_join 92 = .ok (.aload_n 0, 1) := by decide +kernel
theorem dX7_join_93 : decode cX7_join 93 = .ok (.aload_n 3, 1) := by decide +kernel
theorem dX7_join_94 : decode cX7_join 94 = .ok (.aload 4, 2) := by decide +kernel
theorem dX7_join_96 : decode cX7_join 96 = .ok (.invokevirtual 173, 3) := by decide +kernel
theorem dX7_join_99 : decode cX7_join 99 = .ok (.aload_n 3, 1) := by decide +kernel
theorem dX7_join_100 : decode cX7_join 100 = .ok (.aload_n 0, 1) := by decide +kernel
theorem dX7_join_101 : decode cX7_join 101 = .ok (.getfield 31, 3) := by decide +kernel
theorem dX7_join_104 : decode cX7_join 104 = .ok (.getfield 153, 3) := by decide +kernel
theorem dX7_join_107 : decode cX7_join 107 = .ok (.putfield 156, 3) := by decide +kernel
theorem dX7_join_110 : decode cX7_join 110 = .ok (.aload_n 3, 1) := by decide +kernel
theorem dX7_join_111 : decode cX7_join 111 = .ok (.iload 5, 2) := by decide +kernel
theorem dX7_join_113 : decode cX7_join 113 = .ok (.putfield 136, 3) := by decide +kernel
theorem dX7_join_116 : decode cX7_join 116 = .ok (.aload 4, 2) := by decide +kernel
theorem dX7_join_118 : decode cX7_join 118 = .ok (.iconst 1, 1) := by decide +kernel
theorem dX7_join_119 : decode cX7_join 119 = .ok (.putfield 176, 3) := by decide +kernel
theorem dX7_join_122 : decode cX7_join 122 = .ok (.iload 5, 2) := by decide +kernel
theorem dX7_join_124 : decode cX7_join 124 = .ok (.ireturn, 1) := by decide +kernel
theorem dX7_streets_0 : decode cX7_streets 0 = .ok (.iconst 0, 1) := by decide +kernel
theorem dX7_streets_1 : decode cX7_streets 1 = .ok (.istore_n 1, 1) := by decide +kernel
theorem dX7_streets_2 : decode cX7_streets 2 = .ok (.aload_n 0, 1) := by decide +kernel
theorem dX7_streets_3 : decode cX7_streets 3 = .ok (.getfield 11, 3) := by decide +kernel
theorem dX7_streets_6 : decode cX7_streets 6 = .ok (.astore_n 2, 1) := by decide +kernel
theorem dX7_streets_7 : decode cX7_streets 7 = .ok (.aload_n 2, 1) := by decide +kernel
theorem dX7_streets_8 : decode cX7_streets 8 = .ok (.arraylength, 1) := by decide +kernel
theorem dX7_streets_9 : decode cX7_streets 9 = .ok (.istore_n 3, 1) := by decide +kernel
theorem dX7_streets_10 : decode cX7_streets 10 = .ok (.iconst 0, 1) := by decide +kernel
theorem dX7_streets_11 : decode cX7_streets 11 = .ok (.istore 4, 2) := by decide +kernel
theorem dX7_streets_13 : decode cX7_streets 13 = .ok (.iload 4, 2) := by decide +kernel
theorem dX7_streets_15 : decode cX7_streets 15 = .ok (.iload_n 3, 1) := by decide +kernel
theorem dX7_streets_16 : decode cX7_streets 16 = .ok (.if_icmp .ge 26, 3) := by decide +kernel
theorem dX7_streets_19 : decode cX7_streets 19 = .ok (.aload_n 2, 1) := by decide +kernel
theorem dX7_streets_20 : decode cX7_streets 20 = .ok (.iload 4, 2) := by decide +kernel
theorem dX7_streets_22 : decode cX7_streets 22 = .ok (.aaload, 1) := by decide +kernel
theorem dX7_streets_23 : decode cX7_streets 23 = .ok (.astore 5, 2) := by decide +kernel
theorem dX7_streets_25 : decode cX7_streets 25 = .ok (.aload 5, 2) := by decide +kernel
theorem dX7_streets_27 : decode cX7_streets 27 = .ok (.invokestatic 179, 3) := by decide +kernel
theorem dX7_streets_30 : decode cX7_streets 30 = .ok (.ifCond .eq 6, 3) := by decide +kernel
theorem dX7_streets_33 : decode cX7_streets 33 = .ok (.iinc 1 1, 3) := by decide +kernel
theorem dX7_streets_36 : decode cX7_streets 36 = .ok (.iinc 4 1, 3) := by decide +kernel
theorem dX7_streets_39 : decode cX7_streets 39 = .ok (.goto (-26), 3) := by decide +kernel
theorem dX7_streets_42 : decode cX7_streets 42 = .ok (.iload_n 1, 1) := by decide +kernel
theorem dX7_streets_43 : decode cX7_streets 43 = .ok (.ireturn, 1) := by decide +kernel
theorem dX7_door_0 : decode cX7_door 0 = .ok (.aload_n 0, 1) := by decide +kernel
theorem dX7_door_1 : decode cX7_door 1 = .ok (.iload_n 1, 1) := by decide +kernel
theorem dX7_door_2 : decode cX7_door 2 = .ok (.invokevirtual 78, 3) := by decide +kernel
theorem dX7_door_5 : decode cX7_door 5 = .ok (.astore 4, 2) := by decide +kernel
theorem dX7_door_7 : decode cX7_door 7 = .ok (.aload 4, 2) := by decide +kernel
theorem dX7_door_9 : decode cX7_door 9 = .ok (.iload_n 2, 1) := by decide +kernel
theorem dX7_door_10 : decode cX7_door 10 = .ok (.iload_n 3, 1) := by decide +kernel
theorem dX7_door_11 : decode cX7_door 11 = .ok (.invokestatic 183, 3) := by decide +kernel
theorem dX7_door_14 : decode cX7_door 14 = .ok (.ifCond .ne 13, 3) := by decide +kernel
theorem dX7_door_17 : decode cX7_door 17 = .ok (.new 58, 3) := by decide +kernel
theorem dX7_door_20 : decode cX7_door 20 = .ok (.dup, 1) := by decide +kernel
theorem dX7_door_21 : decode cX7_door 21 = .ok (.ldc 187, 2) := by decide +kernel
theorem dX7_door_23 : decode cX7_door 23 = .ok (.invokespecial 62, 3) := by decide +kernel
theorem dX7_door_26 : decode cX7_door 26 = .ok (.athrow, 1) := by decide +kernel
theorem dX7_door_27 : decode cX7_door 27 = .ok (.aload_n 0, 1) := by decide +kernel
theorem dX7_door_28 : decode cX7_door 28 = .ok (.getfield 46, 3) := by decide +kernel
theorem dX7_door_31 : decode cX7_door 31 = .ok (.istore 5, 2) := by decide +kernel
theorem dX7_door_33 : decode cX7_door 33 = .ok (.aload_n 0, 1) := by decide +kernel
theorem dX7_door_34 : decode cX7_door 34 = .ok (.iload 5, 2) := by decide +kernel
theorem dX7_door_36 : decode cX7_door 36 = .ok (.aload 4, 2) := by decide +kernel
theorem dX7_door_38 : decode cX7_door 38 = .ok (.iload_n 2, 1) := by decide +kernel
theorem dX7_door_39 : decode cX7_door 39 = .ok (.iload_n 3, 1) := by decide +kernel
theorem dX7_door_40 : decode cX7_door 40 = .ok (.invokevirtual 189, 3) := by decide +kernel
theorem dX7_door_43 : decode cX7_door 43 = .ok (.astore 6, 2) := by decide +kernel
theorem dX7_door_45 : decode cX7_door 45 = .ok (.aload 6, 2) := by decide +kernel
theorem dX7_door_47 : decode cX7_door 47 = .ok (.ifnonnull 13, 3) := by decide +kernel
theorem dX7_door_50 : decode cX7_door 50 = .ok (.new 86, 3) := by decide +kernel
theorem dX7_door_53 : decode cX7_door 53 = .ok (.dup, 1) := by decide +kernel
theorem dX7_door_54 : decode cX7_door 54 = .ok (.ldc 193, 2) := by decide +kernel
theorem dX7_door_56 : decode cX7_door 56 = .ok (.invokespecial 90, 3) := by decide +kernel
theorem dX7_door_59 : decode cX7_door 59 = .ok (.athrow, 1) := by decide +kernel
theorem dX7_door_60 : decode cX7_door 60 = .ok (.iload 5, 2) := by decide +kernel
theorem dX7_door_62 : decode cX7_door 62 = .ok (.ifCond .lt 13, 3) := by decide +kernel
theorem dX7_door_65 : decode cX7_door 65 = .ok (.iload 5, 2) := by decide +kernel
theorem dX7_door_67 : decode cX7_door 67 = .ok (.aload_n 0, 1) := by decide +kernel
theorem dX7_door_68 : decode cX7_door 68 = .ok (.getfield 17, 3) := by decide +kernel
theorem dX7_door_71 : decode cX7_door 71 = .ok (.arraylength, 1) := by decide +kernel
theorem dX7_door_72 : decode cX7_door 72 = .ok (.if_icmp .lt 13, 3) := by decide +kernel
theorem dX7_door_75 : decode cX7_door 75 = .ok (.new 69, 3) := by decide +kernel
theorem dX7_door_78 : decode cX7_door 78 = .ok (.dup, 1) := by decide +kernel
theorem dX7_door_79 : decode cX7_door 79 = .ok (.ldc 195, 2) := by decide +kernel
theorem dX7_door_81 : decode cX7_door 81 = .ok (.invokespecial 73, 3) := by decide +kernel
theorem dX7_door_84 : decode cX7_door 84 = .ok (.athrow, 1) := by decide +kernel
theorem dX7_door_85 : decode cX7_door 85 = .ok (.aload_n 0, 1) := by decide +kernel
theorem dX7_door_86 : decode cX7_door 86 = .ok (.getfield 17, 3) := by decide +kernel
theorem dX7_door_89 : decode cX7_door 89 = .ok (.iload 5, 2) := by decide +kernel
theorem dX7_door_91 : decode cX7_door 91 = .ok (.new 15, 3) := by decide +kernel
theorem dX7_door_94 : decode cX7_door 94 = .ok (.dup, 1) := by decide +kernel
theorem dX7_door_95 : decode cX7_door 95 = .ok (.iload 5, 2) := by decide +kernel
theorem dX7_door_97 : decode cX7_door 97 = .ok (.aload 6, 2) := by decide +kernel
theorem dX7_door_99 : decode cX7_door 99 = .ok (.invokespecial 197, 3) := by decide +kernel
theorem dX7_door_102 : decode cX7_door 102 = .ok (.aastore, 1) := by decide +kernel
theorem dX7_door_103 : decode cX7_door 103 = .ok (.aload_n 0, 1) := by decide +kernel
theorem dX7_door_104 : decode cX7_door 104 = .ok (.iload 5, 2) := by decide +kernel
theorem dX7_door_106 : decode cX7_door 106 = .ok (.iconst 1, 1) := by decide +kernel
theorem dX7_door_107 : decode cX7_door 107 = .ok (.iadd, 1) := by decide +kernel
theorem dX7_door_108 : decode cX7_door 108 = .ok (.putfield 46, 3) := by decide +kernel
theorem dX7_door_111 : decode cX7_door 111 = .ok (.aload 4, 2) := by decide +kernel
theorem dX7_door_113 : decode cX7_door 113 = .ok (.aload 6, 2) := by decide +kernel
theorem dX7_door_115 : decode cX7_door 115 = .ok (.getfield 200, 3) := by decide +kernel
theorem dX7_door_118 : decode cX7_door 118 = .ok (.invokevirtual 205, 3) := by decide +kernel
theorem dX7_door_121 : decode cX7_door 121 = .ok (.iload 5, 2) := by decide +kernel
theorem dX7_door_123 : decode cX7_door 123 = .ok (.ireturn, 1) := by decide +kernel
theorem dX7_corner_0 : decode cX7_corner 0 = .ok (.aload_n 0, 1) := by decide +kernel
theorem dX7_corner_1 : decode cX7_corner 1 = .ok (.iload_n 1, 1) := by decide +kernel
theorem dX7_corner_2 : decode cX7_corner 2 = .ok (.invokevirtual 209, 3) := by decide +kernel
theorem dX7_corner_5 : decode cX7_corner 5 = .ok (.astore 5, 2) := by decide +kernel
theorem dX7_corner_7 : decode cX7_corner 7 = .ok (.aload_n 0, 1) := by decide +kernel
theorem dX7_corner_8 : decode cX7_corner 8 = .ok (.iload_n 2, 1) := by decide +kernel
theorem dX7_corner_9 : decode cX7_corner 9 = .ok (.invokevirtual 78, 3) := by decide +kernel
theorem dX7_corner_12 : decode cX7_corner 12 = .ok (.astore 6, 2) := by decide +kernel
theorem dX7_corner_14 : decode cX7_corner 14 = .ok (.aload 6, 2) := by decide +kernel
theorem dX7_corner_16 : decode cX7_corner 16 = .ok (.iload_n 3, 1) := by decide +kernel
theorem dX7_corner_17 : decode cX7_corner 17 = .ok (.iload 4, 2) := by decide +kernel
theorem dX7_corner_19 : decode cX7_corner 19 = .ok (.invokestatic 183, 3) := by decide +kernel
theorem dX7_corner_22 : decode cX7_corner 22 = .ok (.ifCond .ne 13, 3) := by decide +kernel
theorem dX7_corner_25 : decode cX7_corner 25 = .ok (.new 58, 3) := by decide +kernel
theorem dX7_corner_28 : decode cX7_corner 28 = .ok (.dup, 1) := by decide +kernel
theorem dX7_corner_29 : decode cX7_corner 29 = .ok (.ldc 187, 2) := by decide +kernel
theorem dX7_corner_31 : decode cX7_corner 31 = .ok (.invokespecial 62, 3) := by decide +kernel
theorem dX7_corner_34 : decode cX7_corner 34 = .ok (.athrow, 1) := by decide +kernel
theorem dX7_corner_35 : decode cX7_corner 35 = .ok (.aload 5, 2) := by decide +kernel
theorem dX7_corner_37 : decode cX7_corner 37 = .ok (.getfield 213, 3) := by decide +kernel
theorem dX7_corner_40 : decode cX7_corner 40 = .ok (.ifCond .ne 21, 3) := by decide +kernel
theorem dX7_corner_43 : decode cX7_corner 43 = .ok (.aload 5, 2) := by decide +kernel
theorem dX7_corner_45 : decode cX7_corner 45 = .ok (.getfield 214, 3) := by decide +kernel
theorem dX7_corner_48 : decode cX7_corner 48 = .ok (.ifnonnull 13, 3) := by decide +kernel
theorem dX7_corner_51 : decode cX7_corner 51 = .ok (.aload 5, 2) := by decide +kernel
theorem dX7_corner_53 : decode cX7_corner 53 = .ok (.aload 6, 2) := by decide +kernel
theorem dX7_corner_55 : decode cX7_corner 55 = .ok (.invokevirtual 218, 3) := by decide +kernel
theorem dX7_corner_58 : decode cX7_corner 58 = .ok (.ifnull 13, 3) := by decide +kernel
theorem dX7_corner_61 : decode cX7_corner 61 = .ok (.new 86, 3) := by decide +kernel
theorem dX7_corner_64 : decode cX7_corner 64 = .ok (.dup, 1) := by decide +kernel
theorem dX7_corner_65 : decode cX7_corner 65 = .ok (.ldc 222, 2) := by decide +kernel
theorem dX7_corner_67 : decode cX7_corner 67 = .ok (.invokespecial 90, 3) := by decide +kernel
theorem dX7_corner_70 : decode cX7_corner 70 = .ok (.athrow, 1) := by decide +kernel
theorem dX7_corner_71 : decode cX7_corner 71 = .ok (.aload_n 0, 1) := by decide +kernel
theorem dX7_corner_72 : decode cX7_corner 72 = .ok (.iload_n 1, 1) := by decide +kernel
theorem dX7_corner_73 : decode cX7_corner 73 = .ok (.aload 6, 2) := by decide +kernel
theorem dX7_corner_75 : decode cX7_corner 75 = .ok (.iload_n 3, 1) := by decide +kernel
theorem dX7_corner_76 : decode cX7_corner 76 = .ok (.iload 4, 2) := by decide +kernel
theorem dX7_corner_78 : decode cX7_corner 78 = .ok (.invokevirtual 189, 3) := by decide +kernel
theorem dX7_corner_81 : decode cX7_corner 81 = .ok (.astore 7, 2) := by decide +kernel
theorem dX7_corner_83 : decode cX7_corner 83 = .ok (.aload 7, 2) := by decide +kernel
theorem dX7_corner_85 : decode cX7_corner 85 = .ok (.ifnonnull 13, 3) := by decide +kernel
theorem dX7_corner_88 : decode cX7_corner 88 = .ok (.new 86, 3) := by decide +kernel
theorem dX7_corner_91 : decode cX7_corner 91 = .ok (.dup, 1) := by decide +kernel
theorem dX7_corner_92 : decode cX7_corner 92 = .ok (.ldc 193, 2) := by decide +kernel
theorem dX7_corner_94 : decode cX7_corner 94 = .ok (.invokespecial 90, 3) := by decide +kernel
theorem dX7_corner_97 : decode cX7_corner 97 = .ok (.athrow, 1) := by decide +kernel
theorem dX7_corner_98 : decode cX7_corner 98 = .ok (.aload 5, 2) := by decide +kernel
theorem dX7_corner_100 : decode cX7_corner 100 = .ok (.aload 7, 2) := by decide +kernel
theorem dX7_corner_102 : decode cX7_corner 102 = .ok (.putfield 214, 3) := by decide +kernel
theorem dX7_corner_105 : decode cX7_corner 105 = .ok (.aload 6, 2) := by decide +kernel
theorem dX7_corner_107 : decode cX7_corner 107 = .ok (.aload 7, 2) := by decide +kernel
theorem dX7_corner_109 : decode cX7_corner 109 = .ok (.getfield 200, 3) := by decide +kernel
theorem dX7_corner_112 : decode cX7_corner 112 = .ok (.invokevirtual 205, 3) := by decide +kernel
theorem dX7_corner_115 : decode cX7_corner 115 = .ok (.aload 7, 2) := by decide +kernel
theorem dX7_corner_117 : decode cX7_corner 117 = .ok (.getfield 200, 3) := by decide +kernel
theorem dX7_corner_120 : decode cX7_corner 120 = .ok (.ireturn, 1) := by decide +kernel
theorem dX7_merge_0 : decode cX7_merge 0 = .ok (.aload_n 0, 1) := by decide +kernel
theorem dX7_merge_1 : decode cX7_merge 1 = .ok (.iload_n 1, 1) := by decide +kernel
theorem dX7_merge_2 : decode cX7_merge 2 = .ok (.invokevirtual 209, 3) := by decide +kernel
theorem dX7_merge_5 : decode cX7_merge 5 = .ok (.astore_n 3, 1) := by decide +kernel
theorem dX7_merge_6 : decode cX7_merge 6 = .ok (.aload_n 0, 1) := by decide +kernel
theorem dX7_merge_7 : decode cX7_merge 7 = .ok (.iload_n 2, 1) := by decide +kernel
theorem dX7_merge_8 : decode cX7_merge 8 = .ok (.invokevirtual 209, 3) := by decide +kernel
theorem dX7_merge_11 : decode cX7_merge 11 = .ok (.astore 4, 2) := by decide +kernel
theorem dX7_merge_13 : decode cX7_merge 13 = .ok (.aload_n 3, 1) := by decide +kernel
theorem dX7_merge_14 : decode cX7_merge 14 = .ok (.aload 4, 2) := by decide +kernel
theorem dX7_merge_16 : decode cX7_merge 16 = .ok (.if_acmp .ne 13, 3) := by decide +kernel
theorem dX7_merge_19 : decode cX7_merge 19 = .ok (.new 58, 3) := by decide +kernel
theorem dX7_merge_22 : decode cX7_merge 22 = .ok (.dup, 1) := by decide +kernel
theorem dX7_merge_23 : decode cX7_merge 23 = .ok (.ldc 224, 2) := by decide +kernel
theorem dX7_merge_25 : decode cX7_merge 25 = .ok (.invokespecial 62, 3) := by decide +kernel
theorem dX7_merge_28 : decode cX7_merge 28 = .ok (.athrow, 1) := by decide +kernel
theorem dX7_merge_29 : decode cX7_merge 29 = .ok (.aload_n 3, 1) := by decide +kernel
theorem dX7_merge_30 : decode cX7_merge 30 = .ok (.getfield 213, 3) := by decide +kernel
theorem dX7_merge_33 : decode cX7_merge 33 = .ok (.ifCond .ne 11, 3) := by decide +kernel
theorem dX7_merge_36 : decode cX7_merge 36 = .ok (.aload 4, 2) := by decide +kernel
theorem dX7_merge_38 : decode cX7_merge 38 = .ok (.getfield 213, 3) := by decide +kernel
theorem dX7_merge_41 : decode cX7_merge 41 = .ok (.ifCond .eq 13, 3) := by decide +kernel
theorem dX7_merge_44 : decode cX7_merge 44 = .ok (.new 86, 3) := by decide +kernel
theorem dX7_merge_47 : decode cX7_merge 47 = .ok (.dup, 1) := by decide +kernel
theorem dX7_merge_48 : decode cX7_merge 48 = .ok (.ldc 226, 2) := by decide +kernel
theorem dX7_merge_50 : decode cX7_merge 50 = .ok (.invokespecial 90, 3) := by decide +kernel
theorem dX7_merge_53 : decode cX7_merge 53 = .ok (.athrow, 1) := by decide +kernel
theorem dX7_merge_54 : decode cX7_merge 54 = .ok (.aload_n 0, 1) := by decide +kernel
theorem dX7_merge_55 : decode cX7_merge 55 = .ok (.aload_n 3, 1) := by decide +kernel
theorem dX7_merge_56 : decode cX7_merge 56 = .ok (.invokevirtual 228, 3) := by decide +kernel
theorem dX7_merge_59 : decode cX7_merge 59 = .ok (.aload_n 3, 1) := by decide +kernel
theorem dX7_merge_60 : decode cX7_merge 60 = .ok (.aload 4, 2) := by decide +kernel
theorem dX7_merge_62 : decode cX7_merge 62 = .ok (.putfield 232, 3) := by decide +kernel
theorem dX7_merge_65 : decode cX7_merge 65 = .ok (.aload_n 0, 1) := by decide +kernel
theorem dX7_merge_66 : decode cX7_merge 66 = .ok (.aload 4, 2) := by decide +kernel
theorem dX7_merge_68 : decode cX7_merge 68 = .ok (.invokevirtual 236, 3) := by decide +kernel
theorem dX7_merge_71 : decode cX7_merge 71 = .ok (.ireturn, 1) := by decide +kernel
theorem dX7_remove_0 : decode cX7_remove 0 = .ok (.aload_n 0, 1) := by decide +kernel
theorem dX7_remove_1 : decode cX7_remove 1 = .ok (.iload_n 1, 1) := by decide +kernel
theorem dX7_remove_2 : decode cX7_remove 2 = .ok (.invokevirtual 209, 3) := by decide +kernel
theorem dX7_remove_5 : decode cX7_remove 5 = .ok (.astore_n 2, 1) := by decide +kernel
theorem dX7_remove_6 : decode cX7_remove 6 = .ok (.aload_n 2, 1) := by decide +kernel
theorem dX7_remove_7 : decode cX7_remove 7 = .ok (.getfield 213, 3) := by decide +kernel
theorem dX7_remove_10 : decode cX7_remove 10 = .ok (.ifCond .eq 13, 3) := by decide +kernel
theorem dX7_remove_13 : decode cX7_remove 13 = .ok (.new 86, 3) := by decide +kernel
theorem dX7_remove_16 : decode cX7_remove 16 = .ok (.dup, 1) := by decide +kernel
theorem dX7_remove_17 : decode cX7_remove 17 = .ok (.ldc 240, 2) := by decide +kernel
theorem dX7_remove_19 : decode cX7_remove 19 = .ok (.invokespecial 90, 3) := by decide +kernel
theorem dX7_remove_22 : decode cX7_remove 22 = .ok (.athrow, 1) := by decide +kernel
theorem dX7_remove_23 : decode cX7_remove 23 = .ok (.aload_n 0, 1) := by decide +kernel
theorem dX7_remove_24 : decode cX7_remove 24 = .ok (.aload_n 2, 1) := by decide +kernel
theorem dX7_remove_25 : decode cX7_remove 25 = .ok (.invokevirtual 228, 3) := by decide +kernel
theorem dX7_remove_28 : decode cX7_remove 28 = .ok (.aload_n 0, 1) := by decide +kernel
theorem dX7_remove_29 : decode cX7_remove 29 = .ok (.getfield 24, 3) := by decide +kernel
theorem dX7_remove_32 : decode cX7_remove 32 = .ok (.getfield 98, 3) := by decide +kernel
theorem dX7_remove_35 : decode cX7_remove 35 = .ok (.ireturn, 1) := by decide +kernel
theorem dX7_address_0 : decode cX7_address 0 = .ok (.aload_n 0, 1) := by decide +kernel
theorem dX7_address_1 : decode cX7_address 1 = .ok (.iload_n 1, 1) := by decide +kernel
theorem dX7_address_2 : decode cX7_address 2 = .ok (.invokevirtual 209, 3) := by decide +kernel
theorem dX7_address_5 : decode cX7_address 5 = .ok (.astore_n 3, 1) := by decide +kernel
theorem dX7_address_6 : decode cX7_address 6 = .ok (.iload_n 2, 1) := by decide +kernel
theorem dX7_address_7 : decode cX7_address 7 = .ok (.ifCond .eq 10, 3) := by decide +kernel
theorem dX7_address_10 : decode cX7_address 10 = .ok (.aload_n 3, 1) := by decide +kernel
theorem dX7_address_11 : decode cX7_address 11 = .ok (.getfield 214, 3) := by decide +kernel
theorem dX7_address_14 : decode cX7_address 14 = .ok (.goto 7, 3) := by decide +kernel
theorem dX7_address_17 : decode cX7_address 17 = .ok (.aload_n 3, 1) := by decide +kernel
theorem dX7_address_18 : decode cX7_address 18 = .ok (.getfield 242, 3) := by decide +kernel
theorem dX7_address_21 : decode cX7_address 21 = .ok (.astore 4, 2) := by decide +kernel
theorem dX7_address_23 : decode cX7_address 23 = .ok (.aload 4, 2) := by decide +kernel
theorem dX7_address_25 : decode cX7_address 25 = .ok (.ifnonnull 13, 3) := by decide +kernel
theorem dX7_address_28 : decode cX7_address 28 = .ok (.new 106, 3) := by decide +kernel
theorem dX7_address_31 : decode cX7_address 31 = .ok (.dup, 1) := by decide +kernel
theorem dX7_address_32 : decode cX7_address 32 = .ok (.ldc 245, 2) := by decide +kernel
theorem dX7_address_34 : decode cX7_address 34 = .ok (.invokespecial 110, 3) := by decide +kernel
theorem dX7_address_37 : decode cX7_address 37 = .ok (.athrow, 1) := by decide +kernel
theorem dX7_address_38 : decode cX7_address 38 = .ok (.aload 4, 2) := by decide +kernel
theorem dX7_address_40 : decode cX7_address 40 = .ok (.getfield 200, 3) := by decide +kernel
theorem dX7_address_43 : decode cX7_address 43 = .ok (.ireturn, 1) := by decide +kernel
theorem dX7_streetOf_0 : decode cX7_streetOf 0 = .ok (.aload_n 0, 1) := by decide +kernel
theorem dX7_streetOf_1 : decode cX7_streetOf 1 = .ok (.iload_n 1, 1) := by decide +kernel
theorem dX7_streetOf_2 : decode cX7_streetOf 2 = .ok (.invokevirtual 209, 3) := by decide +kernel
theorem dX7_streetOf_5 : decode cX7_streetOf 5 = .ok (.astore_n 3, 1) := by decide +kernel
theorem dX7_streetOf_6 : decode cX7_streetOf 6 = .ok (.iload_n 2, 1) := by decide +kernel
theorem dX7_streetOf_7 : decode cX7_streetOf 7 = .ok (.ifCond .eq 10, 3) := by decide +kernel
theorem dX7_streetOf_10 : decode cX7_streetOf 10 = .ok (.aload_n 3, 1) := by decide +kernel
theorem dX7_streetOf_11 : decode cX7_streetOf 11 = .ok (.getfield 214, 3) := by decide +kernel
theorem dX7_streetOf_14 : decode cX7_streetOf 14 = .ok (.goto 7, 3) := by decide +kernel
theorem dX7_streetOf_17 : decode cX7_streetOf 17 = .ok (.aload_n 3, 1) := by decide +kernel
theorem dX7_streetOf_18 : decode cX7_streetOf 18 = .ok (.getfield 242, 3) := by decide +kernel
theorem dX7_streetOf_21 : decode cX7_streetOf 21 = .ok (.astore 4, 2) := by decide +kernel
theorem dX7_streetOf_23 : decode cX7_streetOf 23 = .ok (.aload 4, 2) := by decide +kernel
theorem dX7_streetOf_25 : decode cX7_streetOf 25 = .ok (.ifnull 11, 3) := by decide +kernel
theorem dX7_streetOf_28 : decode cX7_streetOf 28 = .ok (.aload 4, 2) := by decide +kernel
theorem dX7_streetOf_30 : decode cX7_streetOf 30 = .ok (.getfield 247, 3) := by decide +kernel
theorem dX7_streetOf_33 : decode cX7_streetOf 33 = .ok (.ifnonnull 13, 3) := by decide +kernel
theorem dX7_streetOf_36 : decode cX7_streetOf 36 = .ok (.new 106, 3) := by decide +kernel
theorem dX7_streetOf_39 : decode cX7_streetOf 39 = .ok (.dup, 1) := by decide +kernel
theorem dX7_streetOf_40 : decode cX7_streetOf 40 = .ok (.ldc 251, 2) := by decide +kernel
theorem dX7_streetOf_42 : decode cX7_streetOf 42 = .ok (.invokespecial 110, 3) := by decide +kernel
theorem dX7_streetOf_45 : decode cX7_streetOf 45 = .ok (.athrow, 1) := by decide +kernel
theorem dX7_streetOf_46 : decode cX7_streetOf 46 = .ok (.aload 4, 2) := by decide +kernel
theorem dX7_streetOf_48 : decode cX7_streetOf 48 = .ok (.getfield 247, 3) := by decide +kernel
theorem dX7_streetOf_51 : decode cX7_streetOf 51 = .ok (.getfield 253, 3) := by decide +kernel
theorem dX7_streetOf_54 : decode cX7_streetOf 54 = .ok (.ireturn, 1) := by decide +kernel
theorem dX7_isGone_0 : decode cX7_isGone 0 = .ok (.aload_n 0, 1) := by decide +kernel
theorem dX7_isGone_1 : decode cX7_isGone 1 = .ok (.iload_n 1, 1) := by decide +kernel
theorem dX7_isGone_2 : decode cX7_isGone 2 = .ok (.invokevirtual 209, 3) := by decide +kernel
theorem dX7_isGone_5 : decode cX7_isGone 5 = .ok (.getfield 213, 3) := by decide +kernel
theorem dX7_isGone_8 : decode cX7_isGone 8 = .ok (.ireturn, 1) := by decide +kernel
theorem dX7_doors_0 : decode cX7_doors 0 = .ok (.aload_n 0, 1) := by decide +kernel
theorem dX7_doors_1 : decode cX7_doors 1 = .ok (.aload_n 0, 1) := by decide +kernel
theorem dX7_doors_2 : decode cX7_doors 2 = .ok (.iload_n 1, 1) := by decide +kernel
theorem dX7_doors_3 : decode cX7_doors 3 = .ok (.invokevirtual 78, 3) := by decide +kernel
theorem dX7_doors_6 : decode cX7_doors 6 = .ok (.invokevirtual 256, 3) := by decide +kernel
theorem dX7_doors_9 : decode cX7_doors 9 = .ok (.ireturn, 1) := by decide +kernel
theorem dX7_day_0 : decode cX7_day 0 = .ok (.iload_n 1, 1) := by decide +kernel
theorem dX7_day_1 : decode cX7_day 1 = .ok (.iconst 1, 1) := by decide +kernel
theorem dX7_day_2 : decode cX7_day 2 = .ok (.if_icmp .lt 10, 3) := by decide +kernel
theorem dX7_day_5 : decode cX7_day 5 = .ok (.iload_n 1, 1) := by decide +kernel
theorem dX7_day_6 : decode cX7_day 6 = .ok (.sipush 9999, 3) := by decide +kernel
theorem dX7_day_9 : decode cX7_day 9 = .ok (.if_icmp .le 14, 3) := by decide +kernel
theorem dX7_day_12 : decode cX7_day 12 = .ok (.new 58, 3) := by decide +kernel
theorem dX7_day_15 : decode cX7_day 15 = .ok (.dup, 1) := by decide +kernel
theorem dX7_day_16 : decode cX7_day 16 = .ok (.ldc_w 259, 3) := by decide +kernel
theorem dX7_day_19 : decode cX7_day 19 = .ok (.invokespecial 62, 3) := by decide +kernel
theorem dX7_day_22 : decode cX7_day 22 = .ok (.athrow, 1) := by decide +kernel
theorem dX7_day_23 : decode cX7_day 23 = .ok (.aload_n 0, 1) := by decide +kernel
theorem dX7_day_24 : decode cX7_day 24 = .ok (.aload_n 0, 1) := by decide +kernel
theorem dX7_day_25 : decode cX7_day 25 = .ok (.getfield 55, 3) := by decide +kernel
theorem dX7_day_28 : decode cX7_day 28 = .ok (.iload_n 1, 1) := by decide +kernel
theorem dX7_day_29 : decode cX7_day 29 = .ok (.iadd, 1) := by decide +kernel
theorem dX7_day_30 : decode cX7_day 30 = .ok (.putfield 55, 3) := by decide +kernel
theorem dX7_day_33 : decode cX7_day 33 = .ok (.aload_n 0, 1) := by decide +kernel
theorem dX7_day_34 : decode cX7_day 34 = .ok (.getfield 55, 3) := by decide +kernel
theorem dX7_day_37 : decode cX7_day 37 = .ok (.ireturn, 1) := by decide +kernel
theorem dX7_find_0 : decode cX7_find 0 = .ok (.aload_n 0, 1) := by decide +kernel
theorem dX7_find_1 : decode cX7_find 1 = .ok (.aload_n 0, 1) := by decide +kernel
theorem dX7_find_2 : decode cX7_find 2 = .ok (.getfield 51, 3) := by decide +kernel
theorem dX7_find_5 : decode cX7_find 5 = .ok (.iload_n 1, 1) := by decide +kernel
theorem dX7_find_6 : decode cX7_find 6 = .ok (.invokevirtual 261, 3) := by decide +kernel
theorem dX7_find_9 : decode cX7_find 9 = .ok (.astore_n 2, 1) := by decide +kernel
theorem dX7_find_10 : decode cX7_find 10 = .ok (.aload_n 2, 1) := by decide +kernel
theorem dX7_find_11 : decode cX7_find 11 = .ok (.ifnonnull 14, 3) := by decide +kernel
theorem dX7_find_14 : decode cX7_find 14 = .ok (.new 106, 3) := by decide +kernel
theorem dX7_find_17 : decode cX7_find 17 = .ok (.dup, 1) := by decide +kernel
theorem dX7_find_18 : decode cX7_find 18 = .ok (.ldc_w 265, 3) := by decide +kernel
theorem dX7_find_21 : decode cX7_find 21 = .ok (.invokespecial 110, 3) := by decide +kernel
theorem dX7_find_24 : decode cX7_find 24 = .ok (.athrow, 1) := by decide +kernel
theorem dX7_find_25 : decode cX7_find 25 = .ok (.aload_n 2, 1) := by decide +kernel
theorem dX7_find_26 : decode cX7_find 26 = .ok (.getfield 267, 3) := by decide +kernel
theorem dX7_find_29 : decode cX7_find 29 = .ok (.ireturn, 1) := by decide +kernel
theorem dX7_send_0 : decode cX7_send 0 = .ok (.aload_n 0, 1) := by decide +kernel
theorem dX7_send_1 : decode cX7_send 1 = .ok (.aload_n 0, 1) := by decide +kernel
theorem dX7_send_2 : decode cX7_send 2 = .ok (.getfield 51, 3) := by decide +kernel
theorem dX7_send_5 : decode cX7_send 5 = .ok (.iload_n 1, 1) := by decide +kernel
theorem dX7_send_6 : decode cX7_send 6 = .ok (.invokevirtual 261, 3) := by decide +kernel
theorem dX7_send_9 : decode cX7_send 9 = .ok (.astore_n 2, 1) := by decide +kernel
theorem dX7_send_10 : decode cX7_send 10 = .ok (.aload_n 2, 1) := by decide +kernel
theorem dX7_send_11 : decode cX7_send 11 = .ok (.ifnull 8, 3) := by decide +kernel
theorem dX7_send_14 : decode cX7_send 14 = .ok (.aload_n 2, 1) := by decide +kernel
theorem dX7_send_15 : decode cX7_send 15 = .ok (.getfield 267, 3) := by decide +kernel
theorem dX7_send_18 : decode cX7_send 18 = .ok (.ireturn, 1) := by decide +kernel
theorem dX7_send_19 : decode cX7_send 19 = .ok (.aload_n 0, 1) := by decide +kernel
theorem dX7_send_20 : decode cX7_send 20 = .ok (.getfield 24, 3) := by decide +kernel
theorem dX7_send_23 : decode cX7_send 23 = .ok (.aload_n 0, 1) := by decide +kernel
theorem dX7_send_24 : decode cX7_send 24 = .ok (.getfield 51, 3) := by decide +kernel
theorem dX7_send_27 : decode cX7_send 27 = .ok (.iload_n 1, 1) := by decide +kernel
theorem dX7_send_28 : decode cX7_send 28 = .ok (.invokevirtual 268, 3) := by decide +kernel
theorem dX7_send_31 : decode cX7_send 31 = .ok (.istore_n 3, 1) := by decide +kernel
theorem dX7_send_32 : decode cX7_send 32 = .ok (.iload_n 3, 1) := by decide +kernel
theorem dX7_send_33 : decode cX7_send 33 = .ok (.ifCond .ge 14, 3) := by decide +kernel
theorem dX7_send_36 : decode cX7_send 36 = .ok (.new 106, 3) := by decide +kernel
theorem dX7_send_39 : decode cX7_send 39 = .ok (.dup, 1) := by decide +kernel
theorem dX7_send_40 : decode cX7_send 40 = .ok (.ldc_w 272, 3) := by decide +kernel
theorem dX7_send_43 : decode cX7_send 43 = .ok (.invokespecial 110, 3) := by decide +kernel
theorem dX7_send_46 : decode cX7_send 46 = .ok (.athrow, 1) := by decide +kernel
theorem dX7_send_47 : decode cX7_send 47 = .ok (.aload_n 0, 1) := by decide +kernel
theorem dX7_send_48 : decode cX7_send 48 = .ok (.aload_n 0, 1) := by decide +kernel
theorem dX7_send_49 : decode cX7_send 49 = .ok (.getfield 24, 3) := by decide +kernel
theorem dX7_send_52 : decode cX7_send 52 = .ok (.iload_n 3, 1) := by decide +kernel
theorem dX7_send_53 : decode cX7_send 53 = .ok (.invokevirtual 274, 3) := by decide +kernel
theorem dX7_send_56 : decode cX7_send 56 = .ok (.invokevirtual 278, 3) := by decide +kernel
theorem dX7_send_59 : decode cX7_send 59 = .ok (.invokestatic 281, 3) := by decide +kernel
theorem dX7_send_62 : decode cX7_send 62 = .ok (.astore 4, 2) := by decide +kernel
theorem dX7_send_64 : decode cX7_send 64 = .ok (.aload 4, 2) := by decide +kernel
theorem dX7_send_66 : decode cX7_send 66 = .ok (.ifnonnull 14, 3) := by decide +kernel
theorem dX7_send_69 : decode cX7_send 69 = .ok (.new 86, 3) := by decide +kernel
theorem dX7_send_72 : decode cX7_send 72 = .ok (.dup, 1) := by decide +kernel
theorem dX7_send_73 : decode cX7_send 73 = .ok (.ldc_w 285, 3) := by decide +kernel
theorem dX7_send_76 : decode cX7_send 76 = .ok (.invokespecial 90, 3) := by decide +kernel
theorem dX7_send_79 : decode cX7_send 79 = .ok (.athrow, 1) := by decide +kernel
theorem dX7_send_80 : decode cX7_send 80 = .ok (.aload 4, 2) := by decide +kernel
theorem dX7_send_82 : decode cX7_send 82 = .ok (.getfield 267, 3) := by decide +kernel
theorem dX7_send_85 : decode cX7_send 85 = .ok (.ireturn, 1) := by decide +kernel
theorem dX7_until_0 : decode cX7_until 0 = .ok (.aload_n 0, 1) := by decide +kernel
theorem dX7_until_1 : decode cX7_until 1 = .ok (.getfield 24, 3) := by decide +kernel
theorem dX7_until_4 : decode cX7_until 4 = .ok (.aload_n 0, 1) := by decide +kernel
theorem dX7_until_5 : decode cX7_until 5 = .ok (.getfield 51, 3) := by decide +kernel
theorem dX7_until_8 : decode cX7_until 8 = .ok (.iload_n 1, 1) := by decide +kernel
theorem dX7_until_9 : decode cX7_until 9 = .ok (.invokevirtual 268, 3) := by decide +kernel
theorem dX7_until_12 : decode cX7_until 12 = .ok (.istore_n 2, 1) := by decide +kernel
theorem dX7_until_13 : decode cX7_until 13 = .ok (.iload_n 2, 1) := by decide +kernel
theorem dX7_until_14 : decode cX7_until 14 = .ok (.ifCond .ge 14, 3) := by decide +kernel
theorem dX7_until_17 : decode cX7_until 17 = .ok (.new 106, 3) := by decide +kernel
theorem dX7_until_20 : decode cX7_until 20 = .ok (.dup, 1) := by decide +kernel
theorem dX7_until_21 : decode cX7_until 21 = .ok (.ldc_w 287, 3) := by decide +kernel
theorem dX7_until_24 : decode cX7_until 24 = .ok (.invokespecial 110, 3) := by decide +kernel
theorem dX7_until_27 : decode cX7_until 27 = .ok (.athrow, 1) := by decide +kernel
theorem dX7_until_28 : decode cX7_until 28 = .ok (.aload_n 0, 1) := by decide +kernel
theorem dX7_until_29 : decode cX7_until 29 = .ok (.getfield 24, 3) := by decide +kernel
theorem dX7_until_32 : decode cX7_until 32 = .ok (.iload_n 2, 1) := by decide +kernel
theorem dX7_until_33 : decode cX7_until 33 = .ok (.invokevirtual 289, 3) := by decide +kernel
theorem dX7_until_36 : decode cX7_until 36 = .ok (.ireturn, 1) := by decide +kernel
theorem dX7_olds_0 : decode cX7_olds 0 = .ok (.aload_n 0, 1) := by decide +kernel
theorem dX7_olds_1 : decode cX7_olds 1 = .ok (.getfield 24, 3) := by decide +kernel
theorem dX7_olds_4 : decode cX7_olds 4 = .ok (.getfield 98, 3) := by decide +kernel
theorem dX7_olds_7 : decode cX7_olds 7 = .ok (.ireturn, 1) := by decide +kernel
theorem dX7_walk_0 : decode cX7_walk 0 = .ok (.aload_n 0, 1) := by decide +kernel
theorem dX7_walk_1 : decode cX7_walk 1 = .ok (.aload_n 0, 1) := by decide +kernel
theorem dX7_walk_2 : decode cX7_walk 2 = .ok (.iload_n 1, 1) := by decide +kernel
theorem dX7_walk_3 : decode cX7_walk 3 = .ok (.invokevirtual 78, 3) := by decide +kernel
theorem dX7_walk_6 : decode cX7_walk 6 = .ok (.invokevirtual 292, 3) := by decide +kernel
theorem dX7_walk_9 : decode cX7_walk 9 = .ok (.iload_n 2, 1) := by decide +kernel
theorem dX7_walk_10 : decode cX7_walk 10 = .ok (.ifCond .lt 14, 3) := by decide +kernel
theorem dX7_walk_13 : decode cX7_walk 13 = .ok (.iload_n 2, 1) := by decide +kernel
theorem dX7_walk_14 : decode cX7_walk 14 = .ok (.aload_n 0, 1) := by decide +kernel
theorem dX7_walk_15 : decode cX7_walk 15 = .ok (.getfield 38, 3) := by decide +kernel
theorem dX7_walk_18 : decode cX7_walk 18 = .ok (.getfield 295, 3) := by decide +kernel
theorem dX7_walk_21 : decode cX7_walk 21 = .ok (.if_icmp .lt 14, 3) := by decide +kernel
theorem dX7_walk_24 : decode cX7_walk 24 = .ok (.new 106, 3) := by decide +kernel
theorem dX7_walk_27 : decode cX7_walk 27 = .ok (.dup, 1) := by decide +kernel
theorem dX7_walk_28 : decode cX7_walk 28 = .ok (.ldc_w 296, 3) := by decide +kernel
theorem dX7_walk_31 : decode cX7_walk 31 = .ok (.invokespecial 110, 3) := by decide +kernel
theorem dX7_walk_34 : decode cX7_walk 34 = .ok (.athrow, 1) := by decide +kernel
theorem dX7_walk_35 : decode cX7_walk 35 = .ok (.aload_n 0, 1) := by decide +kernel
theorem dX7_walk_36 : decode cX7_walk 36 = .ok (.getfield 38, 3) := by decide +kernel
theorem dX7_walk_39 : decode cX7_walk 39 = .ok (.iload_n 2, 1) := by decide +kernel
theorem dX7_walk_40 : decode cX7_walk 40 = .ok (.invokevirtual 298, 3) := by decide +kernel
theorem dX7_walk_43 : decode cX7_walk 43 = .ok (.ireturn, 1) := by decide +kernel
theorem dX7_steps_0 : decode cX7_steps 0 = .ok (.aload_n 0, 1) := by decide +kernel
theorem dX7_steps_1 : decode cX7_steps 1 = .ok (.iload_n 1, 1) := by decide +kernel
theorem dX7_steps_2 : decode cX7_steps 2 = .ok (.invokevirtual 78, 3) := by decide +kernel
theorem dX7_steps_5 : decode cX7_steps 5 = .ok (.astore_n 2, 1) := by decide +kernel
theorem dX7_steps_6 : decode cX7_steps 6 = .ok (.aload_n 0, 1) := by decide +kernel
theorem dX7_steps_7 : decode cX7_steps 7 = .ok (.aload_n 2, 1) := by decide +kernel
theorem dX7_steps_8 : decode cX7_steps 8 = .ok (.invokevirtual 292, 3) := by decide +kernel
theorem dX7_steps_11 : decode cX7_steps 11 = .ok (.iconst 0, 1) := by decide +kernel
theorem dX7_steps_12 : decode cX7_steps 12 = .ok (.istore_n 3, 1) := by decide +kernel
theorem dX7_steps_13 : decode cX7_steps 13 = .ok (.aconst_null, 1) := by decide +kernel
theorem dX7_steps_14 : decode cX7_steps 14 = .ok (.astore 4, 2) := by decide +kernel
theorem dX7_steps_16 : decode cX7_steps 16 = .ok (.iconst 0, 1) := by decide +kernel
theorem dX7_steps_17 : decode cX7_steps 17 = .ok (.istore 5, 2) := by decide +kernel
theorem dX7_steps_19 : decode cX7_steps 19 = .ok (.iload 5, 2) := by decide +kernel
theorem dX7_steps_21 : decode cX7_steps 21 = .ok (.aload_n 0, 1) := by decide +kernel
theorem dX7_steps_22 : decode cX7_steps 22 = .ok (.getfield 38, 3) := by decide +kernel
theorem dX7_steps_25 : decode cX7_steps 25 = .ok (.getfield 295, 3) := by decide +kernel
theorem dX7_steps_28 : decode cX7_steps 28 = .ok (.if_icmp .ge 80, 3) := by decide +kernel
theorem dX7_steps_31 : decode cX7_steps 31 = .ok (.aload_n 0, 1) := by decide +kernel
theorem dX7_steps_32 : decode cX7_steps 32 = .ok (.aload_n 0, 1) := by decide +kernel
theorem dX7_steps_33 : decode cX7_steps 33 = .ok (.getfield 38, 3) := by decide +kernel
theorem dX7_steps_36 : decode cX7_steps 36 = .ok (.iload 5, 2) := by decide +kernel
theorem dX7_steps_38 : decode cX7_steps 38 = .ok (.invokevirtual 298, 3) := by decide +kernel
theorem dX7_steps_41 : decode cX7_steps 41 = .ok (.invokevirtual 278, 3) := by decide +kernel
theorem dX7_steps_44 : decode cX7_steps 44 = .ok (.aload_n 2, 1) := by decide +kernel
theorem dX7_steps_45 : decode cX7_steps 45 = .ok (.invokestatic 299, 3) := by decide +kernel
theorem dX7_steps_48 : decode cX7_steps 48 = .ok (.astore 6, 2) := by decide +kernel
theorem dX7_steps_50 : decode cX7_steps 50 = .ok (.aload 4, 2) := by decide +kernel
theorem dX7_steps_52 : decode cX7_steps 52 = .ok (.ifnull 46, 3) := by decide +kernel
theorem dX7_steps_55 : decode cX7_steps 55 = .ok (.aload 6, 2) := by decide +kernel
theorem dX7_steps_57 : decode cX7_steps 57 = .ok (.ifnull 41, 3) := by decide +kernel
theorem dX7_steps_60 : decode cX7_steps 60 = .ok (.iload_n 3, 1) := by decide +kernel
theorem dX7_steps_61 : decode cX7_steps 61 = .ok (.aload 6, 2) := by decide +kernel
theorem dX7_steps_63 : decode cX7_steps 63 = .ok (.getfield 303, 3) := by decide +kernel
theorem dX7_steps_66 : decode cX7_steps 66 = .ok (.aload 4, 2) := by decide +kernel
theorem dX7_steps_68 : decode cX7_steps 68 = .ok (.getfield 303, 3) := by decide +kernel
theorem dX7_steps_71 : decode cX7_steps 71 = .ok (.isub, 1) := by decide +kernel
theorem dX7_steps_72 : decode cX7_steps 72 = .ok (.invokestatic 306, 3) := by decide +kernel
theorem dX7_steps_75 : decode cX7_steps 75 = .ok (.iadd, 1) := by decide +kernel
theorem dX7_steps_76 : decode cX7_steps 76 = .ok (.istore_n 3, 1) := by decide +kernel
theorem dX7_steps_77 : decode cX7_steps 77 = .ok (.iload_n 3, 1) := by decide +kernel
theorem dX7_steps_78 : decode cX7_steps 78 = .ok (.aload 6, 2) := by decide +kernel
theorem dX7_steps_80 : decode cX7_steps 80 = .ok (.getfield 311, 3) := by decide +kernel
theorem dX7_steps_83 : decode cX7_steps 83 = .ok (.aload 4, 2) := by decide +kernel
theorem dX7_steps_85 : decode cX7_steps 85 = .ok (.getfield 311, 3) := by decide +kernel
theorem dX7_steps_88 : decode cX7_steps 88 = .ok (.if_icmp .ne 7, 3) := by decide +kernel
theorem dX7_steps_91 : decode cX7_steps 91 = .ok (.iconst 0, 1) := by decide +kernel
theorem dX7_steps_92 : decode cX7_steps 92 = .ok (.goto 4, 3) := by decide +kernel
theorem dX7_steps_95 : decode cX7_steps 95 = .ok (.iconst 5, 1) := by decide +kernel
theorem dX7_steps_96 : decode cX7_steps 96 = .ok (.iadd, 1) := by decide +kernel
theorem dX7_steps_97 : decode cX7_steps 97 = .ok (.istore_n 3, 1) := by decide +kernel
theorem dX7_steps_98 : decode cX7_steps 98 = .ok (.aload 6, 2) := by decide +kernel
theorem dX7_steps_100 : decode cX7_steps 100 = .ok (.astore 4, 2) := by decide +kernel
theorem dX7_steps_102 : decode cX7_steps 102 = .ok (.iinc 5 1, 3) := by decide +kernel
theorem dX7_steps_105 : decode cX7_steps 105 = .ok (.goto (-86), 3) := by decide +kernel
theorem dX7_steps_108 : decode cX7_steps 108 = .ok (.iload_n 3, 1) := by decide +kernel
theorem dX7_steps_109 : decode cX7_steps 109 = .ok (.ireturn, 1) := by decide +kernel
theorem dX7_clashes_0 : decode cX7_clashes 0 = .ok (.aload_n 0, 1) := by decide +kernel
theorem dX7_clashes_1 : decode cX7_clashes 1 = .ok (.iload_n 1, 1) := by decide +kernel
theorem dX7_clashes_2 : decode cX7_clashes 2 = .ok (.invokevirtual 78, 3) := by decide +kernel
theorem dX7_clashes_5 : decode cX7_clashes 5 = .ok (.astore_n 2, 1) := by decide +kernel
theorem dX7_clashes_6 : decode cX7_clashes 6 = .ok (.aload_n 0, 1) := by decide +kernel
theorem dX7_clashes_7 : decode cX7_clashes 7 = .ok (.aload_n 2, 1) := by decide +kernel
theorem dX7_clashes_8 : decode cX7_clashes 8 = .ok (.aload_n 2, 1) := by decide +kernel
theorem dX7_clashes_9 : decode cX7_clashes 9 = .ok (.getfield 136, 3) := by decide +kernel
theorem dX7_clashes_12 : decode cX7_clashes 12 = .ok (.invokevirtual 163, 3) := by decide +kernel
theorem dX7_clashes_15 : decode cX7_clashes 15 = .ok (.aload_n 0, 1) := by decide +kernel
theorem dX7_clashes_16 : decode cX7_clashes 16 = .ok (.getfield 31, 3) := by decide +kernel
theorem dX7_clashes_19 : decode cX7_clashes 19 = .ok (.invokevirtual 314, 3) := by decide +kernel
theorem dX7_clashes_22 : decode cX7_clashes 22 = .ok (.ireturn, 1) := by decide +kernel
theorem dX7_goneShare_0 : decode cX7_goneShare 0 = .ok (.aload_n 0, 1) := by decide +kernel
theorem dX7_goneShare_1 : decode cX7_goneShare 1 = .ok (.getfield 46, 3) := by decide +kernel
theorem dX7_goneShare_4 : decode cX7_goneShare 4 = .ok (.istore_n 1, 1) := by decide +kernel
theorem dX7_goneShare_5 : decode cX7_goneShare 5 = .ok (.iload_n 1, 1) := by decide +kernel
theorem dX7_goneShare_6 : decode cX7_goneShare 6 = .ok (.ifCond .ne 14, 3) := by decide +kernel
theorem dX7_goneShare_9 : decode cX7_goneShare 9 = .ok (.new 318, 3) := by decide +kernel
theorem dX7_goneShare_12 : decode cX7_goneShare 12 = .ok (.dup, 1) := by decide +kernel
theorem dX7_goneShare_13 : decode cX7_goneShare 13 = .ok (.ldc_w 320, 3) := by decide +kernel
theorem dX7_goneShare_16 : decode cX7_goneShare 16 = .ok (.invokespecial 322, 3) := by decide +kernel
theorem dX7_goneShare_19 : decode cX7_goneShare 19 = .ok (.athrow, 1) := by decide +kernel
theorem dX7_goneShare_20 : decode cX7_goneShare 20 = .ok (.iconst 0, 1) := by decide +kernel
theorem dX7_goneShare_21 : decode cX7_goneShare 21 = .ok (.istore_n 2, 1) := by decide +kernel
theorem dX7_goneShare_22 : decode cX7_goneShare 22 = .ok (.aload_n 0, 1) := by decide +kernel
theorem dX7_goneShare_23 : decode cX7_goneShare 23 = .ok (.getfield 17, 3) := by decide +kernel
theorem dX7_goneShare_26 : decode cX7_goneShare 26 = .ok (.astore_n 3, 1) := by decide +kernel
theorem dX7_goneShare_27 : decode cX7_goneShare 27 = .ok (.aload_n 3, 1) := by decide +kernel
theorem dX7_goneShare_28 : decode cX7_goneShare 28 = .ok (.arraylength, 1) := by decide +kernel
theorem dX7_goneShare_29 : decode cX7_goneShare 29 = .ok (.istore 4, 2) := by decide +kernel
theorem dX7_goneShare_31 : decode cX7_goneShare 31 = .ok (.iconst 0, 1) := by decide +kernel
theorem dX7_goneShare_32 : decode cX7_goneShare 32 = .ok (.istore 5, 2) := by decide +kernel
theorem dX7_goneShare_34 : decode cX7_goneShare 34 = .ok (.iload 5, 2) := by decide +kernel
theorem dX7_goneShare_36 : decode cX7_goneShare 36 = .ok (.iload 4, 2) := by decide +kernel
theorem dX7_goneShare_38 : decode cX7_goneShare 38 = .ok (.if_icmp .ge 31, 3) := by decide +kernel
theorem dX7_goneShare_41 : decode cX7_goneShare 41 = .ok (.aload_n 3, 1) := by decide +kernel
theorem dX7_goneShare_42 : decode cX7_goneShare 42 = .ok (.iload 5, 2) := by decide +kernel
theorem dX7_goneShare_44 : decode cX7_goneShare 44 = .ok (.aaload, 1) := by decide +kernel
theorem dX7_goneShare_45 : decode cX7_goneShare 45 = .ok (.astore 6, 2) := by decide +kernel
theorem dX7_goneShare_47 : decode cX7_goneShare 47 = .ok (.aload 6, 2) := by decide +kernel
theorem dX7_goneShare_49 : decode cX7_goneShare 49 = .ok (.ifnull 14, 3) := by decide +kernel
theorem dX7_goneShare_52 : decode cX7_goneShare 52 = .ok (.aload 6, 2) := by decide +kernel
theorem dX7_goneShare_54 : decode cX7_goneShare 54 = .ok (.getfield 213, 3) := by decide +kernel
theorem dX7_goneShare_57 : decode cX7_goneShare 57 = .ok (.ifCond .eq 6, 3) := by decide +kernel
theorem dX7_goneShare_60 : decode cX7_goneShare 60 = .ok (.iinc 2 1, 3) := by decide +kernel
theorem dX7_goneShare_63 : decode cX7_goneShare 63 = .ok (.iinc 5 1, 3) := by decide +kernel
theorem dX7_goneShare_66 : decode cX7_goneShare 66 = .ok (.goto (-32), 3) := by decide +kernel
theorem dX7_goneShare_69 : decode cX7_goneShare 69 = .ok (.iload_n 2, 1) := by decide +kernel
theorem dX7_goneShare_70 : decode cX7_goneShare 70 = .ok (.i2f, 1) := by decide +kernel
theorem dX7_goneShare_71 : decode cX7_goneShare 71 = .ok (.iload_n 1, 1) := by decide +kernel
theorem dX7_goneShare_72 : decode cX7_goneShare 72 = .ok (.i2f, 1) := by decide +kernel
theorem dX7_goneShare_73 : decode cX7_goneShare 73 = .ok (.fdiv, 1) := by decide +kernel
theorem dX7_goneShare_74 : decode cX7_goneShare 74 = .ok (.freturn, 1) := by decide +kernel
theorem dX7_meanDoors_0 : decode cX7_meanDoors 0 = .ok (.iconst 0, 1) := by decide +kernel
theorem dX7_meanDoors_1 : decode cX7_meanDoors 1 = .ok (.istore_n 1, 1) := by decide +kernel
theorem dX7_meanDoors_2 : decode cX7_meanDoors 2 = .ok (.iconst 0, 1) := by decide +kernel
theorem dX7_meanDoors_3 : decode cX7_meanDoors 3 = .ok (.istore_n 2, 1) := by decide +kernel
theorem dX7_meanDoors_4 : decode cX7_meanDoors 4 = .ok (.aload_n 0, 1) := by decide +kernel
theorem dX7_meanDoors_5 : decode cX7_meanDoors 5 = .ok (.getfield 11, 3) := by decide +kernel
theorem dX7_meanDoors_8 : decode cX7_meanDoors 8 = .ok (.astore_n 3, 1) := by decide +kernel
theorem dX7_meanDoors_9 : decode cX7_meanDoors 9 = .ok (.aload_n 3, 1) := by decide +kernel
theorem dX7_meanDoors_10 : decode cX7_meanDoors 10 = .ok (.arraylength, 1) := by decide +kernel
theorem dX7_meanDoors_11 : decode cX7_meanDoors 11 = .ok (.istore 4, 2) := by decide +kernel
theorem dX7_meanDoors_13 : decode cX7_meanDoors 13 = .ok (.iconst 0, 1) := by decide +kernel
theorem dX7_meanDoors_14 : decode cX7_meanDoors 14 = .ok (.istore 5, 2) := by decide +kernel
theorem dX7_meanDoors_16 : decode cX7_meanDoors 16 = .ok (.iload 5, 2) := by decide +kernel
theorem dX7_meanDoors_18 : decode cX7_meanDoors 18 = .ok (.iload 4, 2) := by decide +kernel
theorem dX7_meanDoors_20 : decode cX7_meanDoors 20 = .ok (.if_icmp .ge 35, 3) := by decide +kernel
theorem dX7_meanDoors_23 : decode cX7_meanDoors 23 = .ok (.aload_n 3, 1) := by decide +kernel
theorem dX7_meanDoors_24 : decode cX7_meanDoors 24 = .ok (.iload 5, 2) := by decide +kernel
theorem dX7_meanDoors_26 : decode cX7_meanDoors 26 = .ok (.aaload, 1) := by decide +kernel
theorem dX7_meanDoors_27 : decode cX7_meanDoors 27 = .ok (.astore 6, 2) := by decide +kernel
theorem dX7_meanDoors_29 : decode cX7_meanDoors 29 = .ok (.aload 6, 2) := by decide +kernel
theorem dX7_meanDoors_31 : decode cX7_meanDoors 31 = .ok (.invokestatic 179, 3) := by decide +kernel
theorem dX7_meanDoors_34 : decode cX7_meanDoors 34 = .ok (.ifCond .eq 15, 3) := by decide +kernel
theorem dX7_meanDoors_37 : decode cX7_meanDoors 37 = .ok (.iinc 1 1, 3) := by decide +kernel
theorem dX7_meanDoors_40 : decode cX7_meanDoors 40 = .ok (.iload_n 2, 1) := by decide +kernel
theorem dX7_meanDoors_41 : decode cX7_meanDoors 41 = .ok (.aload_n 0, 1) := by decide +kernel
theorem dX7_meanDoors_42 : decode cX7_meanDoors 42 = .ok (.aload 6, 2) := by decide +kernel
theorem dX7_meanDoors_44 : decode cX7_meanDoors 44 = .ok (.invokevirtual 256, 3) := by decide +kernel
theorem dX7_meanDoors_47 : decode cX7_meanDoors 47 = .ok (.iadd, 1) := by decide +kernel
theorem dX7_meanDoors_48 : decode cX7_meanDoors 48 = .ok (.istore_n 2, 1) := by decide +kernel
theorem dX7_meanDoors_49 : decode cX7_meanDoors 49 = .ok (.iinc 5 1, 3) := by decide +kernel
theorem dX7_meanDoors_52 : decode cX7_meanDoors 52 = .ok (.goto (-36), 3) := by decide +kernel
theorem dX7_meanDoors_55 : decode cX7_meanDoors 55 = .ok (.iload_n 1, 1) := by decide +kernel
theorem dX7_meanDoors_56 : decode cX7_meanDoors 56 = .ok (.ifCond .ne 14, 3) := by decide +kernel
theorem dX7_meanDoors_59 : decode cX7_meanDoors 59 = .ok (.new 318, 3) := by decide +kernel
theorem dX7_meanDoors_62 : decode cX7_meanDoors 62 = .ok (.dup, 1) := by decide +kernel
theorem dX7_meanDoors_63 : decode cX7_meanDoors 63 = .ok (.ldc_w 323, 3) := by decide +kernel
theorem dX7_meanDoors_66 : decode cX7_meanDoors 66 = .ok (.invokespecial 322, 3) := by decide +kernel
theorem dX7_meanDoors_69 : decode cX7_meanDoors 69 = .ok (.athrow, 1) := by decide +kernel
theorem dX7_meanDoors_70 : decode cX7_meanDoors 70 = .ok (.iload_n 2, 1) := by decide +kernel
theorem dX7_meanDoors_71 : decode cX7_meanDoors 71 = .ok (.i2d, 1) := by decide +kernel
theorem dX7_meanDoors_72 : decode cX7_meanDoors 72 = .ok (.iload_n 1, 1) := by decide +kernel
theorem dX7_meanDoors_73 : decode cX7_meanDoors 73 = .ok (.i2d, 1) := by decide +kernel
theorem dX7_meanDoors_74 : decode cX7_meanDoors 74 = .ok (.ddiv, 1) := by decide +kernel
theorem dX7_meanDoors_75 : decode cX7_meanDoors 75 = .ok (.dreturn, 1) := by decide +kernel
theorem dX7_checksum_0 : decode cX7_checksum 0 = .ok (.ldc2_w 325, 3) := by decide +kernel
theorem dX7_checksum_3 : decode cX7_checksum 3 = .ok (.lstore_n 1, 1) := by decide +kernel
theorem dX7_checksum_4 : decode cX7_checksum 4 = .ok (.aload_n 0, 1) := by decide +kernel
theorem dX7_checksum_5 : decode cX7_checksum 5 = .ok (.getfield 11, 3) := by decide +kernel
theorem dX7_checksum_8 : decode cX7_checksum 8 = .ok (.astore_n 3, 1) := by decide +kernel
theorem dX7_checksum_9 : decode cX7_checksum 9 = .ok (.aload_n 3, 1) := by decide +kernel
theorem dX7_checksum_10 : decode cX7_checksum 10 = .ok (.arraylength, 1) := by decide +kernel
theorem dX7_checksum_11 : decode cX7_checksum 11 = .ok (.istore 4, 2) := by decide +kernel
theorem dX7_checksum_13 : decode cX7_checksum 13 = .ok (.iconst 0, 1) := by decide +kernel
theorem dX7_checksum_14 : decode cX7_checksum 14 = .ok (.istore 5, 2) := by decide +kernel
theorem dX7_checksum_16 : decode cX7_checksum 16 = .ok (.iload 5, 2) := by decide +kernel
theorem dX7_checksum_18 : decode cX7_checksum 18 = .ok (.iload 4, 2) := by decide +kernel
theorem dX7_checksum_20 : decode cX7_checksum 20 = .ok (.if_icmp .ge 50, 3) := by decide +kernel
theorem dX7_checksum_23 : decode cX7_checksum 23 = .ok (.aload_n 3, 1) := by decide +kernel
theorem dX7_checksum_24 : decode cX7_checksum 24 = .ok (.iload 5, 2) := by decide +kernel
theorem dX7_checksum_26 : decode cX7_checksum 26 = .ok (.aaload, 1) := by decide +kernel
theorem dX7_checksum_27 : decode cX7_checksum 27 = .ok (.astore 6, 2) := by decide +kernel
theorem dX7_checksum_29 : decode cX7_checksum 29 = .ok (.aload 6, 2) := by decide +kernel
theorem dX7_checksum_31 : decode cX7_checksum 31 = .ok (.invokestatic 179, 3) := by decide +kernel
theorem dX7_checksum_34 : decode cX7_checksum 34 = .ok (.ifCond .eq 30, 3) := by decide +kernel
theorem dX7_checksum_37 : decode cX7_checksum 37 = .ok (.ldc2_w 327, 3) := by decide +kernel
theorem dX7_checksum_40 : decode cX7_checksum 40 = .ok (.lload_n 1, 1) := by decide +kernel
theorem dX7_checksum_41 : decode cX7_checksum 41 = .ok (.lmul, 1) := by decide +kernel
theorem dX7_checksum_42 : decode cX7_checksum 42 = .ok (.aload 6, 2) := by decide +kernel
theorem dX7_checksum_44 : decode cX7_checksum 44 = .ok (.getfield 136, 3) := by decide +kernel
theorem dX7_checksum_47 : decode cX7_checksum 47 = .ok (.i2l, 1) := by decide +kernel
theorem dX7_checksum_48 : decode cX7_checksum 48 = .ok (.ladd, 1) := by decide +kernel
theorem dX7_checksum_49 : decode cX7_checksum 49 = .ok (.lstore_n 1, 1) := by decide +kernel
theorem dX7_checksum_50 : decode cX7_checksum 50 = .ok (.ldc2_w 327, 3) := by decide +kernel
theorem dX7_checksum_53 : decode cX7_checksum 53 = .ok (.lload_n 1, 1) := by decide +kernel
