theorem dX7_enterInOrder_10 : decode cX7_enterInOrder 10 = .ok (.if_icmp .ge 90, 3) := by decide +kernel
theorem dX7_enterInOrder_13 : decode cX7_enterInOrder 13 = .ok (.aload_n 0, 1) := by decide +kernel
theorem dX7_enterInOrder_14 : decode cX7_enterInOrder 14 = .ok (.aload_n 0, 1) := by decide +kernel
theorem dX7_enterInOrder_15 : decode cX7_enterInOrder 15 = .ok (.getfield 38, 3) := by decide +kernel
theorem dX7_enterInOrder_18 : decode cX7_enterInOrder 18 = .ok (.iload_n 3, 1) := by decide +kernel
theorem dX7_enterInOrder_19 : decode cX7_enterInOrder 19 = .ok (.invokevirtual 298, 3) := by decide +kernel
theorem dX7_enterInOrder_22 : decode cX7_enterInOrder 22 = .ok (.invokevirtual 278, 3) := by decide +kernel
theorem dX7_enterInOrder_25 : decode cX7_enterInOrder 25 = .ok (.aload_n 1, 1) := by decide +kernel
theorem dX7_enterInOrder_26 : decode cX7_enterInOrder 26 = .ok (.invokestatic 299, 3) := by decide +kernel
theorem dX7_enterInOrder_29 : decode cX7_enterInOrder 29 = .ok (.astore 4, 2) := by decide +kernel
theorem dX7_enterInOrder_31 : decode cX7_enterInOrder 31 = .ok (.aload 4, 2) := by decide +kernel
theorem dX7_enterInOrder_33 : decode cX7_enterInOrder 33 = .ok (.ifnull 61, 3) := by decide +kernel
theorem dX7_enterInOrder_36 : decode cX7_enterInOrder 36 = .ok (.aload 4, 2) := by decide +kernel
theorem dX7_enterInOrder_38 : decode cX7_enterInOrder 38 = .ok (.getfield 303, 3) := by decide +kernel
theorem dX7_enterInOrder_41 : decode cX7_enterInOrder 41 = .ok (.iload_n 2, 1) := by decide +kernel
theorem dX7_enterInOrder_42 : decode cX7_enterInOrder 42 = .ok (.iadd, 1) := by decide +kernel
theorem dX7_enterInOrder_43 : decode cX7_enterInOrder 43 = .ok (.istore 5, 2) := by decide +kernel
theorem dX7_enterInOrder_45 : decode cX7_enterInOrder 45 = .ok (.aload_n 0, 1) := by decide +kernel
theorem dX7_enterInOrder_46 : decode cX7_enterInOrder 46 = .ok (.getfield 31, 3) := by decide +kernel
theorem dX7_enterInOrder_49 : decode cX7_enterInOrder 49 = .ok (.aload 4, 2) := by decide +kernel
theorem dX7_enterInOrder_51 : decode cX7_enterInOrder 51 = .ok (.getfield 356, 3) := by decide +kernel
theorem dX7_enterInOrder_54 : decode cX7_enterInOrder 54 = .ok (.iload 5, 2) := by decide +kernel
theorem dX7_enterInOrder_56 : decode cX7_enterInOrder 56 = .ok (.aload 4, 2) := by decide +kernel
theorem dX7_enterInOrder_58 : decode cX7_enterInOrder 58 = .ok (.getfield 311, 3) := by decide +kernel
theorem dX7_enterInOrder_61 : decode cX7_enterInOrder 61 = .ok (.invokevirtual 371, 3) := by decide +kernel
theorem dX7_enterInOrder_64 : decode cX7_enterInOrder 64 = .ok (.istore 6, 2) := by decide +kernel
theorem dX7_enterInOrder_66 : decode cX7_enterInOrder 66 = .ok (.iload 6, 2) := by decide +kernel
theorem dX7_enterInOrder_68 : decode cX7_enterInOrder 68 = .ok (.ifCond .ne 5, 3) := by decide +kernel
theorem dX7_enterInOrder_71 : decode cX7_enterInOrder 71 = .ok (.iconst 0, 1) := by decide +kernel
theorem dX7_enterInOrder_72 : decode cX7_enterInOrder 72 = .ok (.ireturn, 1) := by decide +kernel
theorem dX7_enterInOrder_73 : decode cX7_enterInOrder 73 = .ok (.aload_n 0, 1) := by decide +kernel
theorem dX7_enterInOrder_74 : decode cX7_enterInOrder 74 = .ok (.getfield 31, 3) := by decide +kernel
theorem dX7_enterInOrder_77 : decode cX7_enterInOrder 77 = .ok (.aload 4, 2) := by decide +kernel
theorem dX7_enterInOrder_79 : decode cX7_enterInOrder 79 = .ok (.getfield 356, 3) := by decide +kernel
theorem dX7_enterInOrder_82 : decode cX7_enterInOrder 82 = .ok (.iload 5, 2) := by decide +kernel
theorem dX7_enterInOrder_84 : decode cX7_enterInOrder 84 = .ok (.aload 4, 2) := by decide +kernel
theorem dX7_enterInOrder_86 : decode cX7_enterInOrder 86 = .ok (.getfield 311, 3) := by decide +kernel
theorem dX7_enterInOrder_89 : decode cX7_enterInOrder 89 = .ok (.iload 6, 2) := by decide +kernel
theorem dX7_enterInOrder_91 : decode cX7_enterInOrder 91 = .ok (.invokevirtual 378, 3) := by decide +kernel
theorem dX7_enterInOrder_94 : decode cX7_enterInOrder 94 = .ok (.iinc 3 1, 3) := by decide +kernel
theorem dX7_enterInOrder_97 : decode cX7_enterInOrder 97 = .ok (.goto (-95), 3) := by decide +kernel
theorem dX7_enterInOrder_100 : decode cX7_enterInOrder 100 = .ok (.iconst 1, 1) := by decide +kernel
theorem dX7_enterInOrder_101 : decode cX7_enterInOrder 101 = .ok (.ireturn, 1) := by decide +kernel
set_option maxRecDepth 20000 in
theorem ggX7_takeNewCodes_X7_placeOf : GoodIn wsX7_takeNewCodes wsX7_placeOf := goodIn_r _ [8, 9, 10, 11, 12, 13, 14, 15, 16, 71, 72, 73, 74, 75, 66, 67, 68, 69, 70] (by decide +kernel) (by decide +kernel)
set_option maxRecDepth 20000 in
theorem gX7_takeNewCodes_X7_placeOf : GoodIn wsX7_takeNewCodes (va_wsS RX7 299 yX7_placeOf wsX7_placeOf) := goodIn_app (goodIn_of _ (by decide +kernel)) ggX7_takeNewCodes_X7_placeOf
set_option maxRecDepth 20000 in
theorem ggX7_takeNewCodes_X1_codeOf : GoodIn wsX7_takeNewCodes wsX1_codeOf := goodIn_ca (goodIn_r _ [21, 22, 23, 24, 20, 25, 76, 77, 78, 79, 80, 81, 82] (by decide +kernel) (by decide +kernel)) (goodIn_sub (fun _ h => List.mem_cons_of_mem _ (List.mem_append_right _ h)) (by decide +kernel))
set_option maxRecDepth 20000 in
theorem gX7_takeNewCodes_X1_codeOf : GoodIn wsX7_takeNewCodes (wsV RX7 382 RX1 yX1_codeOf wsX1_codeOf) := goodIn_app (goodIn_of _ (by decide +kernel)) ggX7_takeNewCodes_X1_codeOf
set_option maxRecDepth 20000 in
theorem ggX7_takeNewCodes_X7_rememberBoth : GoodIn wsX7_takeNewCodes wsX7_rememberBoth := goodIn_ca (goodIn_r _ [29, 30, 31, 32, 33, 34, 35, 7, 36, 37, 2, 4, 38, 39, 40, 41, 42, 43, 44, 45, 46, 47, 48, 49, 50, 51, 52, 53, 54, 55, 56, 66, 67, 68, 69, 70, 83, 84, 85, 86, 87, 88, 89, 90, 57, 58, 59, 60, 61, 62, 63, 64, 65, 91, 92, 93, 94, 95, 96] (by decide +kernel) (by decide +kernel)) (goodIn_sub (fun _ h => List.mem_cons_of_mem _ (List.mem_append_right _ h)) (by decide +kernel))
set_option maxRecDepth 20000 in
theorem gX7_takeNewCodes_X7_rememberBoth : GoodIn wsX7_takeNewCodes (wsV RX7 367 RX7 yX7_rememberBoth wsX7_rememberBoth) := goodIn_app (goodIn_of _ (by decide +kernel)) ggX7_takeNewCodes_X7_rememberBoth
theorem dX7_takeNewCodes_0 : decode cX7_takeNewCodes 0 = .ok (.iconst 0, 1) := by decide +kernel
theorem dX7_takeNewCodes_1 : decode cX7_takeNewCodes 1 = .ok (.istore_n 2, 1) := by decide +kernel
theorem dX7_takeNewCodes_2 : decode cX7_takeNewCodes 2 = .ok (.aload_n 0, 1) := by decide +kernel
theorem dX7_takeNewCodes_3 : decode cX7_takeNewCodes 3 = .ok (.getfield 17, 3) := by decide +kernel
theorem dX7_takeNewCodes_6 : decode cX7_takeNewCodes 6 = .ok (.astore_n 3, 1) := by decide +kernel
theorem dX7_takeNewCodes_7 : decode cX7_takeNewCodes 7 = .ok (.aload_n 3, 1) := by decide +kernel
theorem dX7_takeNewCodes_8 : decode cX7_takeNewCodes 8 = .ok (.arraylength, 1) := by decide +kernel
theorem dX7_takeNewCodes_9 : decode cX7_takeNewCodes 9 = .ok (.istore 4, 2) := by decide +kernel
theorem dX7_takeNewCodes_11 : decode cX7_takeNewCodes 11 = .ok (.iconst 0, 1) := by decide +kernel
theorem dX7_takeNewCodes_12 : decode cX7_takeNewCodes 12 = .ok (.istore 5, 2) := by decide +kernel
theorem dX7_takeNewCodes_14 : decode cX7_takeNewCodes 14 = .ok (.iload 5, 2) := by decide +kernel
theorem dX7_takeNewCodes_16 : decode cX7_takeNewCodes 16 = .ok (.iload 4, 2) := by decide +kernel
theorem dX7_takeNewCodes_18 : decode cX7_takeNewCodes 18 = .ok (.if_icmp .ge 74, 3) := by decide +kernel
theorem dX7_takeNewCodes_21 : decode cX7_takeNewCodes 21 = .ok (.aload_n 3, 1) := by decide +kernel
theorem dX7_takeNewCodes_22 : decode cX7_takeNewCodes 22 = .ok (.iload 5, 2) := by decide +kernel
theorem dX7_takeNewCodes_24 : decode cX7_takeNewCodes 24 = .ok (.aaload, 1) := by decide +kernel
theorem dX7_takeNewCodes_25 : decode cX7_takeNewCodes 25 = .ok (.astore 6, 2) := by decide +kernel
theorem dX7_takeNewCodes_27 : decode cX7_takeNewCodes 27 = .ok (.aload 6, 2) := by decide +kernel
theorem dX7_takeNewCodes_29 : decode cX7_takeNewCodes 29 = .ok (.aload_n 1, 1) := by decide +kernel
theorem dX7_takeNewCodes_30 : decode cX7_takeNewCodes 30 = .ok (.invokestatic 299, 3) := by decide +kernel
theorem dX7_takeNewCodes_33 : decode cX7_takeNewCodes 33 = .ok (.astore 7, 2) := by decide +kernel
theorem dX7_takeNewCodes_35 : decode cX7_takeNewCodes 35 = .ok (.aload 7, 2) := by decide +kernel
theorem dX7_takeNewCodes_37 : decode cX7_takeNewCodes 37 = .ok (.ifnull 49, 3) := by decide +kernel
theorem dX7_takeNewCodes_40 : decode cX7_takeNewCodes 40 = .ok (.aload 7, 2) := by decide +kernel
theorem dX7_takeNewCodes_42 : decode cX7_takeNewCodes 42 = .ok (.getfield 200, 3) := by decide +kernel
theorem dX7_takeNewCodes_45 : decode cX7_takeNewCodes 45 = .ok (.aload_n 0, 1) := by decide +kernel
theorem dX7_takeNewCodes_46 : decode cX7_takeNewCodes 46 = .ok (.getfield 31, 3) := by decide +kernel
theorem dX7_takeNewCodes_49 : decode cX7_takeNewCodes 49 = .ok (.aload 7, 2) := by decide +kernel
theorem dX7_takeNewCodes_51 : decode cX7_takeNewCodes 51 = .ok (.getfield 356, 3) := by decide +kernel
theorem dX7_takeNewCodes_54 : decode cX7_takeNewCodes 54 = .ok (.invokevirtual 382, 3) := by decide +kernel
theorem dX7_takeNewCodes_57 : decode cX7_takeNewCodes 57 = .ok (.if_icmp .eq 29, 3) := by decide +kernel
theorem dX7_takeNewCodes_60 : decode cX7_takeNewCodes 60 = .ok (.aload_n 0, 1) := by decide +kernel
theorem dX7_takeNewCodes_61 : decode cX7_takeNewCodes 61 = .ok (.aload 7, 2) := by decide +kernel
theorem dX7_takeNewCodes_63 : decode cX7_takeNewCodes 63 = .ok (.invokevirtual 367, 3) := by decide +kernel
theorem dX7_takeNewCodes_66 : decode cX7_takeNewCodes 66 = .ok (.aload 7, 2) := by decide +kernel
theorem dX7_takeNewCodes_68 : decode cX7_takeNewCodes 68 = .ok (.aload_n 0, 1) := by decide +kernel
theorem dX7_takeNewCodes_69 : decode cX7_takeNewCodes 69 = .ok (.getfield 31, 3) := by decide +kernel
theorem dX7_takeNewCodes_72 : decode cX7_takeNewCodes 72 = .ok (.aload 7, 2) := by decide +kernel
theorem dX7_takeNewCodes_74 : decode cX7_takeNewCodes 74 = .ok (.getfield 356, 3) := by decide +kernel
theorem dX7_takeNewCodes_77 : decode cX7_takeNewCodes 77 = .ok (.invokevirtual 382, 3) := by decide +kernel
theorem dX7_takeNewCodes_80 : decode cX7_takeNewCodes 80 = .ok (.putfield 200, 3) := by decide +kernel
theorem dX7_takeNewCodes_83 : decode cX7_takeNewCodes 83 = .ok (.iinc 2 1, 3) := by decide +kernel
theorem dX7_takeNewCodes_86 : decode cX7_takeNewCodes 86 = .ok (.iinc 5 1, 3) := by decide +kernel
theorem dX7_takeNewCodes_89 : decode cX7_takeNewCodes 89 = .ok (.goto (-75), 3) := by decide +kernel
theorem dX7_takeNewCodes_92 : decode cX7_takeNewCodes 92 = .ok (.iload_n 2, 1) := by decide +kernel
theorem dX7_takeNewCodes_93 : decode cX7_takeNewCodes 93 = .ok (.ireturn, 1) := by decide +kernel
set_option maxRecDepth 20000 in
theorem ggX7_moveDoors_X7_placeOf : GoodIn wsX7_moveDoors wsX7_placeOf := goodIn_r _ [11, 12, 13, 14, 15, 16, 17, 18, 19, 55, 56, 57, 58, 59, 42, 43, 44, 45, 46] (by decide +kernel) (by decide +kernel)
set_option maxRecDepth 20000 in
theorem gX7_moveDoors_X7_placeOf : GoodIn wsX7_moveDoors (va_wsS RX7 299 yX7_placeOf wsX7_placeOf) := goodIn_app (goodIn_of _ (by decide +kernel)) ggX7_moveDoors_X7_placeOf
set_option maxRecDepth 20000 in
theorem ggX7_moveDoors_X0_placeOn : GoodIn wsX7_moveDoors wsX0_placeOn := goodIn_r _ [16, 17, 18, 19, 55, 56, 57, 58, 59, 42, 43, 44, 45, 46] (by decide +kernel) (by decide +kernel)
set_option maxRecDepth 20000 in
theorem gX7_moveDoors_X0_placeOn : GoodIn wsX7_moveDoors (wsV RX7 218 RX0 yX0_placeOn wsX0_placeOn) := goodIn_app (goodIn_of _ (by decide +kernel)) ggX7_moveDoors_X0_placeOn
set_option maxRecDepth 20000 in
theorem ggX7_moveDoors_X0_losePlaceOn : GoodIn wsX7_moveDoors wsX0_losePlaceOn := goodIn_r _ [23, 17, 18, 19, 55, 56, 57, 58, 59, 42, 43, 44, 45, 46] (by decide +kernel) (by decide +kernel)
set_option maxRecDepth 20000 in
theorem gX7_moveDoors_X0_losePlaceOn : GoodIn wsX7_moveDoors (wsV RX7 385 RX0 yX0_losePlaceOn wsX0_losePlaceOn) := goodIn_app (goodIn_of _ (by decide +kernel)) ggX7_moveDoors_X0_losePlaceOn
set_option maxRecDepth 20000 in
theorem ggX7_moveDoors_X1_codeOf : GoodIn wsX7_moveDoors wsX1_codeOf := goodIn_ca (goodIn_r _ [28, 29, 30, 31, 27, 32, 60, 61, 62, 63, 64, 65, 66] (by decide +kernel) (by decide +kernel)) (goodIn_sub (fun _ h => List.mem_cons_of_mem _ (List.mem_append_right _ h)) (by decide +kernel))
set_option maxRecDepth 20000 in
theorem gX7_moveDoors_X1_codeOf : GoodIn wsX7_moveDoors (wsV RX7 382 RX1 yX1_codeOf wsX1_codeOf) := goodIn_app (goodIn_of _ (by decide +kernel)) ggX7_moveDoors_X1_codeOf
theorem dX7_moveDoors_0 : decode cX7_moveDoors 0 = .ok (.aload_n 0, 1) := by decide +kernel
theorem dX7_moveDoors_1 : decode cX7_moveDoors 1 = .ok (.getfield 17, 3) := by decide +kernel
theorem dX7_moveDoors_4 : decode cX7_moveDoors 4 = .ok (.astore_n 3, 1) := by decide +kernel
theorem dX7_moveDoors_5 : decode cX7_moveDoors 5 = .ok (.aload_n 3, 1) := by decide +kernel
theorem dX7_moveDoors_6 : decode cX7_moveDoors 6 = .ok (.arraylength, 1) := by decide +kernel
theorem dX7_moveDoors_7 : decode cX7_moveDoors 7 = .ok (.istore 4, 2) := by decide +kernel
theorem dX7_moveDoors_9 : decode cX7_moveDoors 9 = .ok (.iconst 0, 1) := by decide +kernel
theorem dX7_moveDoors_10 : decode cX7_moveDoors 10 = .ok (.istore 5, 2) := by decide +kernel
theorem dX7_moveDoors_12 : decode cX7_moveDoors 12 = .ok (.iload 5, 2) := by decide +kernel
theorem dX7_moveDoors_14 : decode cX7_moveDoors 14 = .ok (.iload 4, 2) := by decide +kernel
theorem dX7_moveDoors_16 : decode cX7_moveDoors 16 = .ok (.if_icmp .ge 92, 3) := by decide +kernel
theorem dX7_moveDoors_19 : decode cX7_moveDoors 19 = .ok (.aload_n 3, 1) := by decide +kernel
theorem dX7_moveDoors_20 : decode cX7_moveDoors 20 = .ok (.iload 5, 2) := by decide +kernel
theorem dX7_moveDoors_22 : decode cX7_moveDoors 22 = .ok (.aaload, 1) := by decide +kernel
theorem dX7_moveDoors_23 : decode cX7_moveDoors 23 = .ok (.astore 6, 2) := by decide +kernel
theorem dX7_moveDoors_25 : decode cX7_moveDoors 25 = .ok (.aload 6, 2) := by decide +kernel
theorem dX7_moveDoors_27 : decode cX7_moveDoors 27 = .ok (.aload_n 2, 1) := by decide +kernel
theorem dX7_moveDoors_28 : decode cX7_moveDoors 28 = .ok (.invokestatic 299, 3) := by decide +kernel
theorem dX7_moveDoors_31 : decode cX7_moveDoors 31 = .ok (.astore 7, 2) := by decide +kernel
theorem dX7_moveDoors_33 : decode cX7_moveDoors 33 = .ok (.aload 6, 2) := by decide +kernel
theorem dX7_moveDoors_35 : decode cX7_moveDoors 35 = .ok (.ifnull 67, 3) := by decide +kernel
theorem dX7_moveDoors_38 : decode cX7_moveDoors 38 = .ok (.aload 7, 2) := by decide +kernel
theorem dX7_moveDoors_40 : decode cX7_moveDoors 40 = .ok (.ifnonnull 6, 3) := by decide +kernel
theorem dX7_moveDoors_43 : decode cX7_moveDoors 43 = .ok (.goto 59, 3) := by decide +kernel
theorem dX7_moveDoors_46 : decode cX7_moveDoors 46 = .ok (.aload 6, 2) := by decide +kernel
theorem dX7_moveDoors_48 : decode cX7_moveDoors 48 = .ok (.aload_n 1, 1) := by decide +kernel
theorem dX7_moveDoors_49 : decode cX7_moveDoors 49 = .ok (.invokevirtual 218, 3) := by decide +kernel
theorem dX7_moveDoors_52 : decode cX7_moveDoors 52 = .ok (.ifnull 12, 3) := by decide +kernel
theorem dX7_moveDoors_55 : decode cX7_moveDoors 55 = .ok (.aload 6, 2) := by decide +kernel
theorem dX7_moveDoors_57 : decode cX7_moveDoors 57 = .ok (.aload_n 2, 1) := by decide +kernel
theorem dX7_moveDoors_58 : decode cX7_moveDoors 58 = .ok (.invokevirtual 385, 3) := by decide +kernel
theorem dX7_moveDoors_61 : decode cX7_moveDoors 61 = .ok (.goto 41, 3) := by decide +kernel
theorem dX7_moveDoors_64 : decode cX7_moveDoors 64 = .ok (.aload 7, 2) := by decide +kernel
theorem dX7_moveDoors_66 : decode cX7_moveDoors 66 = .ok (.aload_n 1, 1) := by decide +kernel
theorem dX7_moveDoors_67 : decode cX7_moveDoors 67 = .ok (.putfield 247, 3) := by decide +kernel
theorem dX7_moveDoors_70 : decode cX7_moveDoors 70 = .ok (.aload 7, 2) := by decide +kernel
theorem dX7_moveDoors_72 : decode cX7_moveDoors 72 = .ok (.aload 7, 2) := by decide +kernel
theorem dX7_moveDoors_74 : decode cX7_moveDoors 74 = .ok (.getfield 303, 3) := by decide +kernel
theorem dX7_moveDoors_77 : decode cX7_moveDoors 77 = .ok (.aload_n 1, 1) := by decide +kernel
theorem dX7_moveDoors_78 : decode cX7_moveDoors 78 = .ok (.getfield 136, 3) := by decide +kernel
theorem dX7_moveDoors_81 : decode cX7_moveDoors 81 = .ok (.iadd, 1) := by decide +kernel
theorem dX7_moveDoors_82 : decode cX7_moveDoors 82 = .ok (.putfield 303, 3) := by decide +kernel
theorem dX7_moveDoors_85 : decode cX7_moveDoors 85 = .ok (.aload 7, 2) := by decide +kernel
theorem dX7_moveDoors_87 : decode cX7_moveDoors 87 = .ok (.aload_n 0, 1) := by decide +kernel
theorem dX7_moveDoors_88 : decode cX7_moveDoors 88 = .ok (.getfield 31, 3) := by decide +kernel
theorem dX7_moveDoors_91 : decode cX7_moveDoors 91 = .ok (.aload 7, 2) := by decide +kernel
theorem dX7_moveDoors_93 : decode cX7_moveDoors 93 = .ok (.getfield 356, 3) := by decide +kernel
theorem dX7_moveDoors_96 : decode cX7_moveDoors 96 = .ok (.invokevirtual 382, 3) := by decide +kernel
theorem dX7_moveDoors_99 : decode cX7_moveDoors 99 = .ok (.putfield 200, 3) := by decide +kernel
theorem dX7_moveDoors_102 : decode cX7_moveDoors 102 = .ok (.iinc 5 1, 3) := by decide +kernel
theorem dX7_moveDoors_105 : decode cX7_moveDoors 105 = .ok (.goto (-93), 3) := by decide +kernel
theorem dX7_moveDoors_108 : decode cX7_moveDoors 108 = .ok (.return_, 1) := by decide +kernel
set_option maxRecDepth 20000 in
theorem ggX7_orderForRenumbering_X4_clear : GoodIn wsX7_orderForRenumbering wsX4_clear := goodIn_r _ [10, 11, 58, 59] (by decide +kernel) (by decide +kernel)
set_option maxRecDepth 20000 in
theorem gX7_orderForRenumbering_X4_clear : GoodIn wsX7_orderForRenumbering (wsV RX7 388 RX4 yX4_clear wsX4_clear) := goodIn_app (goodIn_of _ (by decide +kernel)) ggX7_orderForRenumbering_X4_clear
set_option maxRecDepth 20000 in
theorem ggX7_orderForRenumbering_X7_placeOf : GoodIn wsX7_orderForRenumbering wsX7_placeOf := goodIn_r _ [15, 16, 17, 18, 19, 20, 21, 22, 23, 60, 61, 62, 63, 64, 53, 54, 55, 56, 57] (by decide +kernel) (by decide +kernel)
set_option maxRecDepth 20000 in
theorem gX7_orderForRenumbering_X7_placeOf : GoodIn wsX7_orderForRenumbering (va_wsS RX7 299 yX7_placeOf wsX7_placeOf) := goodIn_app (goodIn_of _ (by decide +kernel)) ggX7_orderForRenumbering_X7_placeOf
set_option maxRecDepth 20000 in
theorem ggX7_orderForRenumbering_X6_farness : GoodIn wsX7_orderForRenumbering wsX6_farness := goodIn_r _ [28, 29, 30, 45, 46, 47, 48, 49, 50, 51, 52] (by decide +kernel) (by decide +kernel)
set_option maxRecDepth 20000 in
theorem gX7_orderForRenumbering_X6_farness : GoodIn wsX7_orderForRenumbering (wsV RX7 391 RX6 yX6_farness wsX6_farness) := goodIn_app (goodIn_of _ (by decide +kernel)) ggX7_orderForRenumbering_X6_farness
set_option maxRecDepth 20000 in
theorem ggX7_orderForRenumbering_X4_put : GoodIn wsX7_orderForRenumbering wsX4_put := goodIn_ca (goodIn_r _ [34, 11, 35, 58, 59] (by decide +kernel) (by decide +kernel)) (goodIn_sub (fun _ h => List.mem_cons_of_mem _ (List.mem_append_right _ h)) (by decide +kernel))
set_option maxRecDepth 20000 in
theorem gX7_orderForRenumbering_X4_put : GoodIn wsX7_orderForRenumbering (wsV RX7 394 RX4 yX4_put wsX4_put) := goodIn_app (goodIn_of _ (by decide +kernel)) ggX7_orderForRenumbering_X4_put
theorem dX7_orderForRenumbering_0 : decode cX7_orderForRenumbering 0 = .ok (.aload_n 0, 1) := by decide +kernel
theorem dX7_orderForRenumbering_1 : decode cX7_orderForRenumbering 1 = .ok (.getfield 38, 3) := by decide +kernel
theorem dX7_orderForRenumbering_4 : decode cX7_orderForRenumbering 4 = .ok (.invokevirtual 388, 3) := by decide +kernel
theorem dX7_orderForRenumbering_7 : decode cX7_orderForRenumbering 7 = .ok (.aload_n 0, 1) := by decide +kernel
theorem dX7_orderForRenumbering_8 : decode cX7_orderForRenumbering 8 = .ok (.getfield 17, 3) := by decide +kernel
theorem dX7_orderForRenumbering_11 : decode cX7_orderForRenumbering 11 = .ok (.astore_n 2, 1) := by decide +kernel
theorem dX7_orderForRenumbering_12 : decode cX7_orderForRenumbering 12 = .ok (.aload_n 2, 1) := by decide +kernel
theorem dX7_orderForRenumbering_13 : decode cX7_orderForRenumbering 13 = .ok (.arraylength, 1) := by decide +kernel
theorem dX7_orderForRenumbering_14 : decode cX7_orderForRenumbering 14 = .ok (.istore_n 3, 1) := by decide +kernel
theorem dX7_orderForRenumbering_15 : decode cX7_orderForRenumbering 15 = .ok (.iconst 0, 1) := by decide +kernel
theorem dX7_orderForRenumbering_16 : decode cX7_orderForRenumbering 16 = .ok (.istore 4, 2) := by decide +kernel
theorem dX7_orderForRenumbering_18 : decode cX7_orderForRenumbering 18 = .ok (.iload 4, 2) := by decide +kernel
theorem dX7_orderForRenumbering_20 : decode cX7_orderForRenumbering 20 = .ok (.iload_n 3, 1) := by decide +kernel
theorem dX7_orderForRenumbering_21 : decode cX7_orderForRenumbering 21 = .ok (.if_icmp .ge 62, 3) := by decide +kernel
theorem dX7_orderForRenumbering_24 : decode cX7_orderForRenumbering 24 = .ok (.aload_n 2, 1) := by decide +kernel
theorem dX7_orderForRenumbering_25 : decode cX7_orderForRenumbering 25 = .ok (.iload 4, 2) := by decide +kernel
theorem dX7_orderForRenumbering_27 : decode cX7_orderForRenumbering 27 = .ok (.aaload, 1) := by decide +kernel
theorem dX7_orderForRenumbering_28 : decode cX7_orderForRenumbering 28 = .ok (.astore 5, 2) := by decide +kernel
theorem dX7_orderForRenumbering_30 : decode cX7_orderForRenumbering 30 = .ok (.aload 5, 2) := by decide +kernel
theorem dX7_orderForRenumbering_32 : decode cX7_orderForRenumbering 32 = .ok (.aload_n 1, 1) := by decide +kernel
theorem dX7_orderForRenumbering_33 : decode cX7_orderForRenumbering 33 = .ok (.invokestatic 299, 3) := by decide +kernel
theorem dX7_orderForRenumbering_36 : decode cX7_orderForRenumbering 36 = .ok (.astore 6, 2) := by decide +kernel
theorem dX7_orderForRenumbering_38 : decode cX7_orderForRenumbering 38 = .ok (.aload 6, 2) := by decide +kernel
theorem dX7_orderForRenumbering_40 : decode cX7_orderForRenumbering 40 = .ok (.ifnull 37, 3) := by decide +kernel
theorem dX7_orderForRenumbering_43 : decode cX7_orderForRenumbering 43 = .ok (.aload_n 0, 1) := by decide +kernel
theorem dX7_orderForRenumbering_44 : decode cX7_orderForRenumbering 44 = .ok (.getfield 38, 3) := by decide +kernel
theorem dX7_orderForRenumbering_47 : decode cX7_orderForRenumbering 47 = .ok (.aload_n 1, 1) := by decide +kernel
theorem dX7_orderForRenumbering_48 : decode cX7_orderForRenumbering 48 = .ok (.getfield 128, 3) := by decide +kernel
theorem dX7_orderForRenumbering_51 : decode cX7_orderForRenumbering 51 = .ok (.bipush 121, 2) := by decide +kernel
theorem dX7_orderForRenumbering_53 : decode cX7_orderForRenumbering 53 = .ok (.if_icmp .ne 7, 3) := by decide +kernel
theorem dX7_orderForRenumbering_56 : decode cX7_orderForRenumbering 56 = .ok (.iconst 0, 1) := by decide +kernel
theorem dX7_orderForRenumbering_57 : decode cX7_orderForRenumbering 57 = .ok (.goto 12, 3) := by decide +kernel
theorem dX7_orderForRenumbering_60 : decode cX7_orderForRenumbering 60 = .ok (.aload_n 1, 1) := by decide +kernel
theorem dX7_orderForRenumbering_61 : decode cX7_orderForRenumbering 61 = .ok (.aload 6, 2) := by decide +kernel
theorem dX7_orderForRenumbering_63 : decode cX7_orderForRenumbering 63 = .ok (.getfield 303, 3) := by decide +kernel
theorem dX7_orderForRenumbering_66 : decode cX7_orderForRenumbering 66 = .ok (.invokevirtual 391, 3) := by decide +kernel
theorem dX7_orderForRenumbering_69 : decode cX7_orderForRenumbering 69 = .ok (.aload 6, 2) := by decide +kernel
theorem dX7_orderForRenumbering_71 : decode cX7_orderForRenumbering 71 = .ok (.getfield 356, 3) := by decide +kernel
theorem dX7_orderForRenumbering_74 : decode cX7_orderForRenumbering 74 = .ok (.invokevirtual 394, 3) := by decide +kernel
theorem dX7_orderForRenumbering_77 : decode cX7_orderForRenumbering 77 = .ok (.iinc 4 1, 3) := by decide +kernel
theorem dX7_orderForRenumbering_80 : decode cX7_orderForRenumbering 80 = .ok (.goto (-62), 3) := by decide +kernel
theorem dX7_orderForRenumbering_83 : decode cX7_orderForRenumbering 83 = .ok (.return_, 1) := by decide +kernel
set_option maxRecDepth 20000 in
theorem ggX7_orderForJoining_X4_clear : GoodIn wsX7_orderForJoining wsX4_clear := goodIn_r _ [9, 10, 49, 50] (by decide +kernel) (by decide +kernel)
set_option maxRecDepth 20000 in
theorem gX7_orderForJoining_X4_clear : GoodIn wsX7_orderForJoining (wsV RX7 388 RX4 yX4_clear wsX4_clear) := goodIn_app (goodIn_of _ (by decide +kernel)) ggX7_orderForJoining_X4_clear
set_option maxRecDepth 20000 in
theorem ggX7_orderForJoining_X7_placeOf : GoodIn wsX7_orderForJoining wsX7_placeOf := goodIn_r _ [14, 15, 16, 17, 18, 19, 20, 21, 22, 51, 52, 53, 54, 55, 44, 45, 46, 47, 48] (by decide +kernel) (by decide +kernel)
set_option maxRecDepth 20000 in
theorem gX7_orderForJoining_X7_placeOf : GoodIn wsX7_orderForJoining (va_wsS RX7 299 yX7_placeOf wsX7_placeOf) := goodIn_app (goodIn_of _ (by decide +kernel)) ggX7_orderForJoining_X7_placeOf
set_option maxRecDepth 20000 in
theorem ggX7_orderForJoining_X6_farness : GoodIn wsX7_orderForJoining wsX6_farness := goodIn_r _ [27, 28, 29, 56, 57, 58, 59, 60, 61, 62, 63] (by decide +kernel) (by decide +kernel)
set_option maxRecDepth 20000 in
theorem gX7_orderForJoining_X6_farness : GoodIn wsX7_orderForJoining (wsV RX7 391 RX6 yX6_farness wsX6_farness) := goodIn_app (goodIn_of _ (by decide +kernel)) ggX7_orderForJoining_X6_farness
set_option maxRecDepth 20000 in
theorem ggX7_orderForJoining_X4_put : GoodIn wsX7_orderForJoining wsX4_put := goodIn_ca (goodIn_r _ [33, 10, 34, 49, 50] (by decide +kernel) (by decide +kernel)) (goodIn_sub (fun _ h => List.mem_cons_of_mem _ (List.mem_append_right _ h)) (by decide +kernel))
set_option maxRecDepth 20000 in
theorem gX7_orderForJoining_X4_put : GoodIn wsX7_orderForJoining (wsV RX7 394 RX4 yX4_put wsX4_put) := goodIn_app (goodIn_of _ (by decide +kernel)) ggX7_orderForJoining_X4_put
theorem dX7_orderForJoining_0 : decode cX7_orderForJoining 0 = .ok (.aload_n 0, 1) := by decide +kernel
theorem dX7_orderForJoining_1 : decode cX7_orderForJoining 1 = .ok (.getfield 38, 3) := by decide +kernel
theorem dX7_orderForJoining_4 : decode cX7_orderForJoining 4 = .ok (.invokevirtual 388, 3) := by decide +kernel
theorem dX7_orderForJoining_7 : decode cX7_orderForJoining 7 = .ok (.aload_n 0, 1) := by decide +kernel
theorem dX7_orderForJoining_8 : decode cX7_orderForJoining 8 = .ok (.getfield 17, 3) := by decide +kernel
theorem dX7_orderForJoining_11 : decode cX7_orderForJoining 11 = .ok (.astore_n 3, 1) := by decide +kernel
theorem dX7_orderForJoining_12 : decode cX7_orderForJoining 12 = .ok (.aload_n 3, 1) := by decide +kernel
theorem dX7_orderForJoining_13 : decode cX7_orderForJoining 13 = .ok (.arraylength, 1) := by decide +kernel
theorem dX7_orderForJoining_14 : decode cX7_orderForJoining 14 = .ok (.istore 4, 2) := by decide +kernel
theorem dX7_orderForJoining_16 : decode cX7_orderForJoining 16 = .ok (.iconst 0, 1) := by decide +kernel
theorem dX7_orderForJoining_17 : decode cX7_orderForJoining 17 = .ok (.istore 5, 2) := by decide +kernel
theorem dX7_orderForJoining_19 : decode cX7_orderForJoining 19 = .ok (.iload 5, 2) := by decide +kernel
theorem dX7_orderForJoining_21 : decode cX7_orderForJoining 21 = .ok (.iload 4, 2) := by decide +kernel
theorem dX7_orderForJoining_23 : decode cX7_orderForJoining 23 = .ok (.if_icmp .ge 58, 3) := by decide +kernel
theorem dX7_orderForJoining_26 : decode cX7_orderForJoining 26 = .ok (.aload_n 3, 1) := by decide +kernel
theorem dX7_orderForJoining_27 : decode cX7_orderForJoining 27 = .ok (.iload 5, 2) := by decide +kernel
theorem dX7_orderForJoining_29 : decode cX7_orderForJoining 29 = .ok (.aaload, 1) := by decide +kernel
theorem dX7_orderForJoining_30 : decode cX7_orderForJoining 30 = .ok (.astore 6, 2) := by decide +kernel
theorem dX7_orderForJoining_32 : decode cX7_orderForJoining 32 = .ok (.aload 6, 2) := by decide +kernel
theorem dX7_orderForJoining_34 : decode cX7_orderForJoining 34 = .ok (.aload_n 2, 1) := by decide +kernel
theorem dX7_orderForJoining_35 : decode cX7_orderForJoining 35 = .ok (.invokestatic 299, 3) := by decide +kernel
theorem dX7_orderForJoining_38 : decode cX7_orderForJoining 38 = .ok (.astore 7, 2) := by decide +kernel
theorem dX7_orderForJoining_40 : decode cX7_orderForJoining 40 = .ok (.aload 7, 2) := by decide +kernel
theorem dX7_orderForJoining_42 : decode cX7_orderForJoining 42 = .ok (.ifnull 33, 3) := by decide +kernel
theorem dX7_orderForJoining_45 : decode cX7_orderForJoining 45 = .ok (.aload 6, 2) := by decide +kernel
theorem dX7_orderForJoining_47 : decode cX7_orderForJoining 47 = .ok (.aload_n 1, 1) := by decide +kernel
theorem dX7_orderForJoining_48 : decode cX7_orderForJoining 48 = .ok (.invokestatic 299, 3) := by decide +kernel
theorem dX7_orderForJoining_51 : decode cX7_orderForJoining 51 = .ok (.ifnonnull 24, 3) := by decide +kernel
theorem dX7_orderForJoining_54 : decode cX7_orderForJoining 54 = .ok (.aload_n 0, 1) := by decide +kernel
theorem dX7_orderForJoining_55 : decode cX7_orderForJoining 55 = .ok (.getfield 38, 3) := by decide +kernel
theorem dX7_orderForJoining_58 : decode cX7_orderForJoining 58 = .ok (.aload_n 2, 1) := by decide +kernel
theorem dX7_orderForJoining_59 : decode cX7_orderForJoining 59 = .ok (.aload 7, 2) := by decide +kernel
theorem dX7_orderForJoining_61 : decode cX7_orderForJoining 61 = .ok (.getfield 303, 3) := by decide +kernel
theorem dX7_orderForJoining_64 : decode cX7_orderForJoining 64 = .ok (.invokevirtual 391, 3) := by decide +kernel
theorem dX7_orderForJoining_67 : decode cX7_orderForJoining 67 = .ok (.aload 7, 2) := by decide +kernel
theorem dX7_orderForJoining_69 : decode cX7_orderForJoining 69 = .ok (.getfield 356, 3) := by decide +kernel
theorem dX7_orderForJoining_72 : decode cX7_orderForJoining 72 = .ok (.invokevirtual 394, 3) := by decide +kernel
theorem dX7_orderForJoining_75 : decode cX7_orderForJoining 75 = .ok (.iinc 5 1, 3) := by decide +kernel
theorem dX7_orderForJoining_78 : decode cX7_orderForJoining 78 = .ok (.goto (-59), 3) := by decide +kernel
theorem dX7_orderForJoining_81 : decode cX7_orderForJoining 81 = .ok (.return_, 1) := by decide +kernel
set_option maxRecDepth 20000 in
theorem ggX7_orderForWalking_X4_clear : GoodIn wsX7_orderForWalking wsX4_clear := goodIn_r _ [10, 11, 43, 44] (by decide +kernel) (by decide +kernel)
set_option maxRecDepth 20000 in
theorem gX7_orderForWalking_X4_clear : GoodIn wsX7_orderForWalking (wsV RX7 388 RX4 yX4_clear wsX4_clear) := goodIn_app (goodIn_of _ (by decide +kernel)) ggX7_orderForWalking_X4_clear
set_option maxRecDepth 20000 in
theorem ggX7_orderForWalking_X7_placeOf : GoodIn wsX7_orderForWalking wsX7_placeOf := goodIn_r _ [15, 16, 17, 18, 19, 20, 21, 22, 23, 45, 46, 47, 48, 49, 38, 39, 40, 41, 42] (by decide +kernel) (by decide +kernel)
set_option maxRecDepth 20000 in
theorem gX7_orderForWalking_X7_placeOf : GoodIn wsX7_orderForWalking (va_wsS RX7 299 yX7_placeOf wsX7_placeOf) := goodIn_app (goodIn_of _ (by decide +kernel)) ggX7_orderForWalking_X7_placeOf
set_option maxRecDepth 20000 in
theorem ggX7_orderForWalking_X4_put : GoodIn wsX7_orderForWalking wsX4_put := goodIn_ca (goodIn_r _ [27, 11, 28, 43, 44] (by decide +kernel) (by decide +kernel)) (goodIn_sub (fun _ h => List.mem_cons_of_mem _ (List.mem_append_right _ h)) (by decide +kernel))
set_option maxRecDepth 20000 in
theorem gX7_orderForWalking_X4_put : GoodIn wsX7_orderForWalking (wsV RX7 394 RX4 yX4_put wsX4_put) := goodIn_app (goodIn_of _ (by decide +kernel)) ggX7_orderForWalking_X4_put
theorem dX7_orderForWalking_0 : decode cX7_orderForWalking 0 = .ok (.aload_n 0, 1) := by decide +kernel
theorem dX7_orderForWalking_1 : decode cX7_orderForWalking 1 = .ok (.getfield 38, 3) := by decide +kernel
theorem dX7_orderForWalking_4 : decode cX7_orderForWalking 4 = .ok (.invokevirtual 388, 3) := by decide +kernel
theorem dX7_orderForWalking_7 : decode cX7_orderForWalking 7 = .ok (.aload_n 0, 1) := by decide +kernel
theorem dX7_orderForWalking_8 : decode cX7_orderForWalking 8 = .ok (.getfield 17, 3) := by decide +kernel
theorem dX7_orderForWalking_11 : decode cX7_orderForWalking 11 = .ok (.astore_n 2, 1) := by decide +kernel
theorem dX7_orderForWalking_12 : decode cX7_orderForWalking 12 = .ok (.aload_n 2, 1) := by decide +kernel
theorem dX7_orderForWalking_13 : decode cX7_orderForWalking 13 = .ok (.arraylength, 1) := by decide +kernel
theorem dX7_orderForWalking_14 : decode cX7_orderForWalking 14 = .ok (.istore_n 3, 1) := by decide +kernel
theorem dX7_orderForWalking_15 : decode cX7_orderForWalking 15 = .ok (.iconst 0, 1) := by decide +kernel
theorem dX7_orderForWalking_16 : decode cX7_orderForWalking 16 = .ok (.istore 4, 2) := by decide +kernel
theorem dX7_orderForWalking_18 : decode cX7_orderForWalking 18 = .ok (.iload 4, 2) := by decide +kernel
theorem dX7_orderForWalking_20 : decode cX7_orderForWalking 20 = .ok (.iload_n 3, 1) := by decide +kernel
theorem dX7_orderForWalking_21 : decode cX7_orderForWalking 21 = .ok (.if_icmp .ge 65, 3) := by decide +kernel
theorem dX7_orderForWalking_24 : decode cX7_orderForWalking 24 = .ok (.aload_n 2, 1) := by decide +kernel
theorem dX7_orderForWalking_25 : decode cX7_orderForWalking 25 = .ok (.iload 4, 2) := by decide +kernel
theorem dX7_orderForWalking_27 : decode cX7_orderForWalking 27 = .ok (.aaload, 1) := by decide +kernel
theorem dX7_orderForWalking_28 : decode cX7_orderForWalking 28 = .ok (.astore 5, 2) := by decide +kernel
theorem dX7_orderForWalking_30 : decode cX7_orderForWalking 30 = .ok (.aload 5, 2) := by decide +kernel
theorem dX7_orderForWalking_32 : decode cX7_orderForWalking 32 = .ok (.aload_n 1, 1) := by decide +kernel
theorem dX7_orderForWalking_33 : decode cX7_orderForWalking 33 = .ok (.invokestatic 299, 3) := by decide +kernel
theorem dX7_orderForWalking_36 : decode cX7_orderForWalking 36 = .ok (.astore 6, 2) := by decide +kernel
theorem dX7_orderForWalking_38 : decode cX7_orderForWalking 38 = .ok (.aload 6, 2) := by decide +kernel
theorem dX7_orderForWalking_40 : decode cX7_orderForWalking 40 = .ok (.ifnull 40, 3) := by decide +kernel
theorem dX7_orderForWalking_43 : decode cX7_orderForWalking 43 = .ok (.aload_n 0, 1) := by decide +kernel
theorem dX7_orderForWalking_44 : decode cX7_orderForWalking 44 = .ok (.getfield 38, 3) := by decide +kernel
theorem dX7_orderForWalking_47 : decode cX7_orderForWalking 47 = .ok (.aload 6, 2) := by decide +kernel
theorem dX7_orderForWalking_49 : decode cX7_orderForWalking 49 = .ok (.getfield 311, 3) := by decide +kernel
theorem dX7_orderForWalking_52 : decode cX7_orderForWalking 52 = .ok (.ifCond .eq 11, 3) := by decide +kernel
theorem dX7_orderForWalking_55 : decode cX7_orderForWalking 55 = .ok (.aload 6, 2) := by decide +kernel
theorem dX7_orderForWalking_57 : decode cX7_orderForWalking 57 = .ok (.getfield 303, 3) := by decide +kernel
theorem dX7_orderForWalking_60 : decode cX7_orderForWalking 60 = .ok (.goto 12, 3) := by decide +kernel
theorem dX7_orderForWalking_63 : decode cX7_orderForWalking 63 = .ok (.sipush 1999, 3) := by decide +kernel
theorem dX7_orderForWalking_66 : decode cX7_orderForWalking 66 = .ok (.aload 6, 2) := by decide +kernel
theorem dX7_orderForWalking_68 : decode cX7_orderForWalking 68 = .ok (.getfield 303, 3) := by decide +kernel
theorem dX7_orderForWalking_71 : decode cX7_orderForWalking 71 = .ok (.isub, 1) := by decide +kernel
theorem dX7_orderForWalking_72 : decode cX7_orderForWalking 72 = .ok (.aload 6, 2) := by decide +kernel
theorem dX7_orderForWalking_74 : decode cX7_orderForWalking 74 = .ok (.getfield 356, 3) := by decide +kernel
theorem dX7_orderForWalking_77 : decode cX7_orderForWalking 77 = .ok (.invokevirtual 394, 3) := by decide +kernel
theorem dX7_orderForWalking_80 : decode cX7_orderForWalking 80 = .ok (.iinc 4 1, 3) := by decide +kernel
theorem dX7_orderForWalking_83 : decode cX7_orderForWalking 83 = .ok (.goto (-65), 3) := by decide +kernel
theorem dX7_orderForWalking_86 : decode cX7_orderForWalking 86 = .ok (.return_, 1) := by decide +kernel
set_option maxRecDepth 20000 in
theorem ggX7_areAddressesSingle_X7_isStanding : GoodIn wsX7_areAddressesSingle wsX7_isStanding := goodIn_r _ [7, 8, 80, 81, 82, 83, 84, 85, 86, 87] (by decide +kernel) (by decide +kernel)
set_option maxRecDepth 20000 in
theorem gX7_areAddressesSingle_X7_isStanding : GoodIn wsX7_areAddressesSingle (va_wsS RX7 179 yX7_isStanding wsX7_isStanding) := goodIn_app (goodIn_of _ (by decide +kernel)) ggX7_areAddressesSingle_X7_isStanding
set_option maxRecDepth 20000 in
theorem ggX7_areAddressesSingle_X7_openLedger : GoodIn wsX7_areAddressesSingle wsX7_openLedger := goodIn_ca (goodIn_r _ [12, 3, 13, 14, 15, 16, 17, 18, 19, 20, 21, 22, 23, 24, 25, 26, 27, 28, 29, 30, 31, 32, 33, 34, 35, 36, 6, 37, 38, 39, 40, 41, 42, 43, 44, 45, 46, 47, 48, 49, 50, 51, 52, 53, 54, 55, 56, 57, 58, 59, 60, 61, 62, 63, 64, 65, 66, 71, 72, 73, 74, 75, 76, 77, 78, 79, 80, 81, 82, 83, 84, 85, 86, 87, 88, 89, 90, 91, 92, 93, 94, 95, 96, 97, 98, 99, 100, 101, 102, 103, 104] (by decide +kernel) (by decide +kernel)) (goodIn_sub (fun _ h => List.mem_cons_of_mem _ (List.mem_append_right _ h)) (by decide +kernel))
set_option maxRecDepth 20000 in
theorem gX7_areAddressesSingle_X7_openLedger : GoodIn wsX7_areAddressesSingle (wsV RX7 163 RX7 yX7_openLedger wsX7_openLedger) := goodIn_app (goodIn_of _ (by decide +kernel)) ggX7_areAddressesSingle_X7_openLedger
set_option maxRecDepth 20000 in
theorem ggX7_areAddressesSingle_X1_hasTwins : GoodIn wsX7_areAddressesSingle wsX1_hasTwins := goodIn_ca (goodIn_r _ [70, 24, 93, 94, 95, 96, 97, 98, 99] (by decide +kernel) (by decide +kernel)) (goodIn_sub (fun _ h => List.mem_cons_of_mem _ (List.mem_append_right _ h)) (by decide +kernel))
set_option maxRecDepth 20000 in
theorem gX7_areAddressesSingle_X1_hasTwins : GoodIn wsX7_areAddressesSingle (wsV RX7 398 RX1 yX1_hasTwins wsX1_hasTwins) := goodIn_app (goodIn_of _ (by decide +kernel)) ggX7_areAddressesSingle_X1_hasTwins
theorem dX7_areAddressesSingle_0 : decode cX7_areAddressesSingle 0 = .ok (.aload_n 0, 1) := by decide +kernel
theorem dX7_areAddressesSingle_1 : decode cX7_areAddressesSingle 1 = .ok (.getfield 11, 3) := by decide +kernel
theorem dX7_areAddressesSingle_4 : decode cX7_areAddressesSingle 4 = .ok (.astore_n 1, 1) := by decide +kernel
theorem dX7_areAddressesSingle_5 : decode cX7_areAddressesSingle 5 = .ok (.aload_n 1, 1) := by decide +kernel
theorem dX7_areAddressesSingle_6 : decode cX7_areAddressesSingle 6 = .ok (.arraylength, 1) := by decide +kernel
theorem dX7_areAddressesSingle_7 : decode cX7_areAddressesSingle 7 = .ok (.istore_n 2, 1) := by decide +kernel
theorem dX7_areAddressesSingle_8 : decode cX7_areAddressesSingle 8 = .ok (.iconst 0, 1) := by decide +kernel
theorem dX7_areAddressesSingle_9 : decode cX7_areAddressesSingle 9 = .ok (.istore_n 3, 1) := by decide +kernel
theorem dX7_areAddressesSingle_10 : decode cX7_areAddressesSingle 10 = .ok (.iload_n 3, 1) := by decide +kernel
theorem dX7_areAddressesSingle_11 : decode cX7_areAddressesSingle 11 = .ok (.iload_n 2, 1) := by decide +kernel
theorem dX7_areAddressesSingle_12 : decode cX7_areAddressesSingle 12 = .ok (.if_icmp .ge 45, 3) := by decide +kernel
theorem dX7_areAddressesSingle_15 : decode cX7_areAddressesSingle 15 = .ok (.aload_n 1, 1) := by decide +kernel
theorem dX7_areAddressesSingle_16 : decode cX7_areAddressesSingle 16 = .ok (.iload_n 3, 1) := by decide +kernel
theorem dX7_areAddressesSingle_17 : decode cX7_areAddressesSingle 17 = .ok (.aaload, 1) := by decide +kernel
theorem dX7_areAddressesSingle_18 : decode cX7_areAddressesSingle 18 = .ok (.astore 4, 2) := by decide +kernel
theorem dX7_areAddressesSingle_20 : decode cX7_areAddressesSingle 20 = .ok (.aload 4, 2) := by decide +kernel
theorem dX7_areAddressesSingle_22 : decode cX7_areAddressesSingle 22 = .ok (.invokestatic 179, 3) := by decide +kernel
theorem dX7_areAddressesSingle_25 : decode cX7_areAddressesSingle 25 = .ok (.ifCond .eq 26, 3) := by decide +kernel
theorem dX7_areAddressesSingle_28 : decode cX7_areAddressesSingle 28 = .ok (.aload_n 0, 1) := by decide +kernel
theorem dX7_areAddressesSingle_29 : decode cX7_areAddressesSingle 29 = .ok (.aload 4, 2) := by decide +kernel
theorem dX7_areAddressesSingle_31 : decode cX7_areAddressesSingle 31 = .ok (.aload 4, 2) := by decide +kernel
theorem dX7_areAddressesSingle_33 : decode cX7_areAddressesSingle 33 = .ok (.getfield 136, 3) := by decide +kernel
theorem dX7_areAddressesSingle_36 : decode cX7_areAddressesSingle 36 = .ok (.invokevirtual 163, 3) := by decide +kernel
theorem dX7_areAddressesSingle_39 : decode cX7_areAddressesSingle 39 = .ok (.aload_n 0, 1) := by decide +kernel
theorem dX7_areAddressesSingle_40 : decode cX7_areAddressesSingle 40 = .ok (.getfield 31, 3) := by decide +kernel
theorem dX7_areAddressesSingle_43 : decode cX7_areAddressesSingle 43 = .ok (.invokevirtual 398, 3) := by decide +kernel
theorem dX7_areAddressesSingle_46 : decode cX7_areAddressesSingle 46 = .ok (.ifCond .eq 5, 3) := by decide +kernel
theorem dX7_areAddressesSingle_49 : decode cX7_areAddressesSingle 49 = .ok (.iconst 0, 1) := by decide +kernel
theorem dX7_areAddressesSingle_50 : decode cX7_areAddressesSingle 50 = .ok (.ireturn, 1) := by decide +kernel
theorem dX7_areAddressesSingle_51 : decode cX7_areAddressesSingle 51 = .ok (.iinc 3 1, 3) := by decide +kernel
theorem dX7_areAddressesSingle_54 : decode cX7_areAddressesSingle 54 = .ok (.goto (-44), 3) := by decide +kernel
theorem dX7_areAddressesSingle_57 : decode cX7_areAddressesSingle 57 = .ok (.iconst 1, 1) := by decide +kernel
theorem dX7_areAddressesSingle_58 : decode cX7_areAddressesSingle 58 = .ok (.ireturn, 1) := by decide +kernel
set_option maxRecDepth 20000 in
theorem ggX7_areAddressesThere_X0_hasAddressesAll : GoodIn wsX7_areAddressesThere wsX0_hasAddressesAll := goodIn_r _ [7, 8, 9, 10, 11, 12, 13, 14, 15, 25, 26, 27, 28, 29, 30, 31, 32, 33, 34, 35, 36, 37, 38, 39, 40, 41, 42] (by decide +kernel) (by decide +kernel)
set_option maxRecDepth 20000 in
theorem gX7_areAddressesThere_X0_hasAddressesAll : GoodIn wsX7_areAddressesThere (wsV RX7 401 RX0 yX0_hasAddressesAll wsX0_hasAddressesAll) := goodIn_app (goodIn_of _ (by decide +kernel)) ggX7_areAddressesThere_X0_hasAddressesAll
theorem dX7_areAddressesThere_0 : decode cX7_areAddressesThere 0 = .ok (.aload_n 0, 1) := by decide +kernel
theorem dX7_areAddressesThere_1 : decode cX7_areAddressesThere 1 = .ok (.getfield 17, 3) := by decide +kernel
theorem dX7_areAddressesThere_4 : decode cX7_areAddressesThere 4 = .ok (.astore_n 1, 1) := by decide +kernel
theorem dX7_areAddressesThere_5 : decode cX7_areAddressesThere 5 = .ok (.aload_n 1, 1) := by decide +kernel
theorem dX7_areAddressesThere_6 : decode cX7_areAddressesThere 6 = .ok (.arraylength, 1) := by decide +kernel
theorem dX7_areAddressesThere_7 : decode cX7_areAddressesThere 7 = .ok (.istore_n 2, 1) := by decide +kernel
theorem dX7_areAddressesThere_8 : decode cX7_areAddressesThere 8 = .ok (.iconst 0, 1) := by decide +kernel
theorem dX7_areAddressesThere_9 : decode cX7_areAddressesThere 9 = .ok (.istore_n 3, 1) := by decide +kernel
theorem dX7_areAddressesThere_10 : decode cX7_areAddressesThere 10 = .ok (.iload_n 3, 1) := by decide +kernel
theorem dX7_areAddressesThere_11 : decode cX7_areAddressesThere 11 = .ok (.iload_n 2, 1) := by decide +kernel
theorem dX7_areAddressesThere_12 : decode cX7_areAddressesThere 12 = .ok (.if_icmp .ge 37, 3) := by decide +kernel
theorem dX7_areAddressesThere_15 : decode cX7_areAddressesThere 15 = .ok (.aload_n 1, 1) := by decide +kernel
theorem dX7_areAddressesThere_16 : decode cX7_areAddressesThere 16 = .ok (.iload_n 3, 1) := by decide +kernel
theorem dX7_areAddressesThere_17 : decode cX7_areAddressesThere 17 = .ok (.aaload, 1) := by decide +kernel
theorem dX7_areAddressesThere_18 : decode cX7_areAddressesThere 18 = .ok (.astore 4, 2) := by decide +kernel
theorem dX7_areAddressesThere_20 : decode cX7_areAddressesThere 20 = .ok (.aload 4, 2) := by decide +kernel
theorem dX7_areAddressesThere_22 : decode cX7_areAddressesThere 22 = .ok (.ifnull 21, 3) := by decide +kernel
theorem dX7_areAddressesThere_25 : decode cX7_areAddressesThere 25 = .ok (.aload 4, 2) := by decide +kernel
theorem dX7_areAddressesThere_27 : decode cX7_areAddressesThere 27 = .ok (.getfield 213, 3) := by decide +kernel
theorem dX7_areAddressesThere_30 : decode cX7_areAddressesThere 30 = .ok (.ifCond .ne 13, 3) := by decide +kernel
theorem dX7_areAddressesThere_33 : decode cX7_areAddressesThere 33 = .ok (.aload 4, 2) := by decide +kernel
theorem dX7_areAddressesThere_35 : decode cX7_areAddressesThere 35 = .ok (.invokevirtual 401, 3) := by decide +kernel
theorem dX7_areAddressesThere_38 : decode cX7_areAddressesThere 38 = .ok (.ifCond .ne 5, 3) := by decide +kernel
theorem dX7_areAddressesThere_41 : decode cX7_areAddressesThere 41 = .ok (.iconst 0, 1) := by decide +kernel
theorem dX7_areAddressesThere_42 : decode cX7_areAddressesThere 42 = .ok (.ireturn, 1) := by decide +kernel
theorem dX7_areAddressesThere_43 : decode cX7_areAddressesThere 43 = .ok (.iinc 3 1, 3) := by decide +kernel
theorem dX7_areAddressesThere_46 : decode cX7_areAddressesThere 46 = .ok (.goto (-36), 3) := by decide +kernel
theorem dX7_areAddressesThere_49 : decode cX7_areAddressesThere 49 = .ok (.iconst 1, 1) := by decide +kernel
theorem dX7_areAddressesThere_50 : decode cX7_areAddressesThere 50 = .ok (.ireturn, 1) := by decide +kernel
set_option maxRecDepth 20000 in
theorem ggX7_areNamesSingle_X7_isStanding : GoodIn wsX7_areNamesSingle wsX7_isStanding := goodIn_r _ [7, 8, 29, 30, 31, 32, 33, 34, 35, 36] (by decide +kernel) (by decide +kernel)
set_option maxRecDepth 20000 in
theorem gX7_areNamesSingle_X7_isStanding : GoodIn wsX7_areNamesSingle (va_wsS RX7 179 yX7_isStanding wsX7_isStanding) := goodIn_app (goodIn_of _ (by decide +kernel)) ggX7_areNamesSingle_X7_isStanding
set_option maxRecDepth 20000 in
theorem ggX7_areNamesSingle_X7_isTakenByOther : GoodIn wsX7_areNamesSingle wsX7_isTakenByOther := goodIn_r _ [12, 1, 2, 3, 4, 5, 6, 7, 8, 13, 14, 15, 16, 17, 18, 19, 20, 21, 22, 23, 24, 25, 26, 27, 28, 29, 30, 31, 32, 33, 34, 35, 36] (by decide +kernel) (by decide +kernel)
set_option maxRecDepth 20000 in
theorem gX7_areNamesSingle_X7_isTakenByOther : GoodIn wsX7_areNamesSingle (wsV RX7 404 RX7 yX7_isTakenByOther wsX7_isTakenByOther) := goodIn_app (goodIn_of _ (by decide +kernel)) ggX7_areNamesSingle_X7_isTakenByOther
theorem dX7_areNamesSingle_0 : decode cX7_areNamesSingle 0 = .ok (.aload_n 0, 1) := by decide +kernel
theorem dX7_areNamesSingle_1 : decode cX7_areNamesSingle 1 = .ok (.getfield 11, 3) := by decide +kernel
theorem dX7_areNamesSingle_4 : decode cX7_areNamesSingle 4 = .ok (.astore_n 1, 1) := by decide +kernel
theorem dX7_areNamesSingle_5 : decode cX7_areNamesSingle 5 = .ok (.aload_n 1, 1) := by decide +kernel
theorem dX7_areNamesSingle_6 : decode cX7_areNamesSingle 6 = .ok (.arraylength, 1) := by decide +kernel
theorem dX7_areNamesSingle_7 : decode cX7_areNamesSingle 7 = .ok (.istore_n 2, 1) := by decide +kernel
theorem dX7_areNamesSingle_8 : decode cX7_areNamesSingle 8 = .ok (.iconst 0, 1) := by decide +kernel
theorem dX7_areNamesSingle_9 : decode cX7_areNamesSingle 9 = .ok (.istore_n 3, 1) := by decide +kernel
theorem dX7_areNamesSingle_10 : decode cX7_areNamesSingle 10 = .ok (.iload_n 3, 1) := by decide +kernel
theorem dX7_areNamesSingle_11 : decode cX7_areNamesSingle 11 = .ok (.iload_n 2, 1) := by decide +kernel
theorem dX7_areNamesSingle_12 : decode cX7_areNamesSingle 12 = .ok (.if_icmp .ge 47, 3) := by decide +kernel
theorem dX7_areNamesSingle_15 : decode cX7_areNamesSingle 15 = .ok (.aload_n 1, 1) := by decide +kernel
theorem dX7_areNamesSingle_16 : decode cX7_areNamesSingle 16 = .ok (.iload_n 3, 1) := by decide +kernel
theorem dX7_areNamesSingle_17 : decode cX7_areNamesSingle 17 = .ok (.aaload, 1) := by decide +kernel
theorem dX7_areNamesSingle_18 : decode cX7_areNamesSingle 18 = .ok (.astore 4, 2) := by decide +kernel
theorem dX7_areNamesSingle_20 : decode cX7_areNamesSingle 20 = .ok (.aload 4, 2) := by decide +kernel
theorem dX7_areNamesSingle_22 : decode cX7_areNamesSingle 22 = .ok (.invokestatic 179, 3) := by decide +kernel
theorem dX7_areNamesSingle_25 : decode cX7_areNamesSingle 25 = .ok (.ifCond .eq 28, 3) := by decide +kernel
theorem dX7_areNamesSingle_28 : decode cX7_areNamesSingle 28 = .ok (.aload 4, 2) := by decide +kernel
theorem dX7_areNamesSingle_30 : decode cX7_areNamesSingle 30 = .ok (.getfield 91, 3) := by decide +kernel
theorem dX7_areNamesSingle_33 : decode cX7_areNamesSingle 33 = .ok (.aload 4, 2) := by decide +kernel
theorem dX7_areNamesSingle_35 : decode cX7_areNamesSingle 35 = .ok (.getfield 103, 3) := by decide +kernel
theorem dX7_areNamesSingle_38 : decode cX7_areNamesSingle 38 = .ok (.lcmp, 1) := by decide +kernel
theorem dX7_areNamesSingle_39 : decode cX7_areNamesSingle 39 = .ok (.ifCond .eq 12, 3) := by decide +kernel
theorem dX7_areNamesSingle_42 : decode cX7_areNamesSingle 42 = .ok (.aload_n 0, 1) := by decide +kernel
theorem dX7_areNamesSingle_43 : decode cX7_areNamesSingle 43 = .ok (.aload 4, 2) := by decide +kernel
theorem dX7_areNamesSingle_45 : decode cX7_areNamesSingle 45 = .ok (.invokevirtual 404, 3) := by decide +kernel
theorem dX7_areNamesSingle_48 : decode cX7_areNamesSingle 48 = .ok (.ifCond .eq 5, 3) := by decide +kernel
theorem dX7_areNamesSingle_51 : decode cX7_areNamesSingle 51 = .ok (.iconst 0, 1) := by decide +kernel
theorem dX7_areNamesSingle_52 : decode cX7_areNamesSingle 52 = .ok (.ireturn, 1) := by decide +kernel
theorem dX7_areNamesSingle_53 : decode cX7_areNamesSingle 53 = .ok (.iinc 3 1, 3) := by decide +kernel
theorem dX7_areNamesSingle_56 : decode cX7_areNamesSingle 56 = .ok (.goto (-46), 3) := by decide +kernel
theorem dX7_areNamesSingle_59 : decode cX7_areNamesSingle 59 = .ok (.iconst 1, 1) := by decide +kernel
theorem dX7_areNamesSingle_60 : decode cX7_areNamesSingle 60 = .ok (.ireturn, 1) := by decide +kernel
set_option maxRecDepth 20000 in
theorem ggX7_isTakenByOther_X7_isStanding : GoodIn wsX7_isTakenByOther wsX7_isStanding := goodIn_r _ [7, 8, 25, 26, 27, 28, 29, 30, 31, 32] (by decide +kernel) (by decide +kernel)
set_option maxRecDepth 20000 in
theorem gX7_isTakenByOther_X7_isStanding : GoodIn wsX7_isTakenByOther (va_wsS RX7 179 yX7_isStanding wsX7_isStanding) := goodIn_app (goodIn_of _ (by decide +kernel)) ggX7_isTakenByOther_X7_isStanding
set_option maxRecDepth 20000 in
theorem ggX7_isTakenByOther_X6_hasName : GoodIn wsX7_isTakenByOther wsX6_hasName := goodIn_r _ [13, 14, 15, 25, 26, 27, 28, 29, 30, 31, 32] (by decide +kernel) (by decide +kernel)
set_option maxRecDepth 20000 in
theorem gX7_isTakenByOther_X6_hasName : GoodIn wsX7_isTakenByOther (wsV RX7 349 RX6 yX6_hasName wsX6_hasName) := goodIn_app (goodIn_of _ (by decide +kernel)) ggX7_isTakenByOther_X6_hasName
theorem dX7_isTakenByOther_0 : decode cX7_isTakenByOther 0 = .ok (.aload_n 0, 1) := by decide +kernel
theorem dX7_isTakenByOther_1 : decode cX7_isTakenByOther 1 = .ok (.getfield 11, 3) := by decide +kernel
theorem dX7_isTakenByOther_4 : decode cX7_isTakenByOther 4 = .ok (.astore_n 2, 1) := by decide +kernel
theorem dX7_isTakenByOther_5 : decode cX7_isTakenByOther 5 = .ok (.aload_n 2, 1) := by decide +kernel
theorem dX7_isTakenByOther_6 : decode cX7_isTakenByOther 6 = .ok (.arraylength, 1) := by decide +kernel
theorem dX7_isTakenByOther_7 : decode cX7_isTakenByOther 7 = .ok (.istore_n 3, 1) := by decide +kernel
theorem dX7_isTakenByOther_8 : decode cX7_isTakenByOther 8 = .ok (.iconst 0, 1) := by decide +kernel
theorem dX7_isTakenByOther_9 : decode cX7_isTakenByOther 9 = .ok (.istore 4, 2) := by decide +kernel
theorem dX7_isTakenByOther_11 : decode cX7_isTakenByOther 11 = .ok (.iload 4, 2) := by decide +kernel
theorem dX7_isTakenByOther_13 : decode cX7_isTakenByOther 13 = .ok (.iload_n 3, 1) := by decide +kernel
theorem dX7_isTakenByOther_14 : decode cX7_isTakenByOther 14 = .ok (.if_icmp .ge 55, 3) := by decide +kernel
theorem dX7_isTakenByOther_17 : decode cX7_isTakenByOther 17 = .ok (.aload_n 2, 1) := by decide +kernel
theorem dX7_isTakenByOther_18 : decode cX7_isTakenByOther 18 = .ok (.iload 4, 2) := by decide +kernel
theorem dX7_isTakenByOther_20 : decode cX7_isTakenByOther 20 = .ok (.aaload, 1) := by decide +kernel
theorem dX7_isTakenByOther_21 : decode cX7_isTakenByOther 21 = .ok (.astore 5, 2) := by decide +kernel
theorem dX7_isTakenByOther_23 : decode cX7_isTakenByOther 23 = .ok (.aload 5, 2) := by decide +kernel
theorem dX7_isTakenByOther_25 : decode cX7_isTakenByOther 25 = .ok (.invokestatic 179, 3) := by decide +kernel
theorem dX7_isTakenByOther_28 : decode cX7_isTakenByOther 28 = .ok (.ifCond .eq 35, 3) := by decide +kernel
theorem dX7_isTakenByOther_31 : decode cX7_isTakenByOther 31 = .ok (.aload 5, 2) := by decide +kernel
theorem dX7_isTakenByOther_33 : decode cX7_isTakenByOther 33 = .ok (.aload_n 1, 1) := by decide +kernel
theorem dX7_isTakenByOther_34 : decode cX7_isTakenByOther 34 = .ok (.if_acmp .eq 29, 3) := by decide +kernel
theorem dX7_isTakenByOther_37 : decode cX7_isTakenByOther 37 = .ok (.aload 5, 2) := by decide +kernel
theorem dX7_isTakenByOther_39 : decode cX7_isTakenByOther 39 = .ok (.aload_n 1, 1) := by decide +kernel
theorem dX7_isTakenByOther_40 : decode cX7_isTakenByOther 40 = .ok (.getfield 91, 3) := by decide +kernel
theorem dX7_isTakenByOther_43 : decode cX7_isTakenByOther 43 = .ok (.invokevirtual 349, 3) := by decide +kernel
theorem dX7_isTakenByOther_46 : decode cX7_isTakenByOther 46 = .ok (.ifCond .ne 15, 3) := by decide +kernel
theorem dX7_isTakenByOther_49 : decode cX7_isTakenByOther 49 = .ok (.aload 5, 2) := by decide +kernel
theorem dX7_isTakenByOther_51 : decode cX7_isTakenByOther 51 = .ok (.aload_n 1, 1) := by decide +kernel
theorem dX7_isTakenByOther_52 : decode cX7_isTakenByOther 52 = .ok (.getfield 103, 3) := by decide +kernel
theorem dX7_isTakenByOther_55 : decode cX7_isTakenByOther 55 = .ok (.invokevirtual 349, 3) := by decide +kernel
theorem dX7_isTakenByOther_58 : decode cX7_isTakenByOther 58 = .ok (.ifCond .eq 5, 3) := by decide +kernel
theorem dX7_isTakenByOther_61 : decode cX7_isTakenByOther 61 = .ok (.iconst 1, 1) := by decide +kernel
theorem dX7_isTakenByOther_62 : decode cX7_isTakenByOther 62 = .ok (.ireturn, 1) := by decide +kernel
theorem dX7_isTakenByOther_63 : decode cX7_isTakenByOther 63 = .ok (.iinc 4 1, 3) := by decide +kernel
theorem dX7_isTakenByOther_66 : decode cX7_isTakenByOther 66 = .ok (.goto (-55), 3) := by decide +kernel
theorem dX7_isTakenByOther_69 : decode cX7_isTakenByOther 69 = .ok (.iconst 0, 1) := by decide +kernel
theorem dX7_isTakenByOther_70 : decode cX7_isTakenByOther 70 = .ok (.ireturn, 1) := by decide +kernel
set_option maxRecDepth 20000 in
theorem ggX7_areLeadsEnding_X7_endOf : GoodIn wsX7_areLeadsEnding wsX7_endOf := goodIn_r _ [6, 2, 7, 17, 18, 19, 20, 21] (by decide +kernel) (by decide +kernel)
set_option maxRecDepth 20000 in
theorem gX7_areLeadsEnding_X7_endOf : GoodIn wsX7_areLeadsEnding (va_wsS RX7 281 yX7_endOf wsX7_endOf) := goodIn_app (goodIn_of _ (by decide +kernel)) ggX7_areLeadsEnding_X7_endOf
theorem dX7_areLeadsEnding_0 : decode cX7_areLeadsEnding 0 = .ok (.aload_n 0, 1) := by decide +kernel
theorem dX7_areLeadsEnding_1 : decode cX7_areLeadsEnding 1 = .ok (.getfield 17, 3) := by decide +kernel
theorem dX7_areLeadsEnding_4 : decode cX7_areLeadsEnding 4 = .ok (.astore_n 1, 1) := by decide +kernel
theorem dX7_areLeadsEnding_5 : decode cX7_areLeadsEnding 5 = .ok (.aload_n 1, 1) := by decide +kernel
theorem dX7_areLeadsEnding_6 : decode cX7_areLeadsEnding 6 = .ok (.arraylength, 1) := by decide +kernel
theorem dX7_areLeadsEnding_7 : decode cX7_areLeadsEnding 7 = .ok (.istore_n 2, 1) := by decide +kernel
theorem dX7_areLeadsEnding_8 : decode cX7_areLeadsEnding 8 = .ok (.iconst 0, 1) := by decide +kernel
theorem dX7_areLeadsEnding_9 : decode cX7_areLeadsEnding 9 = .ok (.istore_n 3, 1) := by decide +kernel
theorem dX7_areLeadsEnding_10 : decode cX7_areLeadsEnding 10 = .ok (.iload_n 3, 1) := by decide +kernel
theorem dX7_areLeadsEnding_11 : decode cX7_areLeadsEnding 11 = .ok (.iload_n 2, 1) := by decide +kernel
theorem dX7_areLeadsEnding_12 : decode cX7_areLeadsEnding 12 = .ok (.if_icmp .ge 36, 3) := by decide +kernel
theorem dX7_areLeadsEnding_15 : decode cX7_areLeadsEnding 15 = .ok (.aload_n 1, 1) := by decide +kernel
theorem dX7_areLeadsEnding_16 : decode cX7_areLeadsEnding 16 = .ok (.iload_n 3, 1) := by decide +kernel
theorem dX7_areLeadsEnding_17 : decode cX7_areLeadsEnding 17 = .ok (.aaload, 1) := by decide +kernel
theorem dX7_areLeadsEnding_18 : decode cX7_areLeadsEnding 18 = .ok (.astore 4, 2) := by decide +kernel
theorem dX7_areLeadsEnding_20 : decode cX7_areLeadsEnding 20 = .ok (.aload 4, 2) := by decide +kernel
theorem dX7_areLeadsEnding_22 : decode cX7_areLeadsEnding 22 = .ok (.invokestatic 281, 3) := by decide +kernel
theorem dX7_areLeadsEnding_25 : decode cX7_areLeadsEnding 25 = .ok (.astore 5, 2) := by decide +kernel
theorem dX7_areLeadsEnding_27 : decode cX7_areLeadsEnding 27 = .ok (.aload 5, 2) := by decide +kernel
theorem dX7_areLeadsEnding_29 : decode cX7_areLeadsEnding 29 = .ok (.ifnull 13, 3) := by decide +kernel
theorem dX7_areLeadsEnding_32 : decode cX7_areLeadsEnding 32 = .ok (.aload 5, 2) := by decide +kernel
theorem dX7_areLeadsEnding_34 : decode cX7_areLeadsEnding 34 = .ok (.getfield 213, 3) := by decide +kernel
theorem dX7_areLeadsEnding_37 : decode cX7_areLeadsEnding 37 = .ok (.ifCond .eq 5, 3) := by decide +kernel
theorem dX7_areLeadsEnding_40 : decode cX7_areLeadsEnding 40 = .ok (.iconst 0, 1) := by decide +kernel
theorem dX7_areLeadsEnding_41 : decode cX7_areLeadsEnding 41 = .ok (.ireturn, 1) := by decide +kernel
theorem dX7_areLeadsEnding_42 : decode cX7_areLeadsEnding 42 = .ok (.iinc 3 1, 3) := by decide +kernel
theorem dX7_areLeadsEnding_45 : decode cX7_areLeadsEnding 45 = .ok (.goto (-35), 3) := by decide +kernel
theorem dX7_areLeadsEnding_48 : decode cX7_areLeadsEnding 48 = .ok (.iconst 1, 1) := by decide +kernel
theorem dX7_areLeadsEnding_49 : decode cX7_areLeadsEnding 49 = .ok (.ireturn, 1) := by decide +kernel
theorem dX8_init_0 : decode cX8_init 0 = .ok (.aload_n 0, 1) := by decide +kernel
theorem dX8_init_1 : decode cX8_init 1 = .ok (.invokespecial 1, 3) := by decide +kernel
theorem dX8_init_4 : decode cX8_init 4 = .ok (.aload_n 0, 1) := by decide +kernel
theorem dX8_init_5 : decode cX8_init 5 = .ok (.bipush 12, 2) := by decide +kernel
theorem dX8_init_7 : decode cX8_init 7 = .ok (.newarray .long, 2) := by decide +kernel
theorem dX8_init_9 : decode cX8_init 9 = .ok (.putfield 7, 3) := by decide +kernel
theorem dX8_init_12 : decode cX8_init 12 = .ok (.aload_n 0, 1) := by decide +kernel
theorem dX8_init_13 : decode cX8_init 13 = .ok (.bipush 12, 2) := by decide +kernel
theorem dX8_init_15 : decode cX8_init 15 = .ok (.newarray .long, 2) := by decide +kernel
theorem dX8_init_17 : decode cX8_init 17 = .ok (.putfield 13, 3) := by decide +kernel
theorem dX8_init_20 : decode cX8_init 20 = .ok (.aload_n 0, 1) := by decide +kernel
theorem dX8_init_21 : decode cX8_init 21 = .ok (.bipush 12, 2) := by decide +kernel
theorem dX8_init_23 : decode cX8_init 23 = .ok (.newarray .int, 2) := by decide +kernel
theorem dX8_init_25 : decode cX8_init 25 = .ok (.putfield 16, 3) := by decide +kernel
theorem dX8_init_28 : decode cX8_init 28 = .ok (.aload_n 0, 1) := by decide +kernel
theorem dX8_init_29 : decode cX8_init 29 = .ok (.bipush 12, 2) := by decide +kernel
theorem dX8_init_31 : decode cX8_init 31 = .ok (.newarray .char, 2) := by decide +kernel
theorem dX8_init_33 : decode cX8_init 33 = .ok (.putfield 20, 3) := by decide +kernel
theorem dX8_init_36 : decode cX8_init 36 = .ok (.aload_n 0, 1) := by decide +kernel
theorem dX8_init_37 : decode cX8_init 37 = .ok (.bipush 12, 2) := by decide +kernel
theorem dX8_init_39 : decode cX8_init 39 = .ok (.newarray .boolean, 2) := by decide +kernel
theorem dX8_init_41 : decode cX8_init 41 = .ok (.putfield 24, 3) := by decide +kernel
theorem dX8_init_44 : decode cX8_init 44 = .ok (.aload_n 0, 1) := by decide +kernel
theorem dX8_init_45 : decode cX8_init 45 = .ok (.bipush 12, 2) := by decide +kernel
theorem dX8_init_47 : decode cX8_init 47 = .ok (.newarray .boolean, 2) := by decide +kernel
theorem dX8_init_49 : decode cX8_init 49 = .ok (.putfield 28, 3) := by decide +kernel
theorem dX8_init_52 : decode cX8_init 52 = .ok (.aload_n 0, 1) := by decide +kernel
theorem dX8_init_53 : decode cX8_init 53 = .ok (.bipush 12, 2) := by decide +kernel
theorem dX8_init_55 : decode cX8_init 55 = .ok (.newarray .int, 2) := by decide +kernel
theorem dX8_init_57 : decode cX8_init 57 = .ok (.putfield 31, 3) := by decide +kernel
theorem dX8_init_60 : decode cX8_init 60 = .ok (.aload_n 0, 1) := by decide +kernel
theorem dX8_init_61 : decode cX8_init 61 = .ok (.bipush 80, 2) := by decide +kernel
theorem dX8_init_63 : decode cX8_init 63 = .ok (.newarray .int, 2) := by decide +kernel
theorem dX8_init_65 : decode cX8_init 65 = .ok (.putfield 34, 3) := by decide +kernel
theorem dX8_init_68 : decode cX8_init 68 = .ok (.aload_n 0, 1) := by decide +kernel
theorem dX8_init_69 : decode cX8_init 69 = .ok (.bipush 80, 2) := by decide +kernel
theorem dX8_init_71 : decode cX8_init 71 = .ok (.newarray .int, 2) := by decide +kernel
theorem dX8_init_73 : decode cX8_init 73 = .ok (.putfield 37, 3) := by decide +kernel
theorem dX8_init_76 : decode cX8_init 76 = .ok (.aload_n 0, 1) := by decide +kernel
theorem dX8_init_77 : decode cX8_init 77 = .ok (.bipush 80, 2) := by decide +kernel
theorem dX8_init_79 : decode cX8_init 79 = .ok (.newarray .char, 2) := by decide +kernel
theorem dX8_init_81 : decode cX8_init 81 = .ok (.putfield 40, 3) := by decide +kernel
theorem dX8_init_84 : decode cX8_init 84 = .ok (.aload_n 0, 1) := by decide +kernel
theorem dX8_init_85 : decode cX8_init 85 = .ok (.bipush 80, 2) := by decide +kernel
theorem dX8_init_87 : decode cX8_init 87 = .ok (.newarray .int, 2) := by decide +kernel
theorem dX8_init_89 : decode cX8_init 89 = .ok (.putfield 43, 3) := by decide +kernel
theorem dX8_init_92 : decode cX8_init 92 = .ok (.aload_n 0, 1) := by decide +kernel
theorem dX8_init_93 : decode cX8_init 93 = .ok (.bipush 40, 2) := by decide +kernel
theorem dX8_init_95 : decode cX8_init 95 = .ok (.newarray .boolean, 2) := by decide +kernel
theorem dX8_init_97 : decode cX8_init 97 = .ok (.putfield 46, 3) := by decide +kernel
theorem dX8_init_100 : decode cX8_init 100 = .ok (.aload_n 0, 1) := by decide +kernel
theorem dX8_init_101 : decode cX8_init 101 = .ok (.bipush 40, 2) := by decide +kernel
theorem dX8_init_103 : decode cX8_init 103 = .ok (.newarray .int, 2) := by decide +kernel
theorem dX8_init_105 : decode cX8_init 105 = .ok (.putfield 49, 3) := by decide +kernel
theorem dX8_init_108 : decode cX8_init 108 = .ok (.aload_n 0, 1) := by decide +kernel
theorem dX8_init_109 : decode cX8_init 109 = .ok (.sipush 200, 3) := by decide +kernel
theorem dX8_init_112 : decode cX8_init 112 = .ok (.newarray .long, 2) := by decide +kernel
theorem dX8_init_114 : decode cX8_init 114 = .ok (.putfield 52, 3) := by decide +kernel
theorem dX8_init_117 : decode cX8_init 117 = .ok (.aload_n 0, 1) := by decide +kernel
theorem dX8_init_118 : decode cX8_init 118 = .ok (.sipush 200, 3) := by decide +kernel
theorem dX8_init_121 : decode cX8_init 121 = .ok (.newarray .int, 2) := by decide +kernel
theorem dX8_init_123 : decode cX8_init 123 = .ok (.putfield 55, 3) := by decide +kernel
theorem dX8_init_126 : decode cX8_init 126 = .ok (.aload_n 0, 1) := by decide +kernel
theorem dX8_init_127 : decode cX8_init 127 = .ok (.sipush 200, 3) := by decide +kernel
theorem dX8_init_130 : decode cX8_init 130 = .ok (.newarray .int, 2) := by decide +kernel
theorem dX8_init_132 : decode cX8_init 132 = .ok (.putfield 58, 3) := by decide +kernel
theorem dX8_init_135 : decode cX8_init 135 = .ok (.aload_n 0, 1) := by decide +kernel
theorem dX8_init_136 : decode cX8_init 136 = .ok (.sipush 200, 3) := by decide +kernel
theorem dX8_init_139 : decode cX8_init 139 = .ok (.newarray .int, 2) := by decide +kernel
theorem dX8_init_141 : decode cX8_init 141 = .ok (.putfield 61, 3) := by decide +kernel
theorem dX8_init_144 : decode cX8_init 144 = .ok (.aload_n 0, 1) := by decide +kernel
theorem dX8_init_145 : decode cX8_init 145 = .ok (.bipush 80, 2) := by decide +kernel
theorem dX8_init_147 : decode cX8_init 147 = .ok (.newarray .int, 2) := by decide +kernel
theorem dX8_init_149 : decode cX8_init 149 = .ok (.putfield 64, 3) := by decide +kernel
theorem dX8_init_152 : decode cX8_init 152 = .ok (.aload_n 0, 1) := by decide +kernel
theorem dX8_init_153 : decode cX8_init 153 = .ok (.bipush 80, 2) := by decide +kernel
theorem dX8_init_155 : decode cX8_init 155 = .ok (.newarray .int, 2) := by decide +kernel
theorem dX8_init_157 : decode cX8_init 157 = .ok (.putfield 67, 3) := by decide +kernel
theorem dX8_init_160 : decode cX8_init 160 = .ok (.aload_n 0, 1) := by decide +kernel
theorem dX8_init_161 : decode cX8_init 161 = .ok (.bipush 80, 2) := by decide +kernel
theorem dX8_init_163 : decode cX8_init 163 = .ok (.newarray .char, 2) := by decide +kernel
theorem dX8_init_165 : decode cX8_init 165 = .ok (.putfield 70, 3) := by decide +kernel
theorem dX8_init_168 : decode cX8_init 168 = .ok (.aload_n 0, 1) := by decide +kernel
theorem dX8_init_169 : decode cX8_init 169 = .ok (.bipush 80, 2) := by decide +kernel
theorem dX8_init_171 : decode cX8_init 171 = .ok (.newarray .int, 2) := by decide +kernel
theorem dX8_init_173 : decode cX8_init 173 = .ok (.putfield 73, 3) := by decide +kernel
theorem dX8_init_176 : decode cX8_init 176 = .ok (.aload_n 0, 1) := by decide +kernel
theorem dX8_init_177 : decode cX8_init 177 = .ok (.bipush 40, 2) := by decide +kernel
theorem dX8_init_179 : decode cX8_init 179 = .ok (.newarray .int, 2) := by decide +kernel
theorem dX8_init_181 : decode cX8_init 181 = .ok (.putfield 76, 3) := by decide +kernel
theorem dX8_init_184 : decode cX8_init 184 = .ok (.iconst 0, 1) := by decide +kernel
theorem dX8_init_185 : decode cX8_init 185 = .ok (.istore_n 1, 1) := by decide +kernel
theorem dX8_init_186 : decode cX8_init 186 = .ok (.iload_n 1, 1) := by decide +kernel
theorem dX8_init_187 : decode cX8_init 187 = .ok (.bipush 80, 2) := by decide +kernel
theorem dX8_init_189 : decode cX8_init 189 = .ok (.if_icmp .ge 23, 3) := by decide +kernel
theorem dX8_init_192 : decode cX8_init 192 = .ok (.aload_n 0, 1) := by decide +kernel
theorem dX8_init_193 : decode cX8_init 193 = .ok (.getfield 34, 3) := by decide +kernel
theorem dX8_init_196 : decode cX8_init 196 = .ok (.iload_n 1, 1) := by decide +kernel
theorem dX8_init_197 : decode cX8_init 197 = .ok (.iconst (-1), 1) := by decide +kernel
theorem dX8_init_198 : decode cX8_init 198 = .ok (.iastore, 1) := by decide +kernel
theorem dX8_init_199 : decode cX8_init 199 = .ok (.aload_n 0, 1) := by decide +kernel
theorem dX8_init_200 : decode cX8_init 200 = .ok (.getfield 43, 3) := by decide +kernel
theorem dX8_init_203 : decode cX8_init 203 = .ok (.iload_n 1, 1) := by decide +kernel
theorem dX8_init_204 : decode cX8_init 204 = .ok (.iconst (-1), 1) := by decide +kernel
theorem dX8_init_205 : decode cX8_init 205 = .ok (.iastore, 1) := by decide +kernel
theorem dX8_init_206 : decode cX8_init 206 = .ok (.iinc 1 1, 3) := by decide +kernel
theorem dX8_init_209 : decode cX8_init 209 = .ok (.goto (-23), 3) := by decide +kernel
theorem dX8_init_212 : decode cX8_init 212 = .ok (.return_, 1) := by decide +kernel
theorem dX8_thrown_0 : decode cX8_thrown 0 = .ok (.aload_n 0, 1) := by decide +kernel
theorem dX8_thrown_1 : decode cX8_thrown 1 = .ok (.getfield 79, 3) := by decide +kernel
theorem dX8_thrown_4 : decode cX8_thrown 4 = .ok (.ireturn, 1) := by decide +kernel
theorem dX8_no_0 : decode cX8_no 0 = .ok (.aload_n 0, 1) := by decide +kernel
theorem dX8_no_1 : decode cX8_no 1 = .ok (.iload_n 1, 1) := by decide +kernel
theorem dX8_no_2 : decode cX8_no 2 = .ok (.ifCond .eq 7, 3) := by decide +kernel
theorem dX8_no_5 : decode cX8_no 5 = .ok (.iconst 0, 1) := by decide +kernel
theorem dX8_no_6 : decode cX8_no 6 = .ok (.goto 4, 3) := by decide +kernel
theorem dX8_no_9 : decode cX8_no 9 = .ok (.iload_n 2, 1) := by decide +kernel
theorem dX8_no_10 : decode cX8_no 10 = .ok (.putfield 79, 3) := by decide +kernel
theorem dX8_no_13 : decode cX8_no 13 = .ok (.iload_n 1, 1) := by decide +kernel
theorem dX8_no_14 : decode cX8_no 14 = .ok (.ifCond .ne 7, 3) := by decide +kernel
theorem dX8_no_17 : decode cX8_no 17 = .ok (.iconst 1, 1) := by decide +kernel
theorem dX8_no_18 : decode cX8_no 18 = .ok (.goto 4, 3) := by decide +kernel
theorem dX8_no_21 : decode cX8_no 21 = .ok (.iconst 0, 1) := by decide +kernel
theorem dX8_no_22 : decode cX8_no 22 = .ok (.ireturn, 1) := by decide +kernel
theorem dX8_isBetween_0 : decode cX8_isBetween 0 = .ok (.iload_n 0, 1) := by decide +kernel
theorem dX8_isBetween_1 : decode cX8_isBetween 1 = .ok (.iload_n 1, 1) := by decide +kernel
theorem dX8_isBetween_2 : decode cX8_isBetween 2 = .ok (.if_icmp .lt 12, 3) := by decide +kernel
theorem dX8_isBetween_5 : decode cX8_isBetween 5 = .ok (.iload_n 0, 1) := by decide +kernel
theorem dX8_isBetween_6 : decode cX8_isBetween 6 = .ok (.iload_n 2, 1) := by decide +kernel
theorem dX8_isBetween_7 : decode cX8_isBetween 7 = .ok (.if_icmp .gt 7, 3) := by decide +kernel
theorem dX8_isBetween_10 : decode cX8_isBetween 10 = .ok (.iconst 1, 1) := by decide +kernel
theorem dX8_isBetween_11 : decode cX8_isBetween 11 = .ok (.goto 4, 3) := by decide +kernel
theorem dX8_isBetween_14 : decode cX8_isBetween 14 = .ok (.iconst 0, 1) := by decide +kernel
theorem dX8_isBetween_15 : decode cX8_isBetween 15 = .ok (.ireturn, 1) := by decide +kernel
set_option maxRecDepth 20000 in
theorem ggX8_isStreet_X8_isBetween : GoodIn wsX8_isStreet wsX8_isBetween := goodIn_r _ [6] (by decide +kernel) (by decide +kernel)
set_option maxRecDepth 20000 in
theorem gX8_isStreet_X8_isBetween : GoodIn wsX8_isStreet (va_wsS RX8 86 yX8_isBetween wsX8_isBetween) := goodIn_app (goodIn_of _ (by decide +kernel)) ggX8_isStreet_X8_isBetween
theorem dX8_isStreet_0 : decode cX8_isStreet 0 = .ok (.iload_n 1, 1) := by decide +kernel
theorem dX8_isStreet_1 : decode cX8_isStreet 1 = .ok (.iconst 0, 1) := by decide +kernel
theorem dX8_isStreet_2 : decode cX8_isStreet 2 = .ok (.aload_n 0, 1) := by decide +kernel
theorem dX8_isStreet_3 : decode cX8_isStreet 3 = .ok (.getfield 83, 3) := by decide +kernel
theorem dX8_isStreet_6 : decode cX8_isStreet 6 = .ok (.iconst 1, 1) := by decide +kernel
theorem dX8_isStreet_7 : decode cX8_isStreet 7 = .ok (.isub, 1) := by decide +kernel
theorem dX8_isStreet_8 : decode cX8_isStreet 8 = .ok (.invokestatic 86, 3) := by decide +kernel
theorem dX8_isStreet_11 : decode cX8_isStreet 11 = .ok (.ifCond .eq 16, 3) := by decide +kernel
theorem dX8_isStreet_14 : decode cX8_isStreet 14 = .ok (.aload_n 0, 1) := by decide +kernel
theorem dX8_isStreet_15 : decode cX8_isStreet 15 = .ok (.getfield 28, 3) := by decide +kernel
theorem dX8_isStreet_18 : decode cX8_isStreet 18 = .ok (.iload_n 1, 1) := by decide +kernel
theorem dX8_isStreet_19 : decode cX8_isStreet 19 = .ok (.baload, 1) := by decide +kernel
theorem dX8_isStreet_20 : decode cX8_isStreet 20 = .ok (.ifCond .ne 7, 3) := by decide +kernel
theorem dX8_isStreet_23 : decode cX8_isStreet 23 = .ok (.iconst 1, 1) := by decide +kernel
theorem dX8_isStreet_24 : decode cX8_isStreet 24 = .ok (.goto 4, 3) := by decide +kernel
theorem dX8_isStreet_27 : decode cX8_isStreet 27 = .ok (.iconst 0, 1) := by decide +kernel
theorem dX8_isStreet_28 : decode cX8_isStreet 28 = .ok (.ireturn, 1) := by decide +kernel
set_option maxRecDepth 20000 in
theorem ggX8_isDoor_X8_isBetween : GoodIn wsX8_isDoor wsX8_isBetween := goodIn_r _ [5] (by decide +kernel) (by decide +kernel)
set_option maxRecDepth 20000 in
theorem gX8_isDoor_X8_isBetween : GoodIn wsX8_isDoor (va_wsS RX8 86 yX8_isBetween wsX8_isBetween) := goodIn_app (goodIn_of _ (by decide +kernel)) ggX8_isDoor_X8_isBetween
theorem dX8_isDoor_0 : decode cX8_isDoor 0 = .ok (.iload_n 1, 1) := by decide +kernel
theorem dX8_isDoor_1 : decode cX8_isDoor 1 = .ok (.iconst 0, 1) := by decide +kernel
theorem dX8_isDoor_2 : decode cX8_isDoor 2 = .ok (.aload_n 0, 1) := by decide +kernel
theorem dX8_isDoor_3 : decode cX8_isDoor 3 = .ok (.getfield 90, 3) := by decide +kernel
theorem dX8_isDoor_6 : decode cX8_isDoor 6 = .ok (.iconst 1, 1) := by decide +kernel
theorem dX8_isDoor_7 : decode cX8_isDoor 7 = .ok (.isub, 1) := by decide +kernel
theorem dX8_isDoor_8 : decode cX8_isDoor 8 = .ok (.invokestatic 86, 3) := by decide +kernel
theorem dX8_isDoor_11 : decode cX8_isDoor 11 = .ok (.ireturn, 1) := by decide +kernel
theorem dX8_isWay_0 : decode cX8_isWay 0 = .ok (.iload_n 0, 1) := by decide +kernel
theorem dX8_isWay_1 : decode cX8_isWay 1 = .ok (.bipush 115, 2) := by decide +kernel
theorem dX8_isWay_3 : decode cX8_isWay 3 = .ok (.if_icmp .eq 15, 3) := by decide +kernel
theorem dX8_isWay_6 : decode cX8_isWay 6 = .ok (.iload_n 0, 1) := by decide +kernel
theorem dX8_isWay_7 : decode cX8_isWay 7 = .ok (.bipush 109, 2) := by decide +kernel
theorem dX8_isWay_9 : decode cX8_isWay 9 = .ok (.if_icmp .eq 9, 3) := by decide +kernel
theorem dX8_isWay_12 : decode cX8_isWay 12 = .ok (.iload_n 0, 1) := by decide +kernel
theorem dX8_isWay_13 : decode cX8_isWay 13 = .ok (.bipush 121, 2) := by decide +kernel
theorem dX8_isWay_15 : decode cX8_isWay 15 = .ok (.if_icmp .ne 7, 3) := by decide +kernel
theorem dX8_isWay_18 : decode cX8_isWay 18 = .ok (.iconst 1, 1) := by decide +kernel
theorem dX8_isWay_19 : decode cX8_isWay 19 = .ok (.goto 4, 3) := by decide +kernel
theorem dX8_isWay_22 : decode cX8_isWay 22 = .ok (.iconst 0, 1) := by decide +kernel
theorem dX8_isWay_23 : decode cX8_isWay 23 = .ok (.ireturn, 1) := by decide +kernel
set_option maxRecDepth 20000 in
theorem ggX8_type_X8_no : GoodIn wsX8_type wsX8_no := goodIn_r _ [8, 9, 10, 11, 12, 13, 14, 15, 16, 17, 18, 19, 20, 21, 22, 23, 24, 25, 26, 27, 28, 29, 30, 31, 32, 33, 34, 35, 36, 37, 38, 39] (by decide +kernel) (by decide +kernel)
set_option maxRecDepth 20000 in
theorem gX8_type_X8_no : GoodIn wsX8_type (wsV RX8 93 RX8 yX8_no wsX8_no) := goodIn_app (goodIn_of _ (by decide +kernel)) ggX8_type_X8_no
theorem dX8_type_0 : decode cX8_type 0 = .ok (.aload_n 0, 1) := by decide +kernel
theorem dX8_type_1 : decode cX8_type 1 = .ok (.iload_n 1, 1) := by decide +kernel
theorem dX8_type_2 : decode cX8_type 2 = .ok (.bipush 97, 2) := by decide +kernel
theorem dX8_type_4 : decode cX8_type 4 = .ok (.if_icmp .lt 13, 3) := by decide +kernel
theorem dX8_type_7 : decode cX8_type 7 = .ok (.iload_n 1, 1) := by decide +kernel
theorem dX8_type_8 : decode cX8_type 8 = .ok (.bipush 122, 2) := by decide +kernel
theorem dX8_type_10 : decode cX8_type 10 = .ok (.if_icmp .gt 7, 3) := by decide +kernel
theorem dX8_type_13 : decode cX8_type 13 = .ok (.iconst 1, 1) := by decide +kernel
theorem dX8_type_14 : decode cX8_type 14 = .ok (.goto 4, 3) := by decide +kernel
theorem dX8_type_17 : decode cX8_type 17 = .ok (.iconst 0, 1) := by decide +kernel
theorem dX8_type_18 : decode cX8_type 18 = .ok (.iconst 1, 1) := by decide +kernel
theorem dX8_type_19 : decode cX8_type 19 = .ok (.invokevirtual 93, 3) := by decide +kernel
theorem dX8_type_22 : decode cX8_type 22 = .ok (.ifCond .ne 25, 3) := by decide +kernel
theorem dX8_type_25 : decode cX8_type 25 = .ok (.aload_n 0, 1) := by decide +kernel
theorem dX8_type_26 : decode cX8_type 26 = .ok (.aload_n 0, 1) := by decide +kernel
theorem dX8_type_27 : decode cX8_type 27 = .ok (.getfield 97, 3) := by decide +kernel
theorem dX8_type_30 : decode cX8_type 30 = .ok (.bipush 7, 2) := by decide +kernel
theorem dX8_type_32 : decode cX8_type 32 = .ok (.if_icmp .ge 7, 3) := by decide +kernel
theorem dX8_type_35 : decode cX8_type 35 = .ok (.iconst 1, 1) := by decide +kernel
theorem dX8_type_36 : decode cX8_type 36 = .ok (.goto 4, 3) := by decide +kernel
theorem dX8_type_39 : decode cX8_type 39 = .ok (.iconst 0, 1) := by decide +kernel
theorem dX8_type_40 : decode cX8_type 40 = .ok (.iconst 2, 1) := by decide +kernel
theorem dX8_type_41 : decode cX8_type 41 = .ok (.invokevirtual 93, 3) := by decide +kernel
theorem dX8_type_44 : decode cX8_type 44 = .ok (.ifCond .eq 5, 3) := by decide +kernel
theorem dX8_type_47 : decode cX8_type 47 = .ok (.iconst 0, 1) := by decide +kernel
theorem dX8_type_48 : decode cX8_type 48 = .ok (.ireturn, 1) := by decide +kernel
theorem dX8_type_49 : decode cX8_type 49 = .ok (.aload_n 0, 1) := by decide +kernel
theorem dX8_type_50 : decode cX8_type 50 = .ok (.ldc2_w 100, 3) := by decide +kernel
theorem dX8_type_53 : decode cX8_type 53 = .ok (.aload_n 0, 1) := by decide +kernel
theorem dX8_type_54 : decode cX8_type 54 = .ok (.getfield 102, 3) := by decide +kernel
theorem dX8_type_57 : decode cX8_type 57 = .ok (.lmul, 1) := by decide +kernel
theorem dX8_type_58 : decode cX8_type 58 = .ok (.iload_n 1, 1) := by decide +kernel
theorem dX8_type_59 : decode cX8_type 59 = .ok (.bipush 97, 2) := by decide +kernel
theorem dX8_type_61 : decode cX8_type 61 = .ok (.isub, 1) := by decide +kernel
theorem dX8_type_62 : decode cX8_type 62 = .ok (.iconst 1, 1) := by decide +kernel
theorem dX8_type_63 : decode cX8_type 63 = .ok (.iadd, 1) := by decide +kernel
theorem dX8_type_64 : decode cX8_type 64 = .ok (.i2l, 1) := by decide +kernel
theorem dX8_type_65 : decode cX8_type 65 = .ok (.ladd, 1) := by decide +kernel
theorem dX8_type_66 : decode cX8_type 66 = .ok (.putfield 102, 3) := by decide +kernel
theorem dX8_type_69 : decode cX8_type 69 = .ok (.aload_n 0, 1) := by decide +kernel
theorem dX8_type_70 : decode cX8_type 70 = .ok (.dup, 1) := by decide +kernel
theorem dX8_type_71 : decode cX8_type 71 = .ok (.getfield 97, 3) := by decide +kernel
theorem dX8_type_74 : decode cX8_type 74 = .ok (.iconst 1, 1) := by decide +kernel
theorem dX8_type_75 : decode cX8_type 75 = .ok (.iadd, 1) := by decide +kernel
theorem dX8_type_76 : decode cX8_type 76 = .ok (.putfield 97, 3) := by decide +kernel
theorem dX8_type_79 : decode cX8_type 79 = .ok (.aload_n 0, 1) := by decide +kernel
theorem dX8_type_80 : decode cX8_type 80 = .ok (.getfield 97, 3) := by decide +kernel
theorem dX8_type_83 : decode cX8_type 83 = .ok (.ireturn, 1) := by decide +kernel
theorem dX8_wipe_0 : decode cX8_wipe 0 = .ok (.aload_n 0, 1) := by decide +kernel
theorem dX8_wipe_1 : decode cX8_wipe 1 = .ok (.getfield 97, 3) := by decide +kernel
theorem dX8_wipe_4 : decode cX8_wipe 4 = .ok (.istore_n 1, 1) := by decide +kernel
theorem dX8_wipe_5 : decode cX8_wipe 5 = .ok (.aload_n 0, 1) := by decide +kernel
theorem dX8_wipe_6 : decode cX8_wipe 6 = .ok (.lconst 0, 1) := by decide +kernel
theorem dX8_wipe_7 : decode cX8_wipe 7 = .ok (.putfield 102, 3) := by decide +kernel
theorem dX8_wipe_10 : decode cX8_wipe 10 = .ok (.aload_n 0, 1) := by decide +kernel
theorem dX8_wipe_11 : decode cX8_wipe 11 = .ok (.iconst 0, 1) := by decide +kernel
theorem dX8_wipe_12 : decode cX8_wipe 12 = .ok (.putfield 97, 3) := by decide +kernel
theorem dX8_wipe_15 : decode cX8_wipe 15 = .ok (.iload_n 1, 1) := by decide +kernel
theorem dX8_wipe_16 : decode cX8_wipe 16 = .ok (.ireturn, 1) := by decide +kernel
theorem dX8_isUsed_0 : decode cX8_isUsed 0 = .ok (.iconst 0, 1) := by decide +kernel
theorem dX8_isUsed_1 : decode cX8_isUsed 1 = .ok (.istore_n 3, 1) := by decide +kernel
theorem dX8_isUsed_2 : decode cX8_isUsed 2 = .ok (.iconst 0, 1) := by decide +kernel
theorem dX8_isUsed_3 : decode cX8_isUsed 3 = .ok (.istore 4, 2) := by decide +kernel
theorem dX8_isUsed_5 : decode cX8_isUsed 5 = .ok (.iload 4, 2) := by decide +kernel
theorem dX8_isUsed_7 : decode cX8_isUsed 7 = .ok (.aload_n 0, 1) := by decide +kernel
theorem dX8_isUsed_8 : decode cX8_isUsed 8 = .ok (.getfield 83, 3) := by decide +kernel
theorem dX8_isUsed_11 : decode cX8_isUsed 11 = .ok (.if_icmp .ge 57, 3) := by decide +kernel
theorem dX8_isUsed_14 : decode cX8_isUsed 14 = .ok (.iload_n 3, 1) := by decide +kernel
theorem dX8_isUsed_15 : decode cX8_isUsed 15 = .ok (.aload_n 0, 1) := by decide +kernel
theorem dX8_isUsed_16 : decode cX8_isUsed 16 = .ok (.getfield 28, 3) := by decide +kernel
theorem dX8_isUsed_19 : decode cX8_isUsed 19 = .ok (.iload 4, 2) := by decide +kernel
theorem dX8_isUsed_21 : decode cX8_isUsed 21 = .ok (.baload, 1) := by decide +kernel
theorem dX8_isUsed_22 : decode cX8_isUsed 22 = .ok (.ifCond .ne 37, 3) := by decide +kernel
theorem dX8_isUsed_25 : decode cX8_isUsed 25 = .ok (.lload_n 1, 1) := by decide +kernel
theorem dX8_isUsed_26 : decode cX8_isUsed 26 = .ok (.lconst 0, 1) := by decide +kernel
theorem dX8_isUsed_27 : decode cX8_isUsed 27 = .ok (.lcmp, 1) := by decide +kernel
theorem dX8_isUsed_28 : decode cX8_isUsed 28 = .ok (.ifCond .eq 31, 3) := by decide +kernel
theorem dX8_isUsed_31 : decode cX8_isUsed 31 = .ok (.aload_n 0, 1) := by decide +kernel
theorem dX8_isUsed_32 : decode cX8_isUsed 32 = .ok (.getfield 7, 3) := by decide +kernel
theorem dX8_isUsed_35 : decode cX8_isUsed 35 = .ok (.iload 4, 2) := by decide +kernel
theorem dX8_isUsed_37 : decode cX8_isUsed 37 = .ok (.laload, 1) := by decide +kernel
theorem dX8_isUsed_38 : decode cX8_isUsed 38 = .ok (.lload_n 1, 1) := by decide +kernel
theorem dX8_isUsed_39 : decode cX8_isUsed 39 = .ok (.lcmp, 1) := by decide +kernel
theorem dX8_isUsed_40 : decode cX8_isUsed 40 = .ok (.ifCond .eq 15, 3) := by decide +kernel
theorem dX8_isUsed_43 : decode cX8_isUsed 43 = .ok (.aload_n 0, 1) := by decide +kernel
theorem dX8_isUsed_44 : decode cX8_isUsed 44 = .ok (.getfield 13, 3) := by decide +kernel
theorem dX8_isUsed_47 : decode cX8_isUsed 47 = .ok (.iload 4, 2) := by decide +kernel
theorem dX8_isUsed_49 : decode cX8_isUsed 49 = .ok (.laload, 1) := by decide +kernel
theorem dX8_isUsed_50 : decode cX8_isUsed 50 = .ok (.lload_n 1, 1) := by decide +kernel
theorem dX8_isUsed_51 : decode cX8_isUsed 51 = .ok (.lcmp, 1) := by decide +kernel
theorem dX8_isUsed_52 : decode cX8_isUsed 52 = .ok (.ifCond .ne 7, 3) := by decide +kernel
theorem dX8_isUsed_55 : decode cX8_isUsed 55 = .ok (.iconst 1, 1) := by decide +kernel
theorem dX8_isUsed_56 : decode cX8_isUsed 56 = .ok (.goto 4, 3) := by decide +kernel
theorem dX8_isUsed_59 : decode cX8_isUsed 59 = .ok (.iconst 0, 1) := by decide +kernel
theorem dX8_isUsed_60 : decode cX8_isUsed 60 = .ok (.ior, 1) := by decide +kernel
theorem dX8_isUsed_61 : decode cX8_isUsed 61 = .ok (.istore_n 3, 1) := by decide +kernel
theorem dX8_isUsed_62 : decode cX8_isUsed 62 = .ok (.iinc 4 1, 3) := by decide +kernel
theorem dX8_isUsed_65 : decode cX8_isUsed 65 = .ok (.goto (-60), 3) := by decide +kernel
theorem dX8_isUsed_68 : decode cX8_isUsed 68 = .ok (.iload_n 3, 1) := by decide +kernel
theorem dX8_isUsed_69 : decode cX8_isUsed 69 = .ok (.ireturn, 1) := by decide +kernel
set_option maxRecDepth 20000 in
theorem ggX8_street_X8_isWay : GoodIn wsX8_street wsX8_isWay := goodIn_r _ [11] (by decide +kernel) (by decide +kernel)
set_option maxRecDepth 20000 in
theorem gX8_street_X8_isWay : GoodIn wsX8_street (va_wsS RX8 106 yX8_isWay wsX8_isWay) := goodIn_app (goodIn_of _ (by decide +kernel)) ggX8_street_X8_isWay
set_option maxRecDepth 20000 in
theorem ggX8_street_X8_isBetween : GoodIn wsX8_street wsX8_isBetween := goodIn_r _ [14] (by decide +kernel) (by decide +kernel)
set_option maxRecDepth 20000 in
theorem gX8_street_X8_isBetween : GoodIn wsX8_street (va_wsS RX8 86 yX8_isBetween wsX8_isBetween) := goodIn_app (goodIn_of _ (by decide +kernel)) ggX8_street_X8_isBetween
set_option maxRecDepth 20000 in
theorem ggX8_street_X8_no : GoodIn wsX8_street wsX8_no := goodIn_r _ [18, 19, 30, 31, 32, 33, 34, 35, 36, 37, 38, 39, 40, 41, 42, 43, 44, 45, 46, 47, 48, 49, 50, 51, 52, 53, 54, 55, 56, 57, 58, 59] (by decide +kernel) (by decide +kernel)
set_option maxRecDepth 20000 in
theorem gX8_street_X8_no : GoodIn wsX8_street (wsV RX8 93 RX8 yX8_no wsX8_no) := goodIn_app (goodIn_of _ (by decide +kernel)) ggX8_street_X8_no
set_option maxRecDepth 20000 in
theorem ggX8_street_X8_isUsed : GoodIn wsX8_street wsX8_isUsed := goodIn_ca (goodIn_r _ [23, 3, 24, 4, 25, 30, 31, 32, 33, 34, 35, 36, 37, 38, 39, 40, 41, 42, 43, 44, 45, 46, 47, 48, 49, 50, 51, 52, 53, 54, 55, 56, 57, 58, 59] (by decide +kernel) (by decide +kernel)) (goodIn_sub (fun _ h => List.mem_cons_of_mem _ (List.mem_append_right _ h)) (by decide +kernel))
set_option maxRecDepth 20000 in
theorem gX8_street_X8_isUsed : GoodIn wsX8_street (wsV RX8 110 RX8 yX8_isUsed wsX8_isUsed) := goodIn_app (goodIn_of _ (by decide +kernel)) ggX8_street_X8_isUsed
set_option maxRecDepth 20000 in
theorem ggX8_street_X8_wipe : GoodIn wsX8_street wsX8_wipe := goodIn_r _ [29, 1, 2, 30, 31, 32, 33, 34, 35, 36, 37, 38, 39, 40, 41, 42, 43, 44, 45, 46, 47, 48, 49, 50, 51, 52, 53, 54, 55, 56, 57, 58, 59] (by decide +kernel) (by decide +kernel)
set_option maxRecDepth 20000 in
theorem gX8_street_X8_wipe : GoodIn wsX8_street (wsV RX8 114 RX8 yX8_wipe wsX8_wipe) := goodIn_app (goodIn_of _ (by decide +kernel)) ggX8_street_X8_wipe
theorem dX8_street_0 : decode cX8_street 0 = .ok (.aload_n 0, 1) := by decide +kernel
theorem dX8_street_1 : decode cX8_street 1 = .ok (.iload_n 2, 1) := by decide +kernel
theorem dX8_street_2 : decode cX8_street 2 = .ok (.invokestatic 106, 3) := by decide +kernel
theorem dX8_street_5 : decode cX8_street 5 = .ok (.ifCond .eq 19, 3) := by decide +kernel
theorem dX8_street_8 : decode cX8_street 8 = .ok (.iload_n 1, 1) := by decide +kernel
theorem dX8_street_9 : decode cX8_street 9 = .ok (.bipush 10, 2) := by decide +kernel
theorem dX8_street_11 : decode cX8_street 11 = .ok (.sipush 999, 3) := by decide +kernel
theorem dX8_street_14 : decode cX8_street 14 = .ok (.invokestatic 86, 3) := by decide +kernel
theorem dX8_street_17 : decode cX8_street 17 = .ok (.ifCond .eq 7, 3) := by decide +kernel
theorem dX8_street_20 : decode cX8_street 20 = .ok (.iconst 1, 1) := by decide +kernel
theorem dX8_street_21 : decode cX8_street 21 = .ok (.goto 4, 3) := by decide +kernel
theorem dX8_street_24 : decode cX8_street 24 = .ok (.iconst 0, 1) := by decide +kernel
theorem dX8_street_25 : decode cX8_street 25 = .ok (.iconst 1, 1) := by decide +kernel
theorem dX8_street_26 : decode cX8_street 26 = .ok (.invokevirtual 93, 3) := by decide +kernel
theorem dX8_street_29 : decode cX8_street 29 = .ok (.ifCond .ne 56, 3) := by decide +kernel
theorem dX8_street_32 : decode cX8_street 32 = .ok (.aload_n 0, 1) := by decide +kernel
theorem dX8_street_33 : decode cX8_street 33 = .ok (.aload_n 0, 1) := by decide +kernel
theorem dX8_street_34 : decode cX8_street 34 = .ok (.getfield 97, 3) := by decide +kernel
theorem dX8_street_37 : decode cX8_street 37 = .ok (.ifCond .le 18, 3) := by decide +kernel
theorem dX8_street_40 : decode cX8_street 40 = .ok (.aload_n 0, 1) := by decide +kernel
theorem dX8_street_41 : decode cX8_street 41 = .ok (.aload_n 0, 1) := by decide +kernel
theorem dX8_street_42 : decode cX8_street 42 = .ok (.getfield 102, 3) := by decide +kernel
theorem dX8_street_45 : decode cX8_street 45 = .ok (.invokevirtual 110, 3) := by decide +kernel
theorem dX8_street_48 : decode cX8_street 48 = .ok (.ifCond .ne 7, 3) := by decide +kernel
theorem dX8_street_51 : decode cX8_street 51 = .ok (.iconst 1, 1) := by decide +kernel
theorem dX8_street_52 : decode cX8_street 52 = .ok (.goto 4, 3) := by decide +kernel
theorem dX8_street_55 : decode cX8_street 55 = .ok (.iconst 0, 1) := by decide +kernel
theorem dX8_street_56 : decode cX8_street 56 = .ok (.iconst 2, 1) := by decide +kernel
theorem dX8_street_57 : decode cX8_street 57 = .ok (.invokevirtual 93, 3) := by decide +kernel
theorem dX8_street_60 : decode cX8_street 60 = .ok (.ifCond .ne 25, 3) := by decide +kernel
theorem dX8_street_63 : decode cX8_street 63 = .ok (.aload_n 0, 1) := by decide +kernel
theorem dX8_street_64 : decode cX8_street 64 = .ok (.aload_n 0, 1) := by decide +kernel
theorem dX8_street_65 : decode cX8_street 65 = .ok (.getfield 83, 3) := by decide +kernel
theorem dX8_street_68 : decode cX8_street 68 = .ok (.bipush 12, 2) := by decide +kernel
theorem dX8_street_70 : decode cX8_street 70 = .ok (.if_icmp .ge 7, 3) := by decide +kernel
theorem dX8_street_73 : decode cX8_street 73 = .ok (.iconst 1, 1) := by decide +kernel
theorem dX8_street_74 : decode cX8_street 74 = .ok (.goto 4, 3) := by decide +kernel
theorem dX8_street_77 : decode cX8_street 77 = .ok (.iconst 0, 1) := by decide +kernel
theorem dX8_street_78 : decode cX8_street 78 = .ok (.iconst 3, 1) := by decide +kernel
theorem dX8_street_79 : decode cX8_street 79 = .ok (.invokevirtual 93, 3) := by decide +kernel
theorem dX8_street_82 : decode cX8_street 82 = .ok (.ifCond .eq 5, 3) := by decide +kernel
theorem dX8_street_85 : decode cX8_street 85 = .ok (.iconst 0, 1) := by decide +kernel
theorem dX8_street_86 : decode cX8_street 86 = .ok (.ireturn, 1) := by decide +kernel
theorem dX8_street_87 : decode cX8_street 87 = .ok (.aload_n 0, 1) := by decide +kernel
theorem dX8_street_88 : decode cX8_street 88 = .ok (.getfield 7, 3) := by decide +kernel
theorem dX8_street_91 : decode cX8_street 91 = .ok (.aload_n 0, 1) := by decide +kernel
theorem dX8_street_92 : decode cX8_street 92 = .ok (.getfield 83, 3) := by decide +kernel
theorem dX8_street_95 : decode cX8_street 95 = .ok (.aload_n 0, 1) := by decide +kernel
theorem dX8_street_96 : decode cX8_street 96 = .ok (.getfield 102, 3) := by decide +kernel
theorem dX8_street_99 : decode cX8_street 99 = .ok (.lastore, 1) := by decide +kernel
theorem dX8_street_100 : decode cX8_street 100 = .ok (.aload_n 0, 1) := by decide +kernel
theorem dX8_street_101 : decode cX8_street 101 = .ok (.getfield 16, 3) := by decide +kernel
theorem dX8_street_104 : decode cX8_street 104 = .ok (.aload_n 0, 1) := by decide +kernel
theorem dX8_street_105 : decode cX8_street 105 = .ok (.getfield 83, 3) := by decide +kernel
theorem dX8_street_108 : decode cX8_street 108 = .ok (.iload_n 1, 1) := by decide +kernel
theorem dX8_street_109 : decode cX8_street 109 = .ok (.iastore, 1) := by decide +kernel
theorem dX8_street_110 : decode cX8_street 110 = .ok (.aload_n 0, 1) := by decide +kernel
theorem dX8_street_111 : decode cX8_street 111 = .ok (.getfield 20, 3) := by decide +kernel
theorem dX8_street_114 : decode cX8_street 114 = .ok (.aload_n 0, 1) := by decide +kernel
theorem dX8_street_115 : decode cX8_street 115 = .ok (.getfield 83, 3) := by decide +kernel
theorem dX8_street_118 : decode cX8_street 118 = .ok (.iload_n 2, 1) := by decide +kernel
theorem dX8_street_119 : decode cX8_street 119 = .ok (.castore, 1) := by decide +kernel
theorem dX8_street_120 : decode cX8_street 120 = .ok (.aload_n 0, 1) := by decide +kernel
theorem dX8_street_121 : decode cX8_street 121 = .ok (.getfield 24, 3) := by decide +kernel
theorem dX8_street_124 : decode cX8_street 124 = .ok (.aload_n 0, 1) := by decide +kernel
theorem dX8_street_125 : decode cX8_street 125 = .ok (.getfield 83, 3) := by decide +kernel
theorem dX8_street_128 : decode cX8_street 128 = .ok (.iload_n 3, 1) := by decide +kernel
theorem dX8_street_129 : decode cX8_street 129 = .ok (.bastore, 1) := by decide +kernel
theorem dX8_street_130 : decode cX8_street 130 = .ok (.aload_n 0, 1) := by decide +kernel
theorem dX8_street_131 : decode cX8_street 131 = .ok (.dup, 1) := by decide +kernel
theorem dX8_street_132 : decode cX8_street 132 = .ok (.getfield 83, 3) := by decide +kernel
theorem dX8_street_135 : decode cX8_street 135 = .ok (.iconst 1, 1) := by decide +kernel
theorem dX8_street_136 : decode cX8_street 136 = .ok (.iadd, 1) := by decide +kernel
theorem dX8_street_137 : decode cX8_street 137 = .ok (.putfield 83, 3) := by decide +kernel
theorem dX8_street_140 : decode cX8_street 140 = .ok (.aload_n 0, 1) := by decide +kernel
theorem dX8_street_141 : decode cX8_street 141 = .ok (.invokevirtual 114, 3) := by decide +kernel
theorem dX8_street_144 : decode cX8_street 144 = .ok (.pop, 1) := by decide +kernel
theorem dX8_street_145 : decode cX8_street 145 = .ok (.aload_n 0, 1) := by decide +kernel
theorem dX8_street_146 : decode cX8_street 146 = .ok (.getfield 83, 3) := by decide +kernel
theorem dX8_street_149 : decode cX8_street 149 = .ok (.iconst 1, 1) := by decide +kernel
theorem dX8_street_150 : decode cX8_street 150 = .ok (.isub, 1) := by decide +kernel
theorem dX8_street_151 : decode cX8_street 151 = .ok (.ireturn, 1) := by decide +kernel
theorem dX8_old_0 : decode cX8_old 0 = .ok (.lload_n 1, 1) := by decide +kernel
theorem dX8_old_1 : decode cX8_old 1 = .ok (.lconst 0, 1) := by decide +kernel
theorem dX8_old_2 : decode cX8_old 2 = .ok (.lcmp, 1) := by decide +kernel
theorem dX8_old_3 : decode cX8_old 3 = .ok (.ifCond .ne 4, 3) := by decide +kernel
theorem dX8_old_6 : decode cX8_old 6 = .ok (.return_, 1) := by decide +kernel
theorem dX8_old_7 : decode cX8_old 7 = .ok (.aload_n 0, 1) := by decide +kernel
theorem dX8_old_8 : decode cX8_old 8 = .ok (.getfield 118, 3) := by decide +kernel
theorem dX8_old_11 : decode cX8_old 11 = .ok (.sipush 200, 3) := by decide +kernel
theorem dX8_old_14 : decode cX8_old 14 = .ok (.if_icmp .ne 94, 3) := by decide +kernel
theorem dX8_old_17 : decode cX8_old 17 = .ok (.iconst 1, 1) := by decide +kernel
theorem dX8_old_18 : decode cX8_old 18 = .ok (.istore 5, 2) := by decide +kernel
theorem dX8_old_20 : decode cX8_old 20 = .ok (.iload 5, 2) := by decide +kernel
theorem dX8_old_22 : decode cX8_old 22 = .ok (.sipush 200, 3) := by decide +kernel
theorem dX8_old_25 : decode cX8_old 25 = .ok (.if_icmp .ge 73, 3) := by decide +kernel
theorem dX8_old_28 : decode cX8_old 28 = .ok (.aload_n 0, 1) := by decide +kernel
theorem dX8_old_29 : decode cX8_old 29 = .ok (.getfield 52, 3) := by decide +kernel
theorem dX8_old_32 : decode cX8_old 32 = .ok (.iload 5, 2) := by decide +kernel
theorem dX8_old_34 : decode cX8_old 34 = .ok (.iconst 1, 1) := by decide +kernel
theorem dX8_old_35 : decode cX8_old 35 = .ok (.isub, 1) := by decide +kernel
theorem dX8_old_36 : decode cX8_old 36 = .ok (.aload_n 0, 1) := by decide +kernel
theorem dX8_old_37 : decode cX8_old 37 = .ok (.getfield 52, 3) := by decide +kernel
theorem dX8_old_40 : decode cX8_old 40 = .ok (.iload 5, 2) := by decide +kernel
theorem dX8_old_42 : decode cX8_old 42 = .ok (.laload, 1) := by decide +kernel
theorem dX8_old_43 : decode cX8_old 43 = .ok (.lastore, 1) := by decide +kernel
theorem dX8_old_44 : decode cX8_old 44 = .ok (.aload_n 0, 1) := by decide +kernel
theorem dX8_old_45 : decode cX8_old 45 = .ok (.getfield 55, 3) := by decide +kernel
theorem dX8_old_48 : decode cX8_old 48 = .ok (.iload 5, 2) := by decide +kernel
theorem dX8_old_50 : decode cX8_old 50 = .ok (.iconst 1, 1) := by decide +kernel
theorem dX8_old_51 : decode cX8_old 51 = .ok (.isub, 1) := by decide +kernel
theorem dX8_old_52 : decode cX8_old 52 = .ok (.aload_n 0, 1) := by decide +kernel
theorem dX8_old_53 : decode cX8_old 53 = .ok (.getfield 55, 3) := by decide +kernel
theorem dX8_old_56 : decode cX8_old 56 = .ok (.iload 5, 2) := by decide +kernel
theorem dX8_old_58 : decode cX8_old 58 = .ok (.iaload, 1) := by decide +kernel
theorem dX8_old_59 : decode cX8_old 59 = .ok (.iastore, 1) := by decide +kernel
theorem dX8_old_60 : decode cX8_old 60 = .ok (.aload_n 0, 1) := by decide +kernel
theorem dX8_old_61 : decode cX8_old 61 = .ok (.getfield 58, 3) := by decide +kernel
theorem dX8_old_64 : decode cX8_old 64 = .ok (.iload 5, 2) := by decide +kernel
theorem dX8_old_66 : decode cX8_old 66 = .ok (.iconst 1, 1) := by decide +kernel
theorem dX8_old_67 : decode cX8_old 67 = .ok (.isub, 1) := by decide +kernel
theorem dX8_old_68 : decode cX8_old 68 = .ok (.aload_n 0, 1) := by decide +kernel
theorem dX8_old_69 : decode cX8_old 69 = .ok (.getfield 58, 3) := by decide +kernel
theorem dX8_old_72 : decode cX8_old 72 = .ok (.iload 5, 2) := by decide +kernel
theorem dX8_old_74 : decode cX8_old 74 = .ok (.iaload, 1) := by decide +kernel
theorem dX8_old_75 : decode cX8_old 75 = .ok (.iastore, 1) := by decide +kernel
theorem dX8_old_76 : decode cX8_old 76 = .ok (.aload_n 0, 1) := by decide +kernel
theorem dX8_old_77 : decode cX8_old 77 = .ok (.getfield 61, 3) := by decide +kernel
theorem dX8_old_80 : decode cX8_old 80 = .ok (.iload 5, 2) := by decide +kernel
theorem dX8_old_82 : decode cX8_old 82 = .ok (.iconst 1, 1) := by decide +kernel
theorem dX8_old_83 : decode cX8_old 83 = .ok (.isub, 1) := by decide +kernel
theorem dX8_old_84 : decode cX8_old 84 = .ok (.aload_n 0, 1) := by decide +kernel
theorem dX8_old_85 : decode cX8_old 85 = .ok (.getfield 61, 3) := by decide +kernel
theorem dX8_old_88 : decode cX8_old 88 = .ok (.iload 5, 2) := by decide +kernel
theorem dX8_old_90 : decode cX8_old 90 = .ok (.iaload, 1) := by decide +kernel
theorem dX8_old_91 : decode cX8_old 91 = .ok (.iastore, 1) := by decide +kernel
theorem dX8_old_92 : decode cX8_old 92 = .ok (.iinc 5 1, 3) := by decide +kernel
theorem dX8_old_95 : decode cX8_old 95 = .ok (.goto (-75), 3) := by decide +kernel
theorem dX8_old_98 : decode cX8_old 98 = .ok (.aload_n 0, 1) := by decide +kernel
theorem dX8_old_99 : decode cX8_old 99 = .ok (.dup, 1) := by decide +kernel
theorem dX8_old_100 : decode cX8_old 100 = .ok (.getfield 118, 3) := by decide +kernel
theorem dX8_old_103 : decode cX8_old 103 = .ok (.iconst 1, 1) := by decide +kernel
theorem dX8_old_104 : decode cX8_old 104 = .ok (.isub, 1) := by decide +kernel
theorem dX8_old_105 : decode cX8_old 105 = .ok (.putfield 118, 3) := by decide +kernel
theorem dX8_old_108 : decode cX8_old 108 = .ok (.aload_n 0, 1) := by decide +kernel
theorem dX8_old_109 : decode cX8_old 109 = .ok (.getfield 52, 3) := by decide +kernel
theorem dX8_old_112 : decode cX8_old 112 = .ok (.aload_n 0, 1) := by decide +kernel
theorem dX8_old_113 : decode cX8_old 113 = .ok (.getfield 118, 3) := by decide +kernel
theorem dX8_old_116 : decode cX8_old 116 = .ok (.lload_n 1, 1) := by decide +kernel
theorem dX8_old_117 : decode cX8_old 117 = .ok (.lastore, 1) := by decide +kernel
theorem dX8_old_118 : decode cX8_old 118 = .ok (.aload_n 0, 1) := by decide +kernel
theorem dX8_old_119 : decode cX8_old 119 = .ok (.getfield 55, 3) := by decide +kernel
theorem dX8_old_122 : decode cX8_old 122 = .ok (.aload_n 0, 1) := by decide +kernel
theorem dX8_old_123 : decode cX8_old 123 = .ok (.getfield 118, 3) := by decide +kernel
theorem dX8_old_126 : decode cX8_old 126 = .ok (.iload_n 3, 1) := by decide +kernel
theorem dX8_old_127 : decode cX8_old 127 = .ok (.iastore, 1) := by decide +kernel
theorem dX8_old_128 : decode cX8_old 128 = .ok (.aload_n 0, 1) := by decide +kernel
theorem dX8_old_129 : decode cX8_old 129 = .ok (.getfield 58, 3) := by decide +kernel
theorem dX8_old_132 : decode cX8_old 132 = .ok (.aload_n 0, 1) := by decide +kernel
theorem dX8_old_133 : decode cX8_old 133 = .ok (.getfield 118, 3) := by decide +kernel
theorem dX8_old_136 : decode cX8_old 136 = .ok (.iload 4, 2) := by decide +kernel
theorem dX8_old_138 : decode cX8_old 138 = .ok (.iastore, 1) := by decide +kernel
theorem dX8_old_139 : decode cX8_old 139 = .ok (.aload_n 0, 1) := by decide +kernel
theorem dX8_old_140 : decode cX8_old 140 = .ok (.getfield 61, 3) := by decide +kernel
theorem dX8_old_143 : decode cX8_old 143 = .ok (.aload_n 0, 1) := by decide +kernel
theorem dX8_old_144 : decode cX8_old 144 = .ok (.getfield 118, 3) := by decide +kernel
theorem dX8_old_147 : decode cX8_old 147 = .ok (.aload_n 0, 1) := by decide +kernel
theorem dX8_old_148 : decode cX8_old 148 = .ok (.getfield 121, 3) := by decide +kernel
theorem dX8_old_151 : decode cX8_old 151 = .ok (.iastore, 1) := by decide +kernel
theorem dX8_old_152 : decode cX8_old 152 = .ok (.aload_n 0, 1) := by decide +kernel
theorem dX8_old_153 : decode cX8_old 153 = .ok (.dup, 1) := by decide +kernel
theorem dX8_old_154 : decode cX8_old 154 = .ok (.getfield 118, 3) := by decide +kernel
theorem dX8_old_157 : decode cX8_old 157 = .ok (.iconst 1, 1) := by decide +kernel
theorem dX8_old_158 : decode cX8_old 158 = .ok (.iadd, 1) := by decide +kernel
theorem dX8_old_159 : decode cX8_old 159 = .ok (.putfield 118, 3) := by decide +kernel
theorem dX8_old_162 : decode cX8_old 162 = .ok (.return_, 1) := by decide +kernel
theorem dX8_placeOn_0 : decode cX8_placeOn 0 = .ok (.aload_n 0, 1) := by decide +kernel
theorem dX8_placeOn_1 : decode cX8_placeOn 1 = .ok (.getfield 34, 3) := by decide +kernel
theorem dX8_placeOn_4 : decode cX8_placeOn 4 = .ok (.iconst 2, 1) := by decide +kernel
theorem dX8_placeOn_5 : decode cX8_placeOn 5 = .ok (.iload_n 1, 1) := by decide +kernel
theorem dX8_placeOn_6 : decode cX8_placeOn 6 = .ok (.imul, 1) := by decide +kernel
theorem dX8_placeOn_7 : decode cX8_placeOn 7 = .ok (.iaload, 1) := by decide +kernel
theorem dX8_placeOn_8 : decode cX8_placeOn 8 = .ok (.iload_n 2, 1) := by decide +kernel
theorem dX8_placeOn_9 : decode cX8_placeOn 9 = .ok (.if_icmp .ne 9, 3) := by decide +kernel
theorem dX8_placeOn_12 : decode cX8_placeOn 12 = .ok (.iconst 2, 1) := by decide +kernel
theorem dX8_placeOn_13 : decode cX8_placeOn 13 = .ok (.iload_n 1, 1) := by decide +kernel
theorem dX8_placeOn_14 : decode cX8_placeOn 14 = .ok (.imul, 1) := by decide +kernel
theorem dX8_placeOn_15 : decode cX8_placeOn 15 = .ok (.goto 26, 3) := by decide +kernel
theorem dX8_placeOn_18 : decode cX8_placeOn 18 = .ok (.aload_n 0, 1) := by decide +kernel
theorem dX8_placeOn_19 : decode cX8_placeOn 19 = .ok (.getfield 34, 3) := by decide +kernel
theorem dX8_placeOn_22 : decode cX8_placeOn 22 = .ok (.iconst 2, 1) := by decide +kernel
theorem dX8_placeOn_23 : decode cX8_placeOn 23 = .ok (.iload_n 1, 1) := by decide +kernel
theorem dX8_placeOn_24 : decode cX8_placeOn 24 = .ok (.imul, 1) := by decide +kernel
theorem dX8_placeOn_25 : decode cX8_placeOn 25 = .ok (.iconst 1, 1) := by decide +kernel
theorem dX8_placeOn_26 : decode cX8_placeOn 26 = .ok (.iadd, 1) := by decide +kernel
theorem dX8_placeOn_27 : decode cX8_placeOn 27 = .ok (.iaload, 1) := by decide +kernel
theorem dX8_placeOn_28 : decode cX8_placeOn 28 = .ok (.iload_n 2, 1) := by decide +kernel
theorem dX8_placeOn_29 : decode cX8_placeOn 29 = .ok (.if_icmp .ne 11, 3) := by decide +kernel
theorem dX8_placeOn_32 : decode cX8_placeOn 32 = .ok (.iconst 2, 1) := by decide +kernel
theorem dX8_placeOn_33 : decode cX8_placeOn 33 = .ok (.iload_n 1, 1) := by decide +kernel
theorem dX8_placeOn_34 : decode cX8_placeOn 34 = .ok (.imul, 1) := by decide +kernel
theorem dX8_placeOn_35 : decode cX8_placeOn 35 = .ok (.iconst 1, 1) := by decide +kernel
theorem dX8_placeOn_36 : decode cX8_placeOn 36 = .ok (.iadd, 1) := by decide +kernel
theorem dX8_placeOn_37 : decode cX8_placeOn 37 = .ok (.goto 4, 3) := by decide +kernel
theorem dX8_placeOn_40 : decode cX8_placeOn 40 = .ok (.iconst (-1), 1) := by decide +kernel
theorem dX8_placeOn_41 : decode cX8_placeOn 41 = .ok (.ireturn, 1) := by decide +kernel
set_option maxRecDepth 20000 in
theorem ggX8_nameGoes_X8_placeOn : GoodIn wsX8_nameGoes wsX8_placeOn := goodIn_ca (goodIn_r _ [7, 8, 19, 20, 21, 22, 23, 24, 25, 26, 27, 28, 29, 30, 31, 32, 33, 34, 35, 36, 37, 38, 39, 40, 41, 42, 43, 44, 45, 46, 47, 48] (by decide +kernel) (by decide +kernel)) (goodIn_sub (fun _ h => List.mem_cons_of_mem _ (List.mem_append_right _ h)) (by decide +kernel))
set_option maxRecDepth 20000 in
theorem gX8_nameGoes_X8_placeOn : GoodIn wsX8_nameGoes (wsV RX8 124 RX8 yX8_placeOn wsX8_placeOn) := goodIn_app (goodIn_of _ (by decide +kernel)) ggX8_nameGoes_X8_placeOn
set_option maxRecDepth 20000 in
theorem ggX8_nameGoes_X8_old : GoodIn wsX8_nameGoes wsX8_old := goodIn_ca (goodIn_r _ [12, 13, 14, 15, 16, 17, 18, 19, 20, 21, 22, 23, 24, 25, 26, 27, 28, 29, 30, 31, 32, 33, 34, 35, 36, 37, 38, 39, 40, 41, 42, 43, 44, 45, 46, 47, 48] (by decide +kernel) (by decide +kernel)) (goodIn_sub (fun _ h => List.mem_cons_of_mem _ (List.mem_append_right _ h)) (by decide +kernel))
set_option maxRecDepth 20000 in
theorem gX8_nameGoes_X8_old : GoodIn wsX8_nameGoes (wsV RX8 128 RX8 yX8_old wsX8_old) := goodIn_app (goodIn_of _ (by decide +kernel)) ggX8_nameGoes_X8_old
theorem dX8_nameGoes_0 : decode cX8_nameGoes 0 = .ok (.iconst 0, 1) := by decide +kernel
theorem dX8_nameGoes_1 : decode cX8_nameGoes 1 = .ok (.istore 4, 2) := by decide +kernel
theorem dX8_nameGoes_3 : decode cX8_nameGoes 3 = .ok (.iload 4, 2) := by decide +kernel
theorem dX8_nameGoes_5 : decode cX8_nameGoes 5 = .ok (.aload_n 0, 1) := by decide +kernel
theorem dX8_nameGoes_6 : decode cX8_nameGoes 6 = .ok (.getfield 90, 3) := by decide +kernel
theorem dX8_nameGoes_9 : decode cX8_nameGoes 9 = .ok (.if_icmp .ge 38, 3) := by decide +kernel
theorem dX8_nameGoes_12 : decode cX8_nameGoes 12 = .ok (.aload_n 0, 1) := by decide +kernel
theorem dX8_nameGoes_13 : decode cX8_nameGoes 13 = .ok (.iload 4, 2) := by decide +kernel
theorem dX8_nameGoes_15 : decode cX8_nameGoes 15 = .ok (.iload_n 1, 1) := by decide +kernel
theorem dX8_nameGoes_16 : decode cX8_nameGoes 16 = .ok (.invokevirtual 124, 3) := by decide +kernel
theorem dX8_nameGoes_19 : decode cX8_nameGoes 19 = .ok (.istore 5, 2) := by decide +kernel
theorem dX8_nameGoes_21 : decode cX8_nameGoes 21 = .ok (.iload 5, 2) := by decide +kernel
theorem dX8_nameGoes_23 : decode cX8_nameGoes 23 = .ok (.iconst (-1), 1) := by decide +kernel
theorem dX8_nameGoes_24 : decode cX8_nameGoes 24 = .ok (.if_icmp .eq 17, 3) := by decide +kernel
theorem dX8_nameGoes_27 : decode cX8_nameGoes 27 = .ok (.aload_n 0, 1) := by decide +kernel
theorem dX8_nameGoes_28 : decode cX8_nameGoes 28 = .ok (.lload_n 2, 1) := by decide +kernel
theorem dX8_nameGoes_29 : decode cX8_nameGoes 29 = .ok (.aload_n 0, 1) := by decide +kernel
theorem dX8_nameGoes_30 : decode cX8_nameGoes 30 = .ok (.getfield 43, 3) := by decide +kernel
theorem dX8_nameGoes_33 : decode cX8_nameGoes 33 = .ok (.iload 5, 2) := by decide +kernel
theorem dX8_nameGoes_35 : decode cX8_nameGoes 35 = .ok (.iaload, 1) := by decide +kernel
theorem dX8_nameGoes_36 : decode cX8_nameGoes 36 = .ok (.iload 4, 2) := by decide +kernel
theorem dX8_nameGoes_38 : decode cX8_nameGoes 38 = .ok (.invokevirtual 128, 3) := by decide +kernel
theorem dX8_nameGoes_41 : decode cX8_nameGoes 41 = .ok (.iinc 4 1, 3) := by decide +kernel
theorem dX8_nameGoes_44 : decode cX8_nameGoes 44 = .ok (.goto (-41), 3) := by decide +kernel
theorem dX8_nameGoes_47 : decode cX8_nameGoes 47 = .ok (.return_, 1) := by decide +kernel
set_option maxRecDepth 20000 in
theorem ggX8_rename_X8_isStreet : GoodIn wsX8_rename wsX8_isStreet := goodIn_ca (goodIn_r _ [9, 10, 11, 12, 13, 8, 14, 49, 50, 51, 52, 53, 54, 55, 56, 57, 58, 59, 60, 61, 62, 63, 64, 65, 66, 67, 68, 69, 70, 71, 72, 73, 74, 75, 76, 77, 78] (by decide +kernel) (by decide +kernel)) (goodIn_sub (fun _ h => List.mem_cons_of_mem _ (List.mem_append_right _ h)) (by decide +kernel))
set_option maxRecDepth 20000 in
theorem gX8_rename_X8_isStreet : GoodIn wsX8_rename (wsV RX8 132 RX8 yX8_isStreet wsX8_isStreet) := goodIn_app (goodIn_of _ (by decide +kernel)) ggX8_rename_X8_isStreet
set_option maxRecDepth 20000 in
theorem ggX8_rename_X8_no : GoodIn wsX8_rename wsX8_no := goodIn_r _ [18, 19, 49, 50, 51, 52, 53, 54, 55, 56, 57, 58, 59, 60, 61, 62, 63, 64, 65, 66, 67, 68, 69, 70, 71, 72, 73, 74, 75, 76, 77, 78] (by decide +kernel) (by decide +kernel)
set_option maxRecDepth 20000 in
theorem gX8_rename_X8_no : GoodIn wsX8_rename (wsV RX8 93 RX8 yX8_no wsX8_no) := goodIn_app (goodIn_of _ (by decide +kernel)) ggX8_rename_X8_no
set_option maxRecDepth 20000 in
theorem ggX8_rename_X8_isUsed : GoodIn wsX8_rename wsX8_isUsed := goodIn_ca (goodIn_r _ [23, 10, 11, 3, 24, 49, 50, 51, 52, 53, 54, 55, 56, 57, 58, 59, 60, 61, 62, 63, 64, 65, 66, 67, 68, 69, 70, 71, 72, 73, 74, 75, 76, 77, 78] (by decide +kernel) (by decide +kernel)) (goodIn_sub (fun _ h => List.mem_cons_of_mem _ (List.mem_append_right _ h)) (by decide +kernel))
set_option maxRecDepth 20000 in
theorem gX8_rename_X8_isUsed : GoodIn wsX8_rename (wsV RX8 110 RX8 yX8_isUsed wsX8_isUsed) := goodIn_app (goodIn_of _ (by decide +kernel)) ggX8_rename_X8_isUsed
set_option maxRecDepth 20000 in
theorem ggX8_rename_X8_nameGoes : GoodIn wsX8_rename wsX8_nameGoes := goodIn_ca (goodIn_r _ [28, 29, 30, 31, 32, 33, 8, 34, 35, 36, 37, 38, 39, 4, 40, 41, 42, 43, 44, 49, 50, 51, 52, 53, 54, 55, 56, 57, 58, 59, 60, 61, 62, 63, 64, 65, 66, 67, 68, 69, 70, 71, 72, 73, 74, 75, 76, 77, 78] (by decide +kernel) (by decide +kernel)) (goodIn_sub (fun _ h => List.mem_cons_of_mem _ (List.mem_append_right _ h)) (by decide +kernel))
set_option maxRecDepth 20000 in
theorem gX8_rename_X8_nameGoes : GoodIn wsX8_rename (wsV RX8 136 RX8 yX8_nameGoes wsX8_nameGoes) := goodIn_app (goodIn_of _ (by decide +kernel)) ggX8_rename_X8_nameGoes
set_option maxRecDepth 20000 in
theorem ggX8_rename_X8_wipe : GoodIn wsX8_rename wsX8_wipe := goodIn_r _ [48, 1, 2, 49, 50, 51, 52, 53, 54, 55, 56, 57, 58, 59, 60, 61, 62, 63, 64, 65, 66, 67, 68, 69, 70, 71, 72, 73, 74, 75, 76, 77, 78] (by decide +kernel) (by decide +kernel)
set_option maxRecDepth 20000 in
theorem gX8_rename_X8_wipe : GoodIn wsX8_rename (wsV RX8 114 RX8 yX8_wipe wsX8_wipe) := goodIn_app (goodIn_of _ (by decide +kernel)) ggX8_rename_X8_wipe
theorem dX8_rename_0 : decode cX8_rename 0 = .ok (.aload_n 0, 1) := by decide +kernel
theorem dX8_rename_1 : decode cX8_rename 1 = .ok (.aload_n 0, 1) := by decide +kernel
theorem dX8_rename_2 : decode cX8_rename 2 = .ok (.iload_n 1, 1) := by decide +kernel
theorem dX8_rename_3 : decode cX8_rename 3 = .ok (.invokevirtual 132, 3) := by decide +kernel
theorem dX8_rename_6 : decode cX8_rename 6 = .ok (.iconst 1, 1) := by decide +kernel
theorem dX8_rename_7 : decode cX8_rename 7 = .ok (.invokevirtual 93, 3) := by decide +kernel
theorem dX8_rename_10 : decode cX8_rename 10 = .ok (.ifCond .ne 34, 3) := by decide +kernel
theorem dX8_rename_13 : decode cX8_rename 13 = .ok (.aload_n 0, 1) := by decide +kernel
theorem dX8_rename_14 : decode cX8_rename 14 = .ok (.aload_n 0, 1) := by decide +kernel
theorem dX8_rename_15 : decode cX8_rename 15 = .ok (.getfield 97, 3) := by decide +kernel
theorem dX8_rename_18 : decode cX8_rename 18 = .ok (.ifCond .le 18, 3) := by decide +kernel
theorem dX8_rename_21 : decode cX8_rename 21 = .ok (.aload_n 0, 1) := by decide +kernel
theorem dX8_rename_22 : decode cX8_rename 22 = .ok (.aload_n 0, 1) := by decide +kernel
theorem dX8_rename_23 : decode cX8_rename 23 = .ok (.getfield 102, 3) := by decide +kernel
theorem dX8_rename_26 : decode cX8_rename 26 = .ok (.invokevirtual 110, 3) := by decide +kernel
theorem dX8_rename_29 : decode cX8_rename 29 = .ok (.ifCond .ne 7, 3) := by decide +kernel
theorem dX8_rename_32 : decode cX8_rename 32 = .ok (.iconst 1, 1) := by decide +kernel
theorem dX8_rename_33 : decode cX8_rename 33 = .ok (.goto 4, 3) := by decide +kernel
theorem dX8_rename_36 : decode cX8_rename 36 = .ok (.iconst 0, 1) := by decide +kernel
theorem dX8_rename_37 : decode cX8_rename 37 = .ok (.iconst 2, 1) := by decide +kernel
theorem dX8_rename_38 : decode cX8_rename 38 = .ok (.invokevirtual 93, 3) := by decide +kernel
theorem dX8_rename_41 : decode cX8_rename 41 = .ok (.ifCond .eq 5, 3) := by decide +kernel
theorem dX8_rename_44 : decode cX8_rename 44 = .ok (.iconst 0, 1) := by decide +kernel
theorem dX8_rename_45 : decode cX8_rename 45 = .ok (.ireturn, 1) := by decide +kernel
theorem dX8_rename_46 : decode cX8_rename 46 = .ok (.aload_n 0, 1) := by decide +kernel
theorem dX8_rename_47 : decode cX8_rename 47 = .ok (.iload_n 1, 1) := by decide +kernel
theorem dX8_rename_48 : decode cX8_rename 48 = .ok (.aload_n 0, 1) := by decide +kernel
theorem dX8_rename_49 : decode cX8_rename 49 = .ok (.getfield 7, 3) := by decide +kernel
theorem dX8_rename_52 : decode cX8_rename 52 = .ok (.iload_n 1, 1) := by decide +kernel
theorem dX8_rename_53 : decode cX8_rename 53 = .ok (.laload, 1) := by decide +kernel
theorem dX8_rename_54 : decode cX8_rename 54 = .ok (.invokevirtual 136, 3) := by decide +kernel
theorem dX8_rename_57 : decode cX8_rename 57 = .ok (.aload_n 0, 1) := by decide +kernel
theorem dX8_rename_58 : decode cX8_rename 58 = .ok (.getfield 7, 3) := by decide +kernel
theorem dX8_rename_61 : decode cX8_rename 61 = .ok (.iload_n 1, 1) := by decide +kernel
theorem dX8_rename_62 : decode cX8_rename 62 = .ok (.aload_n 0, 1) := by decide +kernel
theorem dX8_rename_63 : decode cX8_rename 63 = .ok (.getfield 102, 3) := by decide +kernel
theorem dX8_rename_66 : decode cX8_rename 66 = .ok (.lastore, 1) := by decide +kernel
theorem dX8_rename_67 : decode cX8_rename 67 = .ok (.aload_n 0, 1) := by decide +kernel
theorem dX8_rename_68 : decode cX8_rename 68 = .ok (.invokevirtual 114, 3) := by decide +kernel
theorem dX8_rename_71 : decode cX8_rename 71 = .ok (.pop, 1) := by decide +kernel
theorem dX8_rename_72 : decode cX8_rename 72 = .ok (.aload_n 0, 1) := by decide +kernel
theorem dX8_rename_73 : decode cX8_rename 73 = .ok (.getfield 118, 3) := by decide +kernel
theorem dX8_rename_76 : decode cX8_rename 76 = .ok (.ireturn, 1) := by decide +kernel
set_option maxRecDepth 20000 in
theorem ggX8_translate_X8_isStreet : GoodIn wsX8_translate wsX8_isStreet := goodIn_ca (goodIn_r _ [8, 9, 10, 11, 12, 7, 13, 49, 50, 51, 52, 53, 54, 55, 56, 57, 58, 59, 60, 61, 62, 63, 64, 65, 66, 67, 68, 69, 70, 71, 72, 73, 74, 75, 76, 77, 78] (by decide +kernel) (by decide +kernel)) (goodIn_sub (fun _ h => List.mem_cons_of_mem _ (List.mem_append_right _ h)) (by decide +kernel))
set_option maxRecDepth 20000 in
theorem gX8_translate_X8_isStreet : GoodIn wsX8_translate (wsV RX8 132 RX8 yX8_isStreet wsX8_isStreet) := goodIn_app (goodIn_of _ (by decide +kernel)) ggX8_translate_X8_isStreet
set_option maxRecDepth 20000 in
theorem ggX8_translate_X8_no : GoodIn wsX8_translate wsX8_no := goodIn_r _ [17, 18, 49, 50, 51, 52, 53, 54, 55, 56, 57, 58, 59, 60, 61, 62, 63, 64, 65, 66, 67, 68, 69, 70, 71, 72, 73, 74, 75, 76, 77, 78] (by decide +kernel) (by decide +kernel)
set_option maxRecDepth 20000 in
theorem gX8_translate_X8_no : GoodIn wsX8_translate (wsV RX8 93 RX8 yX8_no wsX8_no) := goodIn_app (goodIn_of _ (by decide +kernel)) ggX8_translate_X8_no
set_option maxRecDepth 20000 in
theorem ggX8_translate_X8_isUsed : GoodIn wsX8_translate wsX8_isUsed := goodIn_ca (goodIn_r _ [22, 9, 10, 23, 2, 49, 50, 51, 52, 53, 54, 55, 56, 57, 58, 59, 60, 61, 62, 63, 64, 65, 66, 67, 68, 69, 70, 71, 72, 73, 74, 75, 76, 77, 78] (by decide +kernel) (by decide +kernel)) (goodIn_sub (fun _ h => List.mem_cons_of_mem _ (List.mem_append_right _ h)) (by decide +kernel))
set_option maxRecDepth 20000 in
theorem gX8_translate_X8_isUsed : GoodIn wsX8_translate (wsV RX8 110 RX8 yX8_isUsed wsX8_isUsed) := goodIn_app (goodIn_of _ (by decide +kernel)) ggX8_translate_X8_isUsed
set_option maxRecDepth 20000 in
theorem ggX8_translate_X8_nameGoes : GoodIn wsX8_translate wsX8_nameGoes := goodIn_ca (goodIn_r _ [27, 28, 29, 30, 31, 32, 7, 33, 34, 35, 36, 37, 38, 3, 39, 40, 41, 42, 43, 49, 50, 51, 52, 53, 54, 55, 56, 57, 58, 59, 60, 61, 62, 63, 64, 65, 66, 67, 68, 69, 70, 71, 72, 73, 74, 75, 76, 77, 78] (by decide +kernel) (by decide +kernel)) (goodIn_sub (fun _ h => List.mem_cons_of_mem _ (List.mem_append_right _ h)) (by decide +kernel))
set_option maxRecDepth 20000 in
theorem gX8_translate_X8_nameGoes : GoodIn wsX8_translate (wsV RX8 136 RX8 yX8_nameGoes wsX8_nameGoes) := goodIn_app (goodIn_of _ (by decide +kernel)) ggX8_translate_X8_nameGoes
set_option maxRecDepth 20000 in
theorem ggX8_translate_X8_wipe : GoodIn wsX8_translate wsX8_wipe := goodIn_r _ [47, 48, 1, 49, 50, 51, 52, 53, 54, 55, 56, 57, 58, 59, 60, 61, 62, 63, 64, 65, 66, 67, 68, 69, 70, 71, 72, 73, 74, 75, 76, 77, 78] (by decide +kernel) (by decide +kernel)
set_option maxRecDepth 20000 in
theorem gX8_translate_X8_wipe : GoodIn wsX8_translate (wsV RX8 114 RX8 yX8_wipe wsX8_wipe) := goodIn_app (goodIn_of _ (by decide +kernel)) ggX8_translate_X8_wipe
theorem dX8_translate_0 : decode cX8_translate 0 = .ok (.aload_n 0, 1) := by decide +kernel
theorem dX8_translate_1 : decode cX8_translate 1 = .ok (.aload_n 0, 1) := by decide +kernel
theorem dX8_translate_2 : decode cX8_translate 2 = .ok (.iload_n 1, 1) := by decide +kernel
theorem dX8_translate_3 : decode cX8_translate 3 = .ok (.invokevirtual 132, 3) := by decide +kernel
theorem dX8_translate_6 : decode cX8_translate 6 = .ok (.iconst 1, 1) := by decide +kernel
theorem dX8_translate_7 : decode cX8_translate 7 = .ok (.invokevirtual 93, 3) := by decide +kernel
theorem dX8_translate_10 : decode cX8_translate 10 = .ok (.ifCond .ne 27, 3) := by decide +kernel
theorem dX8_translate_13 : decode cX8_translate 13 = .ok (.aload_n 0, 1) := by decide +kernel
theorem dX8_translate_14 : decode cX8_translate 14 = .ok (.aload_n 0, 1) := by decide +kernel
theorem dX8_translate_15 : decode cX8_translate 15 = .ok (.aload_n 0, 1) := by decide +kernel
theorem dX8_translate_16 : decode cX8_translate 16 = .ok (.getfield 102, 3) := by decide +kernel
theorem dX8_translate_19 : decode cX8_translate 19 = .ok (.invokevirtual 110, 3) := by decide +kernel
theorem dX8_translate_22 : decode cX8_translate 22 = .ok (.ifCond .ne 7, 3) := by decide +kernel
theorem dX8_translate_25 : decode cX8_translate 25 = .ok (.iconst 1, 1) := by decide +kernel
theorem dX8_translate_26 : decode cX8_translate 26 = .ok (.goto 4, 3) := by decide +kernel
theorem dX8_translate_29 : decode cX8_translate 29 = .ok (.iconst 0, 1) := by decide +kernel
theorem dX8_translate_30 : decode cX8_translate 30 = .ok (.iconst 2, 1) := by decide +kernel
theorem dX8_translate_31 : decode cX8_translate 31 = .ok (.invokevirtual 93, 3) := by decide +kernel
theorem dX8_translate_34 : decode cX8_translate 34 = .ok (.ifCond .eq 5, 3) := by decide +kernel
theorem dX8_translate_37 : decode cX8_translate 37 = .ok (.iconst 0, 1) := by decide +kernel
theorem dX8_translate_38 : decode cX8_translate 38 = .ok (.ireturn, 1) := by decide +kernel
theorem dX8_translate_39 : decode cX8_translate 39 = .ok (.aload_n 0, 1) := by decide +kernel
theorem dX8_translate_40 : decode cX8_translate 40 = .ok (.iload_n 1, 1) := by decide +kernel
theorem dX8_translate_41 : decode cX8_translate 41 = .ok (.aload_n 0, 1) := by decide +kernel
theorem dX8_translate_42 : decode cX8_translate 42 = .ok (.getfield 13, 3) := by decide +kernel
theorem dX8_translate_45 : decode cX8_translate 45 = .ok (.iload_n 1, 1) := by decide +kernel
theorem dX8_translate_46 : decode cX8_translate 46 = .ok (.laload, 1) := by decide +kernel
theorem dX8_translate_47 : decode cX8_translate 47 = .ok (.invokevirtual 136, 3) := by decide +kernel
theorem dX8_translate_50 : decode cX8_translate 50 = .ok (.aload_n 0, 1) := by decide +kernel
theorem dX8_translate_51 : decode cX8_translate 51 = .ok (.getfield 13, 3) := by decide +kernel
theorem dX8_translate_54 : decode cX8_translate 54 = .ok (.iload_n 1, 1) := by decide +kernel
theorem dX8_translate_55 : decode cX8_translate 55 = .ok (.aload_n 0, 1) := by decide +kernel
theorem dX8_translate_56 : decode cX8_translate 56 = .ok (.getfield 102, 3) := by decide +kernel
theorem dX8_translate_59 : decode cX8_translate 59 = .ok (.lastore, 1) := by decide +kernel
theorem dX8_translate_60 : decode cX8_translate 60 = .ok (.aload_n 0, 1) := by decide +kernel
theorem dX8_translate_61 : decode cX8_translate 61 = .ok (.invokevirtual 114, 3) := by decide +kernel
theorem dX8_translate_64 : decode cX8_translate 64 = .ok (.pop, 1) := by decide +kernel
theorem dX8_translate_65 : decode cX8_translate 65 = .ok (.aload_n 0, 1) := by decide +kernel
theorem dX8_translate_66 : decode cX8_translate 66 = .ok (.getfield 118, 3) := by decide +kernel
theorem dX8_translate_69 : decode cX8_translate 69 = .ok (.ireturn, 1) := by decide +kernel
set_option maxRecDepth 20000 in
theorem ggX8_letter_X8_isStreet : GoodIn wsX8_letter wsX8_isStreet := goodIn_ca (goodIn_r _ [8, 9, 10, 11, 12, 7, 13, 19, 20, 21, 22, 23, 24, 25, 26, 27, 28, 29, 30, 31, 32, 33, 34, 35, 36, 37, 38, 39, 40, 41, 42, 43, 44, 45, 46, 47, 48] (by decide +kernel) (by decide +kernel)) (goodIn_sub (fun _ h => List.mem_cons_of_mem _ (List.mem_append_right _ h)) (by decide +kernel))
set_option maxRecDepth 20000 in
theorem gX8_letter_X8_isStreet : GoodIn wsX8_letter (wsV RX8 132 RX8 yX8_isStreet wsX8_isStreet) := goodIn_app (goodIn_of _ (by decide +kernel)) ggX8_letter_X8_isStreet
set_option maxRecDepth 20000 in
theorem ggX8_letter_X8_no : GoodIn wsX8_letter wsX8_no := goodIn_r _ [17, 18, 19, 20, 21, 22, 23, 24, 25, 26, 27, 28, 29, 30, 31, 32, 33, 34, 35, 36, 37, 38, 39, 40, 41, 42, 43, 44, 45, 46, 47, 48] (by decide +kernel) (by decide +kernel)
set_option maxRecDepth 20000 in
theorem gX8_letter_X8_no : GoodIn wsX8_letter (wsV RX8 93 RX8 yX8_no wsX8_no) := goodIn_app (goodIn_of _ (by decide +kernel)) ggX8_letter_X8_no
set_option maxRecDepth 20000 in
theorem ggX8_letter_X8_isBetween : GoodIn wsX8_letter wsX8_isBetween := goodIn_r _ [13] (by decide +kernel) (by decide +kernel)
set_option maxRecDepth 20000 in
theorem gX8_letter_X8_isBetween : GoodIn wsX8_letter (va_wsS RX8 86 yX8_isBetween wsX8_isBetween) := goodIn_app (goodIn_of _ (by decide +kernel)) ggX8_letter_X8_isBetween
theorem dX8_letter_0 : decode cX8_letter 0 = .ok (.aload_n 0, 1) := by decide +kernel
theorem dX8_letter_1 : decode cX8_letter 1 = .ok (.aload_n 0, 1) := by decide +kernel
theorem dX8_letter_2 : decode cX8_letter 2 = .ok (.iload_n 1, 1) := by decide +kernel
theorem dX8_letter_3 : decode cX8_letter 3 = .ok (.invokevirtual 132, 3) := by decide +kernel
theorem dX8_letter_6 : decode cX8_letter 6 = .ok (.iconst 1, 1) := by decide +kernel
theorem dX8_letter_7 : decode cX8_letter 7 = .ok (.invokevirtual 93, 3) := by decide +kernel
theorem dX8_letter_10 : decode cX8_letter 10 = .ok (.ifCond .eq 6, 3) := by decide +kernel
theorem dX8_letter_13 : decode cX8_letter 13 = .ok (.bipush 45, 2) := by decide +kernel
theorem dX8_letter_15 : decode cX8_letter 15 = .ok (.ireturn, 1) := by decide +kernel
theorem dX8_letter_16 : decode cX8_letter 16 = .ok (.iload_n 2, 1) := by decide +kernel
theorem dX8_letter_17 : decode cX8_letter 17 = .ok (.ifCond .eq 12, 3) := by decide +kernel
theorem dX8_letter_20 : decode cX8_letter 20 = .ok (.aload_n 0, 1) := by decide +kernel
theorem dX8_letter_21 : decode cX8_letter 21 = .ok (.getfield 13, 3) := by decide +kernel
theorem dX8_letter_24 : decode cX8_letter 24 = .ok (.iload_n 1, 1) := by decide +kernel
theorem dX8_letter_25 : decode cX8_letter 25 = .ok (.laload, 1) := by decide +kernel
theorem dX8_letter_26 : decode cX8_letter 26 = .ok (.goto 9, 3) := by decide +kernel
theorem dX8_letter_29 : decode cX8_letter 29 = .ok (.aload_n 0, 1) := by decide +kernel
theorem dX8_letter_30 : decode cX8_letter 30 = .ok (.getfield 7, 3) := by decide +kernel
theorem dX8_letter_33 : decode cX8_letter 33 = .ok (.iload_n 1, 1) := by decide +kernel
theorem dX8_letter_34 : decode cX8_letter 34 = .ok (.laload, 1) := by decide +kernel
theorem dX8_letter_35 : decode cX8_letter 35 = .ok (.lstore 4, 2) := by decide +kernel
theorem dX8_letter_37 : decode cX8_letter 37 = .ok (.iconst 0, 1) := by decide +kernel
theorem dX8_letter_38 : decode cX8_letter 38 = .ok (.istore 6, 2) := by decide +kernel
theorem dX8_letter_40 : decode cX8_letter 40 = .ok (.lload 4, 2) := by decide +kernel
theorem dX8_letter_42 : decode cX8_letter 42 = .ok (.lstore 7, 2) := by decide +kernel
theorem dX8_letter_44 : decode cX8_letter 44 = .ok (.lload 7, 2) := by decide +kernel
theorem dX8_letter_46 : decode cX8_letter 46 = .ok (.lconst 0, 1) := by decide +kernel
theorem dX8_letter_47 : decode cX8_letter 47 = .ok (.lcmp, 1) := by decide +kernel
theorem dX8_letter_48 : decode cX8_letter 48 = .ok (.ifCond .le 17, 3) := by decide +kernel
theorem dX8_letter_51 : decode cX8_letter 51 = .ok (.iinc 6 1, 3) := by decide +kernel
theorem dX8_letter_54 : decode cX8_letter 54 = .ok (.lload 7, 2) := by decide +kernel
theorem dX8_letter_56 : decode cX8_letter 56 = .ok (.ldc2_w 100, 3) := by decide +kernel
theorem dX8_letter_59 : decode cX8_letter 59 = .ok (.ldiv, 1) := by decide +kernel
theorem dX8_letter_60 : decode cX8_letter 60 = .ok (.lstore 7, 2) := by decide +kernel
theorem dX8_letter_62 : decode cX8_letter 62 = .ok (.goto (-18), 3) := by decide +kernel
theorem dX8_letter_65 : decode cX8_letter 65 = .ok (.aload_n 0, 1) := by decide +kernel
theorem dX8_letter_66 : decode cX8_letter 66 = .ok (.iload_n 3, 1) := by decide +kernel
theorem dX8_letter_67 : decode cX8_letter 67 = .ok (.iconst 0, 1) := by decide +kernel
theorem dX8_letter_68 : decode cX8_letter 68 = .ok (.iload 6, 2) := by decide +kernel
theorem dX8_letter_70 : decode cX8_letter 70 = .ok (.iconst 1, 1) := by decide +kernel
theorem dX8_letter_71 : decode cX8_letter 71 = .ok (.isub, 1) := by decide +kernel
theorem dX8_letter_72 : decode cX8_letter 72 = .ok (.invokestatic 86, 3) := by decide +kernel
theorem dX8_letter_75 : decode cX8_letter 75 = .ok (.iconst 2, 1) := by decide +kernel
theorem dX8_letter_76 : decode cX8_letter 76 = .ok (.invokevirtual 93, 3) := by decide +kernel
theorem dX8_letter_79 : decode cX8_letter 79 = .ok (.ifCond .eq 6, 3) := by decide +kernel
theorem dX8_letter_82 : decode cX8_letter 82 = .ok (.bipush 45, 2) := by decide +kernel
theorem dX8_letter_84 : decode cX8_letter 84 = .ok (.ireturn, 1) := by decide +kernel
theorem dX8_letter_85 : decode cX8_letter 85 = .ok (.iload 6, 2) := by decide +kernel
theorem dX8_letter_87 : decode cX8_letter 87 = .ok (.iconst 1, 1) := by decide +kernel
theorem dX8_letter_88 : decode cX8_letter 88 = .ok (.isub, 1) := by decide +kernel
theorem dX8_letter_89 : decode cX8_letter 89 = .ok (.istore 7, 2) := by decide +kernel
theorem dX8_letter_91 : decode cX8_letter 91 = .ok (.iload 7, 2) := by decide +kernel
theorem dX8_letter_93 : decode cX8_letter 93 = .ok (.iload_n 3, 1) := by decide +kernel
theorem dX8_letter_94 : decode cX8_letter 94 = .ok (.if_icmp .le 17, 3) := by decide +kernel
theorem dX8_letter_97 : decode cX8_letter 97 = .ok (.lload 4, 2) := by decide +kernel
theorem dX8_letter_99 : decode cX8_letter 99 = .ok (.ldc2_w 100, 3) := by decide +kernel
theorem dX8_letter_102 : decode cX8_letter 102 = .ok (.ldiv, 1) := by decide +kernel
theorem dX8_letter_103 : decode cX8_letter 103 = .ok (.lstore 4, 2) := by decide +kernel
theorem dX8_letter_105 : decode cX8_letter 105 = .ok (.iinc 7 (-1), 3) := by decide +kernel
theorem dX8_letter_108 : decode cX8_letter 108 = .ok (.goto (-17), 3) := by decide +kernel
theorem dX8_letter_111 : decode cX8_letter 111 = .ok (.bipush 97, 2) := by decide +kernel
theorem dX8_letter_113 : decode cX8_letter 113 = .ok (.lload 4, 2) := by decide +kernel
theorem dX8_letter_115 : decode cX8_letter 115 = .ok (.ldc2_w 100, 3) := by decide +kernel
theorem dX8_letter_118 : decode cX8_letter 118 = .ok (.lrem, 1) := by decide +kernel
theorem dX8_letter_119 : decode cX8_letter 119 = .ok (.l2i, 1) := by decide +kernel
theorem dX8_letter_120 : decode cX8_letter 120 = .ok (.iadd, 1) := by decide +kernel
theorem dX8_letter_121 : decode cX8_letter 121 = .ok (.iconst 1, 1) := by decide +kernel
theorem dX8_letter_122 : decode cX8_letter 122 = .ok (.isub, 1) := by decide +kernel
theorem dX8_letter_123 : decode cX8_letter 123 = .ok (.i2c, 1) := by decide +kernel
theorem dX8_letter_124 : decode cX8_letter 124 = .ok (.ireturn, 1) := by decide +kernel
set_option maxRecDepth 20000 in
theorem ggX8_way_X8_isStreet : GoodIn wsX8_way wsX8_isStreet := goodIn_ca (goodIn_r _ [7, 8, 9, 10, 11, 6, 12, 21, 22, 23, 24, 25, 26, 27, 28, 29, 30, 31, 32, 33, 34, 35, 36, 37, 38, 39, 40, 41, 42, 43, 44, 45, 46, 47, 48, 49, 50] (by decide +kernel) (by decide +kernel)) (goodIn_sub (fun _ h => List.mem_cons_of_mem _ (List.mem_append_right _ h)) (by decide +kernel))
set_option maxRecDepth 20000 in
theorem gX8_way_X8_isStreet : GoodIn wsX8_way (wsV RX8 132 RX8 yX8_isStreet wsX8_isStreet) := goodIn_app (goodIn_of _ (by decide +kernel)) ggX8_way_X8_isStreet
set_option maxRecDepth 20000 in
theorem ggX8_way_X8_no : GoodIn wsX8_way wsX8_no := goodIn_r _ [16, 17, 21, 22, 23, 24, 25, 26, 27, 28, 29, 30, 31, 32, 33, 34, 35, 36, 37, 38, 39, 40, 41, 42, 43, 44, 45, 46, 47, 48, 49, 50] (by decide +kernel) (by decide +kernel)
set_option maxRecDepth 20000 in
theorem gX8_way_X8_no : GoodIn wsX8_way (wsV RX8 93 RX8 yX8_no wsX8_no) := goodIn_app (goodIn_of _ (by decide +kernel)) ggX8_way_X8_no
set_option maxRecDepth 20000 in
theorem ggX8_way_X8_isWay : GoodIn wsX8_way wsX8_isWay := goodIn_r _ [20] (by decide +kernel) (by decide +kernel)
set_option maxRecDepth 20000 in
theorem gX8_way_X8_isWay : GoodIn wsX8_way (va_wsS RX8 106 yX8_isWay wsX8_isWay) := goodIn_app (goodIn_of _ (by decide +kernel)) ggX8_way_X8_isWay
theorem dX8_way_0 : decode cX8_way 0 = .ok (.aload_n 0, 1) := by decide +kernel
theorem dX8_way_1 : decode cX8_way 1 = .ok (.aload_n 0, 1) := by decide +kernel
theorem dX8_way_2 : decode cX8_way 2 = .ok (.iload_n 1, 1) := by decide +kernel
theorem dX8_way_3 : decode cX8_way 3 = .ok (.invokevirtual 132, 3) := by decide +kernel
theorem dX8_way_6 : decode cX8_way 6 = .ok (.iconst 1, 1) := by decide +kernel
theorem dX8_way_7 : decode cX8_way 7 = .ok (.invokevirtual 93, 3) := by decide +kernel
theorem dX8_way_10 : decode cX8_way 10 = .ok (.ifCond .ne 15, 3) := by decide +kernel
theorem dX8_way_13 : decode cX8_way 13 = .ok (.aload_n 0, 1) := by decide +kernel
theorem dX8_way_14 : decode cX8_way 14 = .ok (.iload_n 2, 1) := by decide +kernel
theorem dX8_way_15 : decode cX8_way 15 = .ok (.invokestatic 106, 3) := by decide +kernel
theorem dX8_way_18 : decode cX8_way 18 = .ok (.iconst 2, 1) := by decide +kernel
theorem dX8_way_19 : decode cX8_way 19 = .ok (.invokevirtual 93, 3) := by decide +kernel
theorem dX8_way_22 : decode cX8_way 22 = .ok (.ifCond .eq 6, 3) := by decide +kernel
theorem dX8_way_25 : decode cX8_way 25 = .ok (.bipush 45, 2) := by decide +kernel
theorem dX8_way_27 : decode cX8_way 27 = .ok (.ireturn, 1) := by decide +kernel
theorem dX8_way_28 : decode cX8_way 28 = .ok (.aload_n 0, 1) := by decide +kernel
theorem dX8_way_29 : decode cX8_way 29 = .ok (.getfield 20, 3) := by decide +kernel
theorem dX8_way_32 : decode cX8_way 32 = .ok (.iload_n 1, 1) := by decide +kernel
theorem dX8_way_33 : decode cX8_way 33 = .ok (.caload, 1) := by decide +kernel
theorem dX8_way_34 : decode cX8_way 34 = .ok (.istore 4, 2) := by decide +kernel
theorem dX8_way_36 : decode cX8_way 36 = .ok (.aload_n 0, 1) := by decide +kernel
theorem dX8_way_37 : decode cX8_way 37 = .ok (.getfield 20, 3) := by decide +kernel
theorem dX8_way_40 : decode cX8_way 40 = .ok (.iload_n 1, 1) := by decide +kernel
theorem dX8_way_41 : decode cX8_way 41 = .ok (.iload_n 2, 1) := by decide +kernel
theorem dX8_way_42 : decode cX8_way 42 = .ok (.castore, 1) := by decide +kernel
theorem dX8_way_43 : decode cX8_way 43 = .ok (.aload_n 0, 1) := by decide +kernel
theorem dX8_way_44 : decode cX8_way 44 = .ok (.getfield 24, 3) := by decide +kernel
theorem dX8_way_47 : decode cX8_way 47 = .ok (.iload_n 1, 1) := by decide +kernel
theorem dX8_way_48 : decode cX8_way 48 = .ok (.iload_n 3, 1) := by decide +kernel
theorem dX8_way_49 : decode cX8_way 49 = .ok (.bastore, 1) := by decide +kernel
theorem dX8_way_50 : decode cX8_way 50 = .ok (.iload 4, 2) := by decide +kernel
theorem dX8_way_52 : decode cX8_way 52 = .ok (.ireturn, 1) := by decide +kernel
theorem dX8_from_0 : decode cX8_from 0 = .ok (.aload_n 0, 1) := by decide +kernel
theorem dX8_from_1 : decode cX8_from 1 = .ok (.getfield 24, 3) := by decide +kernel
theorem dX8_from_4 : decode cX8_from 4 = .ok (.iload_n 1, 1) := by decide +kernel
theorem dX8_from_5 : decode cX8_from 5 = .ok (.baload, 1) := by decide +kernel
theorem dX8_from_6 : decode cX8_from 6 = .ok (.ifCond .eq 14, 3) := by decide +kernel
theorem dX8_from_9 : decode cX8_from 9 = .ok (.aload_n 0, 1) := by decide +kernel
theorem dX8_from_10 : decode cX8_from 10 = .ok (.getfield 16, 3) := by decide +kernel
theorem dX8_from_13 : decode cX8_from 13 = .ok (.iload_n 1, 1) := by decide +kernel
theorem dX8_from_14 : decode cX8_from 14 = .ok (.iaload, 1) := by decide +kernel
theorem dX8_from_15 : decode cX8_from 15 = .ok (.iload_n 2, 1) := by decide +kernel
theorem dX8_from_16 : decode cX8_from 16 = .ok (.isub, 1) := by decide +kernel
theorem dX8_from_17 : decode cX8_from 17 = .ok (.goto 4, 3) := by decide +kernel
theorem dX8_from_20 : decode cX8_from 20 = .ok (.iload_n 2, 1) := by decide +kernel
theorem dX8_from_21 : decode cX8_from 21 = .ok (.ireturn, 1) := by decide +kernel
theorem dX8_isGiven_0 : decode cX8_isGiven 0 = .ok (.iconst 0, 1) := by decide +kernel
theorem dX8_isGiven_1 : decode cX8_isGiven 1 = .ok (.istore_n 3, 1) := by decide +kernel
theorem dX8_isGiven_2 : decode cX8_isGiven 2 = .ok (.iconst 0, 1) := by decide +kernel
theorem dX8_isGiven_3 : decode cX8_isGiven 3 = .ok (.istore 4, 2) := by decide +kernel
theorem dX8_isGiven_5 : decode cX8_isGiven 5 = .ok (.iload 4, 2) := by decide +kernel
theorem dX8_isGiven_7 : decode cX8_isGiven 7 = .ok (.iconst 2, 1) := by decide +kernel
theorem dX8_isGiven_8 : decode cX8_isGiven 8 = .ok (.aload_n 0, 1) := by decide +kernel
theorem dX8_isGiven_9 : decode cX8_isGiven 9 = .ok (.getfield 90, 3) := by decide +kernel
theorem dX8_isGiven_12 : decode cX8_isGiven 12 = .ok (.imul, 1) := by decide +kernel
theorem dX8_isGiven_13 : decode cX8_isGiven 13 = .ok (.if_icmp .ge 39, 3) := by decide +kernel
theorem dX8_isGiven_16 : decode cX8_isGiven 16 = .ok (.iload_n 3, 1) := by decide +kernel
theorem dX8_isGiven_17 : decode cX8_isGiven 17 = .ok (.aload_n 0, 1) := by decide +kernel
theorem dX8_isGiven_18 : decode cX8_isGiven 18 = .ok (.getfield 34, 3) := by decide +kernel
theorem dX8_isGiven_21 : decode cX8_isGiven 21 = .ok (.iload 4, 2) := by decide +kernel
theorem dX8_isGiven_23 : decode cX8_isGiven 23 = .ok (.iaload, 1) := by decide +kernel
theorem dX8_isGiven_24 : decode cX8_isGiven 24 = .ok (.iload_n 1, 1) := by decide +kernel
theorem dX8_isGiven_25 : decode cX8_isGiven 25 = .ok (.if_icmp .ne 18, 3) := by decide +kernel
theorem dX8_isGiven_28 : decode cX8_isGiven 28 = .ok (.aload_n 0, 1) := by decide +kernel
theorem dX8_isGiven_29 : decode cX8_isGiven 29 = .ok (.getfield 43, 3) := by decide +kernel
theorem dX8_isGiven_32 : decode cX8_isGiven 32 = .ok (.iload 4, 2) := by decide +kernel
theorem dX8_isGiven_34 : decode cX8_isGiven 34 = .ok (.iaload, 1) := by decide +kernel
theorem dX8_isGiven_35 : decode cX8_isGiven 35 = .ok (.iload_n 2, 1) := by decide +kernel
theorem dX8_isGiven_36 : decode cX8_isGiven 36 = .ok (.if_icmp .ne 7, 3) := by decide +kernel
theorem dX8_isGiven_39 : decode cX8_isGiven 39 = .ok (.iconst 1, 1) := by decide +kernel
theorem dX8_isGiven_40 : decode cX8_isGiven 40 = .ok (.goto 4, 3) := by decide +kernel
theorem dX8_isGiven_43 : decode cX8_isGiven 43 = .ok (.iconst 0, 1) := by decide +kernel
theorem dX8_isGiven_44 : decode cX8_isGiven 44 = .ok (.ior, 1) := by decide +kernel
theorem dX8_isGiven_45 : decode cX8_isGiven 45 = .ok (.istore_n 3, 1) := by decide +kernel
theorem dX8_isGiven_46 : decode cX8_isGiven 46 = .ok (.iinc 4 1, 3) := by decide +kernel
theorem dX8_isGiven_49 : decode cX8_isGiven 49 = .ok (.goto (-44), 3) := by decide +kernel
theorem dX8_isGiven_52 : decode cX8_isGiven 52 = .ok (.iload_n 3, 1) := by decide +kernel
theorem dX8_isGiven_53 : decode cX8_isGiven 53 = .ok (.ireturn, 1) := by decide +kernel
theorem dX8_isNumberGiven_0 : decode cX8_isNumberGiven 0 = .ok (.iconst 0, 1) := by decide +kernel
theorem dX8_isNumberGiven_1 : decode cX8_isNumberGiven 1 = .ok (.istore_n 3, 1) := by decide +kernel
theorem dX8_isNumberGiven_2 : decode cX8_isNumberGiven 2 = .ok (.iconst 0, 1) := by decide +kernel
theorem dX8_isNumberGiven_3 : decode cX8_isNumberGiven 3 = .ok (.istore 4, 2) := by decide +kernel
theorem dX8_isNumberGiven_5 : decode cX8_isNumberGiven 5 = .ok (.iload 4, 2) := by decide +kernel
theorem dX8_isNumberGiven_7 : decode cX8_isNumberGiven 7 = .ok (.iconst 2, 1) := by decide +kernel
theorem dX8_isNumberGiven_8 : decode cX8_isNumberGiven 8 = .ok (.aload_n 0, 1) := by decide +kernel
theorem dX8_isNumberGiven_9 : decode cX8_isNumberGiven 9 = .ok (.getfield 90, 3) := by decide +kernel
theorem dX8_isNumberGiven_12 : decode cX8_isNumberGiven 12 = .ok (.imul, 1) := by decide +kernel
theorem dX8_isNumberGiven_13 : decode cX8_isNumberGiven 13 = .ok (.if_icmp .ge 52, 3) := by decide +kernel
theorem dX8_isNumberGiven_16 : decode cX8_isNumberGiven 16 = .ok (.iload_n 3, 1) := by decide +kernel
theorem dX8_isNumberGiven_17 : decode cX8_isNumberGiven 17 = .ok (.aload_n 0, 1) := by decide +kernel
theorem dX8_isNumberGiven_18 : decode cX8_isNumberGiven 18 = .ok (.getfield 34, 3) := by decide +kernel
theorem dX8_isNumberGiven_21 : decode cX8_isNumberGiven 21 = .ok (.iload 4, 2) := by decide +kernel
theorem dX8_isNumberGiven_23 : decode cX8_isNumberGiven 23 = .ok (.iaload, 1) := by decide +kernel
theorem dX8_isNumberGiven_24 : decode cX8_isNumberGiven 24 = .ok (.iload_n 1, 1) := by decide +kernel
theorem dX8_isNumberGiven_25 : decode cX8_isNumberGiven 25 = .ok (.if_icmp .ne 31, 3) := by decide +kernel
theorem dX8_isNumberGiven_28 : decode cX8_isNumberGiven 28 = .ok (.aload_n 0, 1) := by decide +kernel
theorem dX8_isNumberGiven_29 : decode cX8_isNumberGiven 29 = .ok (.getfield 43, 3) := by decide +kernel
theorem dX8_isNumberGiven_32 : decode cX8_isNumberGiven 32 = .ok (.iload 4, 2) := by decide +kernel
theorem dX8_isNumberGiven_34 : decode cX8_isNumberGiven 34 = .ok (.iaload, 1) := by decide +kernel
theorem dX8_isNumberGiven_35 : decode cX8_isNumberGiven 35 = .ok (.ifCond .lt 21, 3) := by decide +kernel
theorem dX8_isNumberGiven_38 : decode cX8_isNumberGiven 38 = .ok (.aload_n 0, 1) := by decide +kernel
theorem dX8_isNumberGiven_39 : decode cX8_isNumberGiven 39 = .ok (.getfield 43, 3) := by decide +kernel
theorem dX8_isNumberGiven_42 : decode cX8_isNumberGiven 42 = .ok (.iload 4, 2) := by decide +kernel
theorem dX8_isNumberGiven_44 : decode cX8_isNumberGiven 44 = .ok (.iaload, 1) := by decide +kernel
theorem dX8_isNumberGiven_45 : decode cX8_isNumberGiven 45 = .ok (.bipush 10, 2) := by decide +kernel
theorem dX8_isNumberGiven_47 : decode cX8_isNumberGiven 47 = .ok (.idiv, 1) := by decide +kernel
theorem dX8_isNumberGiven_48 : decode cX8_isNumberGiven 48 = .ok (.iload_n 2, 1) := by decide +kernel
theorem dX8_isNumberGiven_49 : decode cX8_isNumberGiven 49 = .ok (.if_icmp .ne 7, 3) := by decide +kernel
theorem dX8_isNumberGiven_52 : decode cX8_isNumberGiven 52 = .ok (.iconst 1, 1) := by decide +kernel
theorem dX8_isNumberGiven_53 : decode cX8_isNumberGiven 53 = .ok (.goto 4, 3) := by decide +kernel
theorem dX8_isNumberGiven_56 : decode cX8_isNumberGiven 56 = .ok (.iconst 0, 1) := by decide +kernel
theorem dX8_isNumberGiven_57 : decode cX8_isNumberGiven 57 = .ok (.ior, 1) := by decide +kernel
theorem dX8_isNumberGiven_58 : decode cX8_isNumberGiven 58 = .ok (.istore_n 3, 1) := by decide +kernel
theorem dX8_isNumberGiven_59 : decode cX8_isNumberGiven 59 = .ok (.iinc 4 1, 3) := by decide +kernel
theorem dX8_isNumberGiven_62 : decode cX8_isNumberGiven 62 = .ok (.goto (-57), 3) := by decide +kernel
theorem dX8_isNumberGiven_65 : decode cX8_isNumberGiven 65 = .ok (.iload_n 3, 1) := by decide +kernel
theorem dX8_isNumberGiven_66 : decode cX8_isNumberGiven 66 = .ok (.ireturn, 1) := by decide +kernel
set_option maxRecDepth 20000 in
theorem ggX8_lettered_X8_isGiven : GoodIn wsX8_lettered wsX8_isGiven := goodIn_ca (goodIn_r _ [5, 6, 7, 8, 9, 10, 11, 12, 13, 14, 15, 16, 17, 18, 19, 20, 21, 22, 23, 24, 25, 26, 27, 28, 29, 30, 31, 32, 33, 34, 35, 36, 37, 38] (by decide +kernel) (by decide +kernel)) (goodIn_sub (fun _ h => List.mem_cons_of_mem _ (List.mem_append_right _ h)) (by decide +kernel))
set_option maxRecDepth 20000 in
theorem gX8_lettered_X8_isGiven : GoodIn wsX8_lettered (wsV RX8 140 RX8 yX8_isGiven wsX8_isGiven) := goodIn_app (goodIn_of _ (by decide +kernel)) ggX8_lettered_X8_isGiven
theorem dX8_lettered_0 : decode cX8_lettered 0 = .ok (.iload_n 3, 1) := by decide +kernel
theorem dX8_lettered_1 : decode cX8_lettered 1 = .ok (.istore 4, 2) := by decide +kernel
theorem dX8_lettered_3 : decode cX8_lettered 3 = .ok (.iload 4, 2) := by decide +kernel
theorem dX8_lettered_5 : decode cX8_lettered 5 = .ok (.bipush 10, 2) := by decide +kernel
theorem dX8_lettered_7 : decode cX8_lettered 7 = .ok (.if_icmp .ge 32, 3) := by decide +kernel
theorem dX8_lettered_10 : decode cX8_lettered 10 = .ok (.aload_n 0, 1) := by decide +kernel
theorem dX8_lettered_11 : decode cX8_lettered 11 = .ok (.iload_n 1, 1) := by decide +kernel
theorem dX8_lettered_12 : decode cX8_lettered 12 = .ok (.bipush 10, 2) := by decide +kernel
theorem dX8_lettered_14 : decode cX8_lettered 14 = .ok (.iload_n 2, 1) := by decide +kernel
theorem dX8_lettered_15 : decode cX8_lettered 15 = .ok (.imul, 1) := by decide +kernel
theorem dX8_lettered_16 : decode cX8_lettered 16 = .ok (.iload 4, 2) := by decide +kernel
theorem dX8_lettered_18 : decode cX8_lettered 18 = .ok (.iadd, 1) := by decide +kernel
theorem dX8_lettered_19 : decode cX8_lettered 19 = .ok (.invokevirtual 140, 3) := by decide +kernel
theorem dX8_lettered_22 : decode cX8_lettered 22 = .ok (.ifCond .ne 11, 3) := by decide +kernel
theorem dX8_lettered_25 : decode cX8_lettered 25 = .ok (.bipush 10, 2) := by decide +kernel
theorem dX8_lettered_27 : decode cX8_lettered 27 = .ok (.iload_n 2, 1) := by decide +kernel
theorem dX8_lettered_28 : decode cX8_lettered 28 = .ok (.imul, 1) := by decide +kernel
theorem dX8_lettered_29 : decode cX8_lettered 29 = .ok (.iload 4, 2) := by decide +kernel
theorem dX8_lettered_31 : decode cX8_lettered 31 = .ok (.iadd, 1) := by decide +kernel
theorem dX8_lettered_32 : decode cX8_lettered 32 = .ok (.ireturn, 1) := by decide +kernel
theorem dX8_lettered_33 : decode cX8_lettered 33 = .ok (.iinc 4 1, 3) := by decide +kernel
theorem dX8_lettered_36 : decode cX8_lettered 36 = .ok (.goto (-33), 3) := by decide +kernel
theorem dX8_lettered_39 : decode cX8_lettered 39 = .ok (.iconst (-1), 1) := by decide +kernel
theorem dX8_lettered_40 : decode cX8_lettered 40 = .ok (.ireturn, 1) := by decide +kernel
set_option maxRecDepth 20000 in
theorem ggX8_comes_X8_from : GoodIn wsX8_comes wsX8_from := goodIn_ca (goodIn_r _ [12, 13, 14, 31, 32, 33, 34, 35, 36, 37, 38, 39, 40, 41, 42, 43, 44, 45, 46, 47, 48, 49, 50, 51, 52, 53, 54, 55, 56, 57, 58, 59, 60] (by decide +kernel) (by decide +kernel)) (goodIn_sub (fun _ h => List.mem_cons_of_mem _ (List.mem_append_right _ h)) (by decide +kernel))
set_option maxRecDepth 20000 in
theorem gX8_comes_X8_from : GoodIn wsX8_comes (wsV RX8 144 RX8 yX8_from wsX8_from) := goodIn_app (goodIn_of _ (by decide +kernel)) ggX8_comes_X8_from
set_option maxRecDepth 20000 in
theorem ggX8_comes_X8_lettered : GoodIn wsX8_comes wsX8_lettered := goodIn_ca (goodIn_r _ [18, 19, 20, 21, 11, 22, 3, 4, 5, 31, 32, 33, 34, 35, 36, 37, 38, 39, 40, 41, 42, 43, 44, 45, 46, 47, 48, 49, 50, 51, 52, 53, 54, 55, 56, 57, 58, 59, 60] (by decide +kernel) (by decide +kernel)) (goodIn_sub (fun _ h => List.mem_cons_of_mem _ (List.mem_append_right _ h)) (by decide +kernel))
