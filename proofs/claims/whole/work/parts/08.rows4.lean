set_option maxRecDepth 20000 in
theorem gX8_address_X8_isDoor : GoodIn wsX8_address (wsV RX8 169 RX8 yX8_isDoor wsX8_isDoor) := goodIn_app (goodIn_of _ (by decide +kernel)) ggX8_address_X8_isDoor
set_option maxRecDepth 20000 in
theorem ggX8_address_X8_no : GoodIn wsX8_address wsX8_no := goodIn_r _ [15, 16, 21, 22, 23, 24, 25, 26, 27, 28, 29, 30, 31, 32, 33, 34, 35, 36, 37, 38, 39, 40, 41, 42, 43, 44, 45, 46, 47, 48, 49, 50] (by decide +kernel) (by decide +kernel)
set_option maxRecDepth 20000 in
theorem gX8_address_X8_no : GoodIn wsX8_address (wsV RX8 93 RX8 yX8_no wsX8_no) := goodIn_app (goodIn_of _ (by decide +kernel)) ggX8_address_X8_no
set_option maxRecDepth 20000 in
theorem ggX8_address_X8_placeOf : GoodIn wsX8_address wsX8_placeOf := goodIn_r _ [20] (by decide +kernel) (by decide +kernel)
set_option maxRecDepth 20000 in
theorem gX8_address_X8_placeOf : GoodIn wsX8_address (wsV RX8 200 RX8 yX8_placeOf wsX8_placeOf) := goodIn_app (goodIn_of _ (by decide +kernel)) ggX8_address_X8_placeOf
theorem dX8_address_0 : decode cX8_address 0 = .ok (.aload_n 0, 1) := by decide +kernel
theorem dX8_address_1 : decode cX8_address 1 = .ok (.aload_n 0, 1) := by decide +kernel
theorem dX8_address_2 : decode cX8_address 2 = .ok (.iload_n 1, 1) := by decide +kernel
theorem dX8_address_3 : decode cX8_address 3 = .ok (.invokevirtual 169, 3) := by decide +kernel
theorem dX8_address_6 : decode cX8_address 6 = .ok (.iconst 1, 1) := by decide +kernel
theorem dX8_address_7 : decode cX8_address 7 = .ok (.invokevirtual 93, 3) := by decide +kernel
theorem dX8_address_10 : decode cX8_address 10 = .ok (.ifCond .ne 31, 3) := by decide +kernel
theorem dX8_address_13 : decode cX8_address 13 = .ok (.aload_n 0, 1) := by decide +kernel
theorem dX8_address_14 : decode cX8_address 14 = .ok (.aload_n 0, 1) := by decide +kernel
theorem dX8_address_15 : decode cX8_address 15 = .ok (.getfield 34, 3) := by decide +kernel
theorem dX8_address_18 : decode cX8_address 18 = .ok (.aload_n 0, 1) := by decide +kernel
theorem dX8_address_19 : decode cX8_address 19 = .ok (.iload_n 1, 1) := by decide +kernel
theorem dX8_address_20 : decode cX8_address 20 = .ok (.iload_n 2, 1) := by decide +kernel
theorem dX8_address_21 : decode cX8_address 21 = .ok (.invokevirtual 200, 3) := by decide +kernel
theorem dX8_address_24 : decode cX8_address 24 = .ok (.iaload, 1) := by decide +kernel
theorem dX8_address_25 : decode cX8_address 25 = .ok (.iconst (-1), 1) := by decide +kernel
theorem dX8_address_26 : decode cX8_address 26 = .ok (.if_icmp .eq 7, 3) := by decide +kernel
theorem dX8_address_29 : decode cX8_address 29 = .ok (.iconst 1, 1) := by decide +kernel
theorem dX8_address_30 : decode cX8_address 30 = .ok (.goto 4, 3) := by decide +kernel
theorem dX8_address_33 : decode cX8_address 33 = .ok (.iconst 0, 1) := by decide +kernel
theorem dX8_address_34 : decode cX8_address 34 = .ok (.iconst 2, 1) := by decide +kernel
theorem dX8_address_35 : decode cX8_address 35 = .ok (.invokevirtual 93, 3) := by decide +kernel
theorem dX8_address_38 : decode cX8_address 38 = .ok (.ifCond .eq 7, 3) := by decide +kernel
theorem dX8_address_41 : decode cX8_address 41 = .ok (.iconst 0, 1) := by decide +kernel
theorem dX8_address_42 : decode cX8_address 42 = .ok (.goto 14, 3) := by decide +kernel
theorem dX8_address_45 : decode cX8_address 45 = .ok (.aload_n 0, 1) := by decide +kernel
theorem dX8_address_46 : decode cX8_address 46 = .ok (.getfield 43, 3) := by decide +kernel
theorem dX8_address_49 : decode cX8_address 49 = .ok (.aload_n 0, 1) := by decide +kernel
theorem dX8_address_50 : decode cX8_address 50 = .ok (.iload_n 1, 1) := by decide +kernel
theorem dX8_address_51 : decode cX8_address 51 = .ok (.iload_n 2, 1) := by decide +kernel
theorem dX8_address_52 : decode cX8_address 52 = .ok (.invokevirtual 200, 3) := by decide +kernel
theorem dX8_address_55 : decode cX8_address 55 = .ok (.iaload, 1) := by decide +kernel
theorem dX8_address_56 : decode cX8_address 56 = .ok (.ireturn, 1) := by decide +kernel
set_option maxRecDepth 20000 in
theorem ggX8_streetOf_X8_isDoor : GoodIn wsX8_streetOf wsX8_isDoor := goodIn_r _ [6, 7, 8, 9, 5, 10, 20, 21, 22, 23, 24, 25, 26, 27, 28, 29, 30, 31, 32, 33, 34, 35, 36, 37, 38, 39, 40, 41, 42, 43, 44, 45, 46, 47, 48, 49] (by decide +kernel) (by decide +kernel)
set_option maxRecDepth 20000 in
theorem gX8_streetOf_X8_isDoor : GoodIn wsX8_streetOf (wsV RX8 169 RX8 yX8_isDoor wsX8_isDoor) := goodIn_app (goodIn_of _ (by decide +kernel)) ggX8_streetOf_X8_isDoor
set_option maxRecDepth 20000 in
theorem ggX8_streetOf_X8_no : GoodIn wsX8_streetOf wsX8_no := goodIn_r _ [14, 15, 20, 21, 22, 23, 24, 25, 26, 27, 28, 29, 30, 31, 32, 33, 34, 35, 36, 37, 38, 39, 40, 41, 42, 43, 44, 45, 46, 47, 48, 49] (by decide +kernel) (by decide +kernel)
set_option maxRecDepth 20000 in
theorem gX8_streetOf_X8_no : GoodIn wsX8_streetOf (wsV RX8 93 RX8 yX8_no wsX8_no) := goodIn_app (goodIn_of _ (by decide +kernel)) ggX8_streetOf_X8_no
set_option maxRecDepth 20000 in
theorem ggX8_streetOf_X8_placeOf : GoodIn wsX8_streetOf wsX8_placeOf := goodIn_r _ [19] (by decide +kernel) (by decide +kernel)
set_option maxRecDepth 20000 in
theorem gX8_streetOf_X8_placeOf : GoodIn wsX8_streetOf (wsV RX8 200 RX8 yX8_placeOf wsX8_placeOf) := goodIn_app (goodIn_of _ (by decide +kernel)) ggX8_streetOf_X8_placeOf
theorem dX8_streetOf_0 : decode cX8_streetOf 0 = .ok (.aload_n 0, 1) := by decide +kernel
theorem dX8_streetOf_1 : decode cX8_streetOf 1 = .ok (.aload_n 0, 1) := by decide +kernel
theorem dX8_streetOf_2 : decode cX8_streetOf 2 = .ok (.iload_n 1, 1) := by decide +kernel
theorem dX8_streetOf_3 : decode cX8_streetOf 3 = .ok (.invokevirtual 169, 3) := by decide +kernel
theorem dX8_streetOf_6 : decode cX8_streetOf 6 = .ok (.iconst 1, 1) := by decide +kernel
theorem dX8_streetOf_7 : decode cX8_streetOf 7 = .ok (.invokevirtual 93, 3) := by decide +kernel
theorem dX8_streetOf_10 : decode cX8_streetOf 10 = .ok (.ifCond .ne 31, 3) := by decide +kernel
theorem dX8_streetOf_13 : decode cX8_streetOf 13 = .ok (.aload_n 0, 1) := by decide +kernel
theorem dX8_streetOf_14 : decode cX8_streetOf 14 = .ok (.aload_n 0, 1) := by decide +kernel
theorem dX8_streetOf_15 : decode cX8_streetOf 15 = .ok (.getfield 34, 3) := by decide +kernel
theorem dX8_streetOf_18 : decode cX8_streetOf 18 = .ok (.aload_n 0, 1) := by decide +kernel
theorem dX8_streetOf_19 : decode cX8_streetOf 19 = .ok (.iload_n 1, 1) := by decide +kernel
theorem dX8_streetOf_20 : decode cX8_streetOf 20 = .ok (.iload_n 2, 1) := by decide +kernel
theorem dX8_streetOf_21 : decode cX8_streetOf 21 = .ok (.invokevirtual 200, 3) := by decide +kernel
theorem dX8_streetOf_24 : decode cX8_streetOf 24 = .ok (.iaload, 1) := by decide +kernel
theorem dX8_streetOf_25 : decode cX8_streetOf 25 = .ok (.iconst (-1), 1) := by decide +kernel
theorem dX8_streetOf_26 : decode cX8_streetOf 26 = .ok (.if_icmp .eq 7, 3) := by decide +kernel
theorem dX8_streetOf_29 : decode cX8_streetOf 29 = .ok (.iconst 1, 1) := by decide +kernel
theorem dX8_streetOf_30 : decode cX8_streetOf 30 = .ok (.goto 4, 3) := by decide +kernel
theorem dX8_streetOf_33 : decode cX8_streetOf 33 = .ok (.iconst 0, 1) := by decide +kernel
theorem dX8_streetOf_34 : decode cX8_streetOf 34 = .ok (.iconst 2, 1) := by decide +kernel
theorem dX8_streetOf_35 : decode cX8_streetOf 35 = .ok (.invokevirtual 93, 3) := by decide +kernel
theorem dX8_streetOf_38 : decode cX8_streetOf 38 = .ok (.ifCond .eq 7, 3) := by decide +kernel
theorem dX8_streetOf_41 : decode cX8_streetOf 41 = .ok (.iconst 0, 1) := by decide +kernel
theorem dX8_streetOf_42 : decode cX8_streetOf 42 = .ok (.goto 14, 3) := by decide +kernel
theorem dX8_streetOf_45 : decode cX8_streetOf 45 = .ok (.aload_n 0, 1) := by decide +kernel
theorem dX8_streetOf_46 : decode cX8_streetOf 46 = .ok (.getfield 34, 3) := by decide +kernel
theorem dX8_streetOf_49 : decode cX8_streetOf 49 = .ok (.aload_n 0, 1) := by decide +kernel
theorem dX8_streetOf_50 : decode cX8_streetOf 50 = .ok (.iload_n 1, 1) := by decide +kernel
theorem dX8_streetOf_51 : decode cX8_streetOf 51 = .ok (.iload_n 2, 1) := by decide +kernel
theorem dX8_streetOf_52 : decode cX8_streetOf 52 = .ok (.invokevirtual 200, 3) := by decide +kernel
theorem dX8_streetOf_55 : decode cX8_streetOf 55 = .ok (.iaload, 1) := by decide +kernel
theorem dX8_streetOf_56 : decode cX8_streetOf 56 = .ok (.ireturn, 1) := by decide +kernel
set_option maxRecDepth 20000 in
theorem ggX8_isGone_X8_isDoor : GoodIn wsX8_isGone wsX8_isDoor := goodIn_r _ [6, 7, 8, 9, 5, 10, 16, 17, 18, 19, 20, 21, 22, 23, 24, 25, 26, 27, 28, 29, 30, 31, 32, 33, 34, 35, 36, 37, 38, 39, 40, 41, 42, 43, 44, 45] (by decide +kernel) (by decide +kernel)
set_option maxRecDepth 20000 in
theorem gX8_isGone_X8_isDoor : GoodIn wsX8_isGone (wsV RX8 169 RX8 yX8_isDoor wsX8_isDoor) := goodIn_app (goodIn_of _ (by decide +kernel)) ggX8_isGone_X8_isDoor
set_option maxRecDepth 20000 in
theorem ggX8_isGone_X8_no : GoodIn wsX8_isGone wsX8_no := goodIn_r _ [14, 15, 16, 17, 18, 19, 20, 21, 22, 23, 24, 25, 26, 27, 28, 29, 30, 31, 32, 33, 34, 35, 36, 37, 38, 39, 40, 41, 42, 43, 44, 45] (by decide +kernel) (by decide +kernel)
set_option maxRecDepth 20000 in
theorem gX8_isGone_X8_no : GoodIn wsX8_isGone (wsV RX8 93 RX8 yX8_no wsX8_no) := goodIn_app (goodIn_of _ (by decide +kernel)) ggX8_isGone_X8_no
theorem dX8_isGone_0 : decode cX8_isGone 0 = .ok (.aload_n 0, 1) := by decide +kernel
theorem dX8_isGone_1 : decode cX8_isGone 1 = .ok (.aload_n 0, 1) := by decide +kernel
theorem dX8_isGone_2 : decode cX8_isGone 2 = .ok (.iload_n 1, 1) := by decide +kernel
theorem dX8_isGone_3 : decode cX8_isGone 3 = .ok (.invokevirtual 169, 3) := by decide +kernel
theorem dX8_isGone_6 : decode cX8_isGone 6 = .ok (.iconst 1, 1) := by decide +kernel
theorem dX8_isGone_7 : decode cX8_isGone 7 = .ok (.invokevirtual 93, 3) := by decide +kernel
theorem dX8_isGone_10 : decode cX8_isGone 10 = .ok (.ifCond .ne 16, 3) := by decide +kernel
theorem dX8_isGone_13 : decode cX8_isGone 13 = .ok (.aload_n 0, 1) := by decide +kernel
theorem dX8_isGone_14 : decode cX8_isGone 14 = .ok (.getfield 46, 3) := by decide +kernel
theorem dX8_isGone_17 : decode cX8_isGone 17 = .ok (.iload_n 1, 1) := by decide +kernel
theorem dX8_isGone_18 : decode cX8_isGone 18 = .ok (.baload, 1) := by decide +kernel
theorem dX8_isGone_19 : decode cX8_isGone 19 = .ok (.ifCond .eq 7, 3) := by decide +kernel
theorem dX8_isGone_22 : decode cX8_isGone 22 = .ok (.iconst 1, 1) := by decide +kernel
theorem dX8_isGone_23 : decode cX8_isGone 23 = .ok (.goto 4, 3) := by decide +kernel
theorem dX8_isGone_26 : decode cX8_isGone 26 = .ok (.iconst 0, 1) := by decide +kernel
theorem dX8_isGone_27 : decode cX8_isGone 27 = .ok (.ireturn, 1) := by decide +kernel
theorem dX8_now_0 : decode cX8_now 0 = .ok (.iconst (-1), 1) := by decide +kernel
theorem dX8_now_1 : decode cX8_now 1 = .ok (.istore_n 2, 1) := by decide +kernel
theorem dX8_now_2 : decode cX8_now 2 = .ok (.iconst 0, 1) := by decide +kernel
theorem dX8_now_3 : decode cX8_now 3 = .ok (.istore_n 3, 1) := by decide +kernel
theorem dX8_now_4 : decode cX8_now 4 = .ok (.iload_n 3, 1) := by decide +kernel
theorem dX8_now_5 : decode cX8_now 5 = .ok (.iconst 2, 1) := by decide +kernel
theorem dX8_now_6 : decode cX8_now 6 = .ok (.aload_n 0, 1) := by decide +kernel
theorem dX8_now_7 : decode cX8_now 7 = .ok (.getfield 90, 3) := by decide +kernel
theorem dX8_now_10 : decode cX8_now 10 = .ok (.imul, 1) := by decide +kernel
theorem dX8_now_11 : decode cX8_now 11 = .ok (.if_icmp .ge 76, 3) := by decide +kernel
theorem dX8_now_14 : decode cX8_now 14 = .ok (.aload_n 0, 1) := by decide +kernel
theorem dX8_now_15 : decode cX8_now 15 = .ok (.getfield 34, 3) := by decide +kernel
theorem dX8_now_18 : decode cX8_now 18 = .ok (.iload_n 3, 1) := by decide +kernel
theorem dX8_now_19 : decode cX8_now 19 = .ok (.iaload, 1) := by decide +kernel
theorem dX8_now_20 : decode cX8_now 20 = .ok (.istore 4, 2) := by decide +kernel
theorem dX8_now_22 : decode cX8_now 22 = .ok (.iload 4, 2) := by decide +kernel
theorem dX8_now_24 : decode cX8_now 24 = .ok (.iconst (-1), 1) := by decide +kernel
theorem dX8_now_25 : decode cX8_now 25 = .ok (.if_icmp .eq 56, 3) := by decide +kernel
theorem dX8_now_28 : decode cX8_now 28 = .ok (.aload_n 0, 1) := by decide +kernel
theorem dX8_now_29 : decode cX8_now 29 = .ok (.getfield 102, 3) := by decide +kernel
theorem dX8_now_32 : decode cX8_now 32 = .ok (.lconst 0, 1) := by decide +kernel
theorem dX8_now_33 : decode cX8_now 33 = .ok (.lcmp, 1) := by decide +kernel
theorem dX8_now_34 : decode cX8_now 34 = .ok (.ifCond .eq 47, 3) := by decide +kernel
theorem dX8_now_37 : decode cX8_now 37 = .ok (.aload_n 0, 1) := by decide +kernel
theorem dX8_now_38 : decode cX8_now 38 = .ok (.getfield 43, 3) := by decide +kernel
theorem dX8_now_41 : decode cX8_now 41 = .ok (.iload_n 3, 1) := by decide +kernel
theorem dX8_now_42 : decode cX8_now 42 = .ok (.iaload, 1) := by decide +kernel
theorem dX8_now_43 : decode cX8_now 43 = .ok (.iload_n 1, 1) := by decide +kernel
theorem dX8_now_44 : decode cX8_now 44 = .ok (.if_icmp .ne 37, 3) := by decide +kernel
theorem dX8_now_47 : decode cX8_now 47 = .ok (.aload_n 0, 1) := by decide +kernel
theorem dX8_now_48 : decode cX8_now 48 = .ok (.getfield 7, 3) := by decide +kernel
theorem dX8_now_51 : decode cX8_now 51 = .ok (.iload 4, 2) := by decide +kernel
theorem dX8_now_53 : decode cX8_now 53 = .ok (.laload, 1) := by decide +kernel
theorem dX8_now_54 : decode cX8_now 54 = .ok (.aload_n 0, 1) := by decide +kernel
theorem dX8_now_55 : decode cX8_now 55 = .ok (.getfield 102, 3) := by decide +kernel
theorem dX8_now_58 : decode cX8_now 58 = .ok (.lcmp, 1) := by decide +kernel
theorem dX8_now_59 : decode cX8_now 59 = .ok (.ifCond .eq 18, 3) := by decide +kernel
theorem dX8_now_62 : decode cX8_now 62 = .ok (.aload_n 0, 1) := by decide +kernel
theorem dX8_now_63 : decode cX8_now 63 = .ok (.getfield 13, 3) := by decide +kernel
theorem dX8_now_66 : decode cX8_now 66 = .ok (.iload 4, 2) := by decide +kernel
theorem dX8_now_68 : decode cX8_now 68 = .ok (.laload, 1) := by decide +kernel
theorem dX8_now_69 : decode cX8_now 69 = .ok (.aload_n 0, 1) := by decide +kernel
theorem dX8_now_70 : decode cX8_now 70 = .ok (.getfield 102, 3) := by decide +kernel
theorem dX8_now_73 : decode cX8_now 73 = .ok (.lcmp, 1) := by decide +kernel
theorem dX8_now_74 : decode cX8_now 74 = .ok (.ifCond .ne 7, 3) := by decide +kernel
theorem dX8_now_77 : decode cX8_now 77 = .ok (.iload_n 3, 1) := by decide +kernel
theorem dX8_now_78 : decode cX8_now 78 = .ok (.iconst 2, 1) := by decide +kernel
theorem dX8_now_79 : decode cX8_now 79 = .ok (.idiv, 1) := by decide +kernel
theorem dX8_now_80 : decode cX8_now 80 = .ok (.istore_n 2, 1) := by decide +kernel
theorem dX8_now_81 : decode cX8_now 81 = .ok (.iinc 3 1, 3) := by decide +kernel
theorem dX8_now_84 : decode cX8_now 84 = .ok (.goto (-80), 3) := by decide +kernel
theorem dX8_now_87 : decode cX8_now 87 = .ok (.iload_n 2, 1) := by decide +kernel
theorem dX8_now_88 : decode cX8_now 88 = .ok (.ireturn, 1) := by decide +kernel
theorem dX8_latest_0 : decode cX8_latest 0 = .ok (.iconst (-1), 1) := by decide +kernel
theorem dX8_latest_1 : decode cX8_latest 1 = .ok (.istore_n 2, 1) := by decide +kernel
theorem dX8_latest_2 : decode cX8_latest 2 = .ok (.iconst 0, 1) := by decide +kernel
theorem dX8_latest_3 : decode cX8_latest 3 = .ok (.istore_n 3, 1) := by decide +kernel
theorem dX8_latest_4 : decode cX8_latest 4 = .ok (.iload_n 3, 1) := by decide +kernel
theorem dX8_latest_5 : decode cX8_latest 5 = .ok (.aload_n 0, 1) := by decide +kernel
theorem dX8_latest_6 : decode cX8_latest 6 = .ok (.getfield 118, 3) := by decide +kernel
theorem dX8_latest_9 : decode cX8_latest 9 = .ok (.if_icmp .ge 48, 3) := by decide +kernel
theorem dX8_latest_12 : decode cX8_latest 12 = .ok (.aload_n 0, 1) := by decide +kernel
theorem dX8_latest_13 : decode cX8_latest 13 = .ok (.getfield 102, 3) := by decide +kernel
theorem dX8_latest_16 : decode cX8_latest 16 = .ok (.lconst 0, 1) := by decide +kernel
theorem dX8_latest_17 : decode cX8_latest 17 = .ok (.lcmp, 1) := by decide +kernel
theorem dX8_latest_18 : decode cX8_latest 18 = .ok (.ifCond .eq 31, 3) := by decide +kernel
theorem dX8_latest_21 : decode cX8_latest 21 = .ok (.aload_n 0, 1) := by decide +kernel
theorem dX8_latest_22 : decode cX8_latest 22 = .ok (.getfield 52, 3) := by decide +kernel
theorem dX8_latest_25 : decode cX8_latest 25 = .ok (.iload_n 3, 1) := by decide +kernel
theorem dX8_latest_26 : decode cX8_latest 26 = .ok (.laload, 1) := by decide +kernel
theorem dX8_latest_27 : decode cX8_latest 27 = .ok (.aload_n 0, 1) := by decide +kernel
theorem dX8_latest_28 : decode cX8_latest 28 = .ok (.getfield 102, 3) := by decide +kernel
theorem dX8_latest_31 : decode cX8_latest 31 = .ok (.lcmp, 1) := by decide +kernel
theorem dX8_latest_32 : decode cX8_latest 32 = .ok (.ifCond .ne 17, 3) := by decide +kernel
theorem dX8_latest_35 : decode cX8_latest 35 = .ok (.aload_n 0, 1) := by decide +kernel
theorem dX8_latest_36 : decode cX8_latest 36 = .ok (.getfield 55, 3) := by decide +kernel
theorem dX8_latest_39 : decode cX8_latest 39 = .ok (.iload_n 3, 1) := by decide +kernel
theorem dX8_latest_40 : decode cX8_latest 40 = .ok (.iaload, 1) := by decide +kernel
theorem dX8_latest_41 : decode cX8_latest 41 = .ok (.iload_n 1, 1) := by decide +kernel
theorem dX8_latest_42 : decode cX8_latest 42 = .ok (.if_icmp .ne 7, 3) := by decide +kernel
theorem dX8_latest_45 : decode cX8_latest 45 = .ok (.iload_n 3, 1) := by decide +kernel
theorem dX8_latest_46 : decode cX8_latest 46 = .ok (.goto 4, 3) := by decide +kernel
theorem dX8_latest_49 : decode cX8_latest 49 = .ok (.iload_n 2, 1) := by decide +kernel
theorem dX8_latest_50 : decode cX8_latest 50 = .ok (.istore_n 2, 1) := by decide +kernel
theorem dX8_latest_51 : decode cX8_latest 51 = .ok (.iinc 3 1, 3) := by decide +kernel
theorem dX8_latest_54 : decode cX8_latest 54 = .ok (.goto (-50), 3) := by decide +kernel
theorem dX8_latest_57 : decode cX8_latest 57 = .ok (.iload_n 2, 1) := by decide +kernel
theorem dX8_latest_58 : decode cX8_latest 58 = .ok (.ireturn, 1) := by decide +kernel
set_option maxRecDepth 20000 in
theorem ggX8_find_X8_now : GoodIn wsX8_find wsX8_now := goodIn_ca (goodIn_r _ [5, 6, 7, 8, 9, 10, 11, 17, 18, 19, 20, 21, 22, 23, 24, 25, 26, 27, 28, 29, 30, 31, 32, 33, 34, 35, 36, 37, 38, 39, 40, 41, 42, 43, 44, 45, 46] (by decide +kernel) (by decide +kernel)) (goodIn_sub (fun _ h => List.mem_cons_of_mem _ (List.mem_append_right _ h)) (by decide +kernel))
set_option maxRecDepth 20000 in
theorem gX8_find_X8_now : GoodIn wsX8_find (wsV RX8 203 RX8 yX8_now wsX8_now) := goodIn_app (goodIn_of _ (by decide +kernel)) ggX8_find_X8_now
set_option maxRecDepth 20000 in
theorem ggX8_find_X8_no : GoodIn wsX8_find wsX8_no := goodIn_r _ [15, 16, 17, 18, 19, 20, 21, 22, 23, 24, 25, 26, 27, 28, 29, 30, 31, 32, 33, 34, 35, 36, 37, 38, 39, 40, 41, 42, 43, 44, 45, 46] (by decide +kernel) (by decide +kernel)
set_option maxRecDepth 20000 in
theorem gX8_find_X8_no : GoodIn wsX8_find (wsV RX8 93 RX8 yX8_no wsX8_no) := goodIn_app (goodIn_of _ (by decide +kernel)) ggX8_find_X8_no
theorem dX8_find_0 : decode cX8_find 0 = .ok (.aload_n 0, 1) := by decide +kernel
theorem dX8_find_1 : decode cX8_find 1 = .ok (.aload_n 0, 1) := by decide +kernel
theorem dX8_find_2 : decode cX8_find 2 = .ok (.iload_n 1, 1) := by decide +kernel
theorem dX8_find_3 : decode cX8_find 3 = .ok (.invokevirtual 203, 3) := by decide +kernel
theorem dX8_find_6 : decode cX8_find 6 = .ok (.iconst (-1), 1) := by decide +kernel
theorem dX8_find_7 : decode cX8_find 7 = .ok (.if_icmp .eq 7, 3) := by decide +kernel
theorem dX8_find_10 : decode cX8_find 10 = .ok (.iconst 1, 1) := by decide +kernel
theorem dX8_find_11 : decode cX8_find 11 = .ok (.goto 4, 3) := by decide +kernel
theorem dX8_find_14 : decode cX8_find 14 = .ok (.iconst 0, 1) := by decide +kernel
theorem dX8_find_15 : decode cX8_find 15 = .ok (.iconst 1, 1) := by decide +kernel
theorem dX8_find_16 : decode cX8_find 16 = .ok (.invokevirtual 93, 3) := by decide +kernel
theorem dX8_find_19 : decode cX8_find 19 = .ok (.ifCond .eq 7, 3) := by decide +kernel
theorem dX8_find_22 : decode cX8_find 22 = .ok (.iconst 0, 1) := by decide +kernel
theorem dX8_find_23 : decode cX8_find 23 = .ok (.goto 8, 3) := by decide +kernel
theorem dX8_find_26 : decode cX8_find 26 = .ok (.aload_n 0, 1) := by decide +kernel
theorem dX8_find_27 : decode cX8_find 27 = .ok (.iload_n 1, 1) := by decide +kernel
theorem dX8_find_28 : decode cX8_find 28 = .ok (.invokevirtual 203, 3) := by decide +kernel
theorem dX8_find_31 : decode cX8_find 31 = .ok (.ireturn, 1) := by decide +kernel
set_option maxRecDepth 20000 in
theorem ggX8_send_X8_now : GoodIn wsX8_send wsX8_now := goodIn_ca (goodIn_r _ [7, 8, 9, 10, 11, 12, 13, 31, 32, 33, 34, 35, 36, 37, 38, 39, 40, 41, 42, 43, 44, 45, 46, 47, 48, 49, 50, 51, 52, 53, 54, 55, 56, 57, 58, 59, 60] (by decide +kernel) (by decide +kernel)) (goodIn_sub (fun _ h => List.mem_cons_of_mem _ (List.mem_append_right _ h)) (by decide +kernel))
set_option maxRecDepth 20000 in
theorem gX8_send_X8_now : GoodIn wsX8_send (wsV RX8 203 RX8 yX8_now wsX8_now) := goodIn_app (goodIn_of _ (by decide +kernel)) ggX8_send_X8_now
set_option maxRecDepth 20000 in
theorem ggX8_send_X8_latest : GoodIn wsX8_send wsX8_latest := goodIn_ca (goodIn_r _ [17, 18, 10, 19, 20, 31, 32, 33, 34, 35, 36, 37, 38, 39, 40, 41, 42, 43, 44, 45, 46, 47, 48, 49, 50, 51, 52, 53, 54, 55, 56, 57, 58, 59, 60] (by decide +kernel) (by decide +kernel)) (goodIn_sub (fun _ h => List.mem_cons_of_mem _ (List.mem_append_right _ h)) (by decide +kernel))
set_option maxRecDepth 20000 in
theorem gX8_send_X8_latest : GoodIn wsX8_send (wsV RX8 206 RX8 yX8_latest wsX8_latest) := goodIn_app (goodIn_of _ (by decide +kernel)) ggX8_send_X8_latest
set_option maxRecDepth 20000 in
theorem ggX8_send_X8_no : GoodIn wsX8_send wsX8_no := goodIn_r _ [24, 1, 31, 32, 33, 34, 35, 36, 37, 38, 39, 40, 41, 42, 43, 44, 45, 46, 47, 48, 49, 50, 51, 52, 53, 54, 55, 56, 57, 58, 59, 60] (by decide +kernel) (by decide +kernel)
set_option maxRecDepth 20000 in
theorem gX8_send_X8_no : GoodIn wsX8_send (wsV RX8 93 RX8 yX8_no wsX8_no) := goodIn_app (goodIn_of _ (by decide +kernel)) ggX8_send_X8_no
set_option maxRecDepth 20000 in
theorem ggX8_send_X8_endOf : GoodIn wsX8_send wsX8_endOf := goodIn_ca (goodIn_r _ [28, 29, 30, 31, 32, 33, 34, 35, 36, 37, 38, 39, 40, 41, 42, 43, 44, 45, 46, 47, 48, 49, 50, 51, 52, 53, 54, 55, 56, 57, 58, 59, 60] (by decide +kernel) (by decide +kernel)) (goodIn_sub (fun _ h => List.mem_cons_of_mem _ (List.mem_append_right _ h)) (by decide +kernel))
set_option maxRecDepth 20000 in
theorem gX8_send_X8_endOf : GoodIn wsX8_send (wsV RX8 180 RX8 yX8_endOf wsX8_endOf) := goodIn_app (goodIn_of _ (by decide +kernel)) ggX8_send_X8_endOf
theorem dX8_send_0 : decode cX8_send 0 = .ok (.aload_n 0, 1) := by decide +kernel
theorem dX8_send_1 : decode cX8_send 1 = .ok (.iload_n 1, 1) := by decide +kernel
theorem dX8_send_2 : decode cX8_send 2 = .ok (.invokevirtual 203, 3) := by decide +kernel
theorem dX8_send_5 : decode cX8_send 5 = .ok (.istore_n 2, 1) := by decide +kernel
theorem dX8_send_6 : decode cX8_send 6 = .ok (.iload_n 2, 1) := by decide +kernel
theorem dX8_send_7 : decode cX8_send 7 = .ok (.iconst (-1), 1) := by decide +kernel
theorem dX8_send_8 : decode cX8_send 8 = .ok (.if_icmp .eq 10, 3) := by decide +kernel
theorem dX8_send_11 : decode cX8_send 11 = .ok (.aload_n 0, 1) := by decide +kernel
theorem dX8_send_12 : decode cX8_send 12 = .ok (.iconst 0, 1) := by decide +kernel
theorem dX8_send_13 : decode cX8_send 13 = .ok (.putfield 79, 3) := by decide +kernel
theorem dX8_send_16 : decode cX8_send 16 = .ok (.iload_n 2, 1) := by decide +kernel
theorem dX8_send_17 : decode cX8_send 17 = .ok (.ireturn, 1) := by decide +kernel
theorem dX8_send_18 : decode cX8_send 18 = .ok (.aload_n 0, 1) := by decide +kernel
theorem dX8_send_19 : decode cX8_send 19 = .ok (.iload_n 1, 1) := by decide +kernel
theorem dX8_send_20 : decode cX8_send 20 = .ok (.invokevirtual 206, 3) := by decide +kernel
theorem dX8_send_23 : decode cX8_send 23 = .ok (.istore_n 3, 1) := by decide +kernel
theorem dX8_send_24 : decode cX8_send 24 = .ok (.aload_n 0, 1) := by decide +kernel
theorem dX8_send_25 : decode cX8_send 25 = .ok (.iload_n 3, 1) := by decide +kernel
theorem dX8_send_26 : decode cX8_send 26 = .ok (.iconst (-1), 1) := by decide +kernel
theorem dX8_send_27 : decode cX8_send 27 = .ok (.if_icmp .eq 7, 3) := by decide +kernel
theorem dX8_send_30 : decode cX8_send 30 = .ok (.iconst 1, 1) := by decide +kernel
theorem dX8_send_31 : decode cX8_send 31 = .ok (.goto 4, 3) := by decide +kernel
theorem dX8_send_34 : decode cX8_send 34 = .ok (.iconst 0, 1) := by decide +kernel
theorem dX8_send_35 : decode cX8_send 35 = .ok (.iconst 1, 1) := by decide +kernel
theorem dX8_send_36 : decode cX8_send 36 = .ok (.invokevirtual 93, 3) := by decide +kernel
theorem dX8_send_39 : decode cX8_send 39 = .ok (.ifCond .ne 29, 3) := by decide +kernel
theorem dX8_send_42 : decode cX8_send 42 = .ok (.aload_n 0, 1) := by decide +kernel
theorem dX8_send_43 : decode cX8_send 43 = .ok (.aload_n 0, 1) := by decide +kernel
theorem dX8_send_44 : decode cX8_send 44 = .ok (.aload_n 0, 1) := by decide +kernel
theorem dX8_send_45 : decode cX8_send 45 = .ok (.getfield 58, 3) := by decide +kernel
theorem dX8_send_48 : decode cX8_send 48 = .ok (.iload_n 3, 1) := by decide +kernel
theorem dX8_send_49 : decode cX8_send 49 = .ok (.iaload, 1) := by decide +kernel
theorem dX8_send_50 : decode cX8_send 50 = .ok (.invokevirtual 180, 3) := by decide +kernel
theorem dX8_send_53 : decode cX8_send 53 = .ok (.ifCond .lt 7, 3) := by decide +kernel
theorem dX8_send_56 : decode cX8_send 56 = .ok (.iconst 1, 1) := by decide +kernel
theorem dX8_send_57 : decode cX8_send 57 = .ok (.goto 4, 3) := by decide +kernel
theorem dX8_send_60 : decode cX8_send 60 = .ok (.iconst 0, 1) := by decide +kernel
theorem dX8_send_61 : decode cX8_send 61 = .ok (.iconst 2, 1) := by decide +kernel
theorem dX8_send_62 : decode cX8_send 62 = .ok (.invokevirtual 93, 3) := by decide +kernel
theorem dX8_send_65 : decode cX8_send 65 = .ok (.ifCond .eq 5, 3) := by decide +kernel
theorem dX8_send_68 : decode cX8_send 68 = .ok (.iconst 0, 1) := by decide +kernel
theorem dX8_send_69 : decode cX8_send 69 = .ok (.ireturn, 1) := by decide +kernel
theorem dX8_send_70 : decode cX8_send 70 = .ok (.aload_n 0, 1) := by decide +kernel
theorem dX8_send_71 : decode cX8_send 71 = .ok (.aload_n 0, 1) := by decide +kernel
theorem dX8_send_72 : decode cX8_send 72 = .ok (.getfield 58, 3) := by decide +kernel
theorem dX8_send_75 : decode cX8_send 75 = .ok (.iload_n 3, 1) := by decide +kernel
theorem dX8_send_76 : decode cX8_send 76 = .ok (.iaload, 1) := by decide +kernel
theorem dX8_send_77 : decode cX8_send 77 = .ok (.invokevirtual 180, 3) := by decide +kernel
theorem dX8_send_80 : decode cX8_send 80 = .ok (.ireturn, 1) := by decide +kernel
set_option maxRecDepth 20000 in
theorem ggX8_until_X8_latest : GoodIn wsX8_until wsX8_latest := goodIn_ca (goodIn_r _ [6, 7, 8, 9, 10, 16, 17, 18, 19, 20, 21, 22, 23, 24, 25, 26, 27, 28, 29, 30, 31, 32, 33, 34, 35, 36, 37, 38, 39, 40, 41, 42, 43, 44, 45] (by decide +kernel) (by decide +kernel)) (goodIn_sub (fun _ h => List.mem_cons_of_mem _ (List.mem_append_right _ h)) (by decide +kernel))
set_option maxRecDepth 20000 in
theorem gX8_until_X8_latest : GoodIn wsX8_until (wsV RX8 206 RX8 yX8_latest wsX8_latest) := goodIn_app (goodIn_of _ (by decide +kernel)) ggX8_until_X8_latest
set_option maxRecDepth 20000 in
theorem ggX8_until_X8_no : GoodIn wsX8_until wsX8_no := goodIn_r _ [14, 15, 16, 17, 18, 19, 20, 21, 22, 23, 24, 25, 26, 27, 28, 29, 30, 31, 32, 33, 34, 35, 36, 37, 38, 39, 40, 41, 42, 43, 44, 45] (by decide +kernel) (by decide +kernel)
set_option maxRecDepth 20000 in
theorem gX8_until_X8_no : GoodIn wsX8_until (wsV RX8 93 RX8 yX8_no wsX8_no) := goodIn_app (goodIn_of _ (by decide +kernel)) ggX8_until_X8_no
theorem dX8_until_0 : decode cX8_until 0 = .ok (.aload_n 0, 1) := by decide +kernel
theorem dX8_until_1 : decode cX8_until 1 = .ok (.aload_n 0, 1) := by decide +kernel
theorem dX8_until_2 : decode cX8_until 2 = .ok (.iload_n 1, 1) := by decide +kernel
theorem dX8_until_3 : decode cX8_until 3 = .ok (.invokevirtual 206, 3) := by decide +kernel
theorem dX8_until_6 : decode cX8_until 6 = .ok (.iconst (-1), 1) := by decide +kernel
theorem dX8_until_7 : decode cX8_until 7 = .ok (.if_icmp .eq 7, 3) := by decide +kernel
theorem dX8_until_10 : decode cX8_until 10 = .ok (.iconst 1, 1) := by decide +kernel
theorem dX8_until_11 : decode cX8_until 11 = .ok (.goto 4, 3) := by decide +kernel
theorem dX8_until_14 : decode cX8_until 14 = .ok (.iconst 0, 1) := by decide +kernel
theorem dX8_until_15 : decode cX8_until 15 = .ok (.iconst 1, 1) := by decide +kernel
theorem dX8_until_16 : decode cX8_until 16 = .ok (.invokevirtual 93, 3) := by decide +kernel
theorem dX8_until_19 : decode cX8_until 19 = .ok (.ifCond .eq 7, 3) := by decide +kernel
theorem dX8_until_22 : decode cX8_until 22 = .ok (.iconst 0, 1) := by decide +kernel
theorem dX8_until_23 : decode cX8_until 23 = .ok (.goto 13, 3) := by decide +kernel
theorem dX8_until_26 : decode cX8_until 26 = .ok (.aload_n 0, 1) := by decide +kernel
theorem dX8_until_27 : decode cX8_until 27 = .ok (.getfield 61, 3) := by decide +kernel
theorem dX8_until_30 : decode cX8_until 30 = .ok (.aload_n 0, 1) := by decide +kernel
theorem dX8_until_31 : decode cX8_until 31 = .ok (.iload_n 1, 1) := by decide +kernel
theorem dX8_until_32 : decode cX8_until 32 = .ok (.invokevirtual 206, 3) := by decide +kernel
theorem dX8_until_35 : decode cX8_until 35 = .ok (.iaload, 1) := by decide +kernel
theorem dX8_until_36 : decode cX8_until 36 = .ok (.ireturn, 1) := by decide +kernel
theorem dX8_olds_0 : decode cX8_olds 0 = .ok (.aload_n 0, 1) := by decide +kernel
theorem dX8_olds_1 : decode cX8_olds 1 = .ok (.getfield 118, 3) := by decide +kernel
theorem dX8_olds_4 : decode cX8_olds 4 = .ok (.ireturn, 1) := by decide +kernel
theorem dX8_doorsOf_0 : decode cX8_doorsOf 0 = .ok (.iconst 0, 1) := by decide +kernel
theorem dX8_doorsOf_1 : decode cX8_doorsOf 1 = .ok (.istore_n 2, 1) := by decide +kernel
theorem dX8_doorsOf_2 : decode cX8_doorsOf 2 = .ok (.iconst 0, 1) := by decide +kernel
theorem dX8_doorsOf_3 : decode cX8_doorsOf 3 = .ok (.istore_n 3, 1) := by decide +kernel
theorem dX8_doorsOf_4 : decode cX8_doorsOf 4 = .ok (.iload_n 3, 1) := by decide +kernel
theorem dX8_doorsOf_5 : decode cX8_doorsOf 5 = .ok (.bipush 80, 2) := by decide +kernel
theorem dX8_doorsOf_7 : decode cX8_doorsOf 7 = .ok (.if_icmp .ge 27, 3) := by decide +kernel
theorem dX8_doorsOf_10 : decode cX8_doorsOf 10 = .ok (.iload_n 2, 1) := by decide +kernel
theorem dX8_doorsOf_11 : decode cX8_doorsOf 11 = .ok (.aload_n 0, 1) := by decide +kernel
theorem dX8_doorsOf_12 : decode cX8_doorsOf 12 = .ok (.getfield 34, 3) := by decide +kernel
theorem dX8_doorsOf_15 : decode cX8_doorsOf 15 = .ok (.iload_n 3, 1) := by decide +kernel
theorem dX8_doorsOf_16 : decode cX8_doorsOf 16 = .ok (.iaload, 1) := by decide +kernel
theorem dX8_doorsOf_17 : decode cX8_doorsOf 17 = .ok (.iload_n 1, 1) := by decide +kernel
theorem dX8_doorsOf_18 : decode cX8_doorsOf 18 = .ok (.if_icmp .ne 7, 3) := by decide +kernel
theorem dX8_doorsOf_21 : decode cX8_doorsOf 21 = .ok (.iconst 1, 1) := by decide +kernel
theorem dX8_doorsOf_22 : decode cX8_doorsOf 22 = .ok (.goto 4, 3) := by decide +kernel
theorem dX8_doorsOf_25 : decode cX8_doorsOf 25 = .ok (.iconst 0, 1) := by decide +kernel
theorem dX8_doorsOf_26 : decode cX8_doorsOf 26 = .ok (.iadd, 1) := by decide +kernel
theorem dX8_doorsOf_27 : decode cX8_doorsOf 27 = .ok (.istore_n 2, 1) := by decide +kernel
theorem dX8_doorsOf_28 : decode cX8_doorsOf 28 = .ok (.iinc 3 1, 3) := by decide +kernel
theorem dX8_doorsOf_31 : decode cX8_doorsOf 31 = .ok (.goto (-27), 3) := by decide +kernel
theorem dX8_doorsOf_34 : decode cX8_doorsOf 34 = .ok (.iload_n 2, 1) := by decide +kernel
theorem dX8_doorsOf_35 : decode cX8_doorsOf 35 = .ok (.ireturn, 1) := by decide +kernel
set_option maxRecDepth 20000 in
theorem ggX8_doors_X8_isStreet : GoodIn wsX8_doors wsX8_isStreet := goodIn_ca (goodIn_r _ [5, 6, 7, 8, 9, 4, 10, 21, 22, 23, 24, 25, 26, 27, 28, 29, 30, 31, 32, 33, 34, 35, 36, 37, 38, 39, 40, 41, 42, 43, 44, 45, 46, 47, 48, 49, 50] (by decide +kernel) (by decide +kernel)) (goodIn_sub (fun _ h => List.mem_cons_of_mem _ (List.mem_append_right _ h)) (by decide +kernel))
set_option maxRecDepth 20000 in
theorem gX8_doors_X8_isStreet : GoodIn wsX8_doors (wsV RX8 132 RX8 yX8_isStreet wsX8_isStreet) := goodIn_app (goodIn_of _ (by decide +kernel)) ggX8_doors_X8_isStreet
set_option maxRecDepth 20000 in
theorem ggX8_doors_X8_no : GoodIn wsX8_doors wsX8_no := goodIn_r _ [14, 15, 21, 22, 23, 24, 25, 26, 27, 28, 29, 30, 31, 32, 33, 34, 35, 36, 37, 38, 39, 40, 41, 42, 43, 44, 45, 46, 47, 48, 49, 50] (by decide +kernel) (by decide +kernel)
set_option maxRecDepth 20000 in
theorem gX8_doors_X8_no : GoodIn wsX8_doors (wsV RX8 93 RX8 yX8_no wsX8_no) := goodIn_app (goodIn_of _ (by decide +kernel)) ggX8_doors_X8_no
set_option maxRecDepth 20000 in
theorem ggX8_doors_X8_doorsOf : GoodIn wsX8_doors wsX8_doorsOf := goodIn_ca (goodIn_r _ [19, 20, 21, 22, 23, 24, 25, 26, 27, 28, 29, 30, 31, 32, 33, 34, 35, 36, 37, 38, 39, 40, 41, 42, 43, 44, 45, 46, 47, 48, 49, 50] (by decide +kernel) (by decide +kernel)) (goodIn_sub (fun _ h => List.mem_cons_of_mem _ (List.mem_append_right _ h)) (by decide +kernel))
set_option maxRecDepth 20000 in
theorem gX8_doors_X8_doorsOf : GoodIn wsX8_doors (wsV RX8 209 RX8 yX8_doorsOf wsX8_doorsOf) := goodIn_app (goodIn_of _ (by decide +kernel)) ggX8_doors_X8_doorsOf
theorem dX8_doors_0 : decode cX8_doors 0 = .ok (.aload_n 0, 1) := by decide +kernel
theorem dX8_doors_1 : decode cX8_doors 1 = .ok (.aload_n 0, 1) := by decide +kernel
theorem dX8_doors_2 : decode cX8_doors 2 = .ok (.iload_n 1, 1) := by decide +kernel
theorem dX8_doors_3 : decode cX8_doors 3 = .ok (.invokevirtual 132, 3) := by decide +kernel
theorem dX8_doors_6 : decode cX8_doors 6 = .ok (.iconst 1, 1) := by decide +kernel
theorem dX8_doors_7 : decode cX8_doors 7 = .ok (.invokevirtual 93, 3) := by decide +kernel
theorem dX8_doors_10 : decode cX8_doors 10 = .ok (.ifCond .eq 7, 3) := by decide +kernel
theorem dX8_doors_13 : decode cX8_doors 13 = .ok (.iconst 0, 1) := by decide +kernel
theorem dX8_doors_14 : decode cX8_doors 14 = .ok (.goto 8, 3) := by decide +kernel
theorem dX8_doors_17 : decode cX8_doors 17 = .ok (.aload_n 0, 1) := by decide +kernel
theorem dX8_doors_18 : decode cX8_doors 18 = .ok (.iload_n 1, 1) := by decide +kernel
theorem dX8_doors_19 : decode cX8_doors 19 = .ok (.invokevirtual 209, 3) := by decide +kernel
theorem dX8_doors_22 : decode cX8_doors 22 = .ok (.ireturn, 1) := by decide +kernel
theorem dX8_isAhead_0 : decode cX8_isAhead 0 = .ok (.aload_n 0, 1) := by decide +kernel
theorem dX8_isAhead_1 : decode cX8_isAhead 1 = .ok (.getfield 40, 3) := by decide +kernel
theorem dX8_isAhead_4 : decode cX8_isAhead 4 = .ok (.iload_n 1, 1) := by decide +kernel
theorem dX8_isAhead_5 : decode cX8_isAhead 5 = .ok (.caload, 1) := by decide +kernel
theorem dX8_isAhead_6 : decode cX8_isAhead 6 = .ok (.aload_n 0, 1) := by decide +kernel
theorem dX8_isAhead_7 : decode cX8_isAhead 7 = .ok (.getfield 40, 3) := by decide +kernel
theorem dX8_isAhead_10 : decode cX8_isAhead 10 = .ok (.iload_n 2, 1) := by decide +kernel
theorem dX8_isAhead_11 : decode cX8_isAhead 11 = .ok (.caload, 1) := by decide +kernel
theorem dX8_isAhead_12 : decode cX8_isAhead 12 = .ok (.if_icmp .eq 20, 3) := by decide +kernel
theorem dX8_isAhead_15 : decode cX8_isAhead 15 = .ok (.aload_n 0, 1) := by decide +kernel
theorem dX8_isAhead_16 : decode cX8_isAhead 16 = .ok (.getfield 40, 3) := by decide +kernel
theorem dX8_isAhead_19 : decode cX8_isAhead 19 = .ok (.iload_n 1, 1) := by decide +kernel
theorem dX8_isAhead_20 : decode cX8_isAhead 20 = .ok (.caload, 1) := by decide +kernel
theorem dX8_isAhead_21 : decode cX8_isAhead 21 = .ok (.bipush 108, 2) := by decide +kernel
theorem dX8_isAhead_23 : decode cX8_isAhead 23 = .ok (.if_icmp .ne 7, 3) := by decide +kernel
theorem dX8_isAhead_26 : decode cX8_isAhead 26 = .ok (.iconst 1, 1) := by decide +kernel
theorem dX8_isAhead_27 : decode cX8_isAhead 27 = .ok (.goto 4, 3) := by decide +kernel
theorem dX8_isAhead_30 : decode cX8_isAhead 30 = .ok (.iconst 0, 1) := by decide +kernel
theorem dX8_isAhead_31 : decode cX8_isAhead 31 = .ok (.ireturn, 1) := by decide +kernel
theorem dX8_isAhead_32 : decode cX8_isAhead 32 = .ok (.aload_n 0, 1) := by decide +kernel
theorem dX8_isAhead_33 : decode cX8_isAhead 33 = .ok (.getfield 37, 3) := by decide +kernel
theorem dX8_isAhead_36 : decode cX8_isAhead 36 = .ok (.iload_n 1, 1) := by decide +kernel
theorem dX8_isAhead_37 : decode cX8_isAhead 37 = .ok (.iaload, 1) := by decide +kernel
theorem dX8_isAhead_38 : decode cX8_isAhead 38 = .ok (.aload_n 0, 1) := by decide +kernel
theorem dX8_isAhead_39 : decode cX8_isAhead 39 = .ok (.getfield 37, 3) := by decide +kernel
theorem dX8_isAhead_42 : decode cX8_isAhead 42 = .ok (.iload_n 2, 1) := by decide +kernel
theorem dX8_isAhead_43 : decode cX8_isAhead 43 = .ok (.iaload, 1) := by decide +kernel
theorem dX8_isAhead_44 : decode cX8_isAhead 44 = .ok (.if_icmp .eq 58, 3) := by decide +kernel
theorem dX8_isAhead_47 : decode cX8_isAhead 47 = .ok (.aload_n 0, 1) := by decide +kernel
theorem dX8_isAhead_48 : decode cX8_isAhead 48 = .ok (.getfield 40, 3) := by decide +kernel
theorem dX8_isAhead_51 : decode cX8_isAhead 51 = .ok (.iload_n 1, 1) := by decide +kernel
theorem dX8_isAhead_52 : decode cX8_isAhead 52 = .ok (.caload, 1) := by decide +kernel
theorem dX8_isAhead_53 : decode cX8_isAhead 53 = .ok (.bipush 108, 2) := by decide +kernel
theorem dX8_isAhead_55 : decode cX8_isAhead 55 = .ok (.if_icmp .ne 26, 3) := by decide +kernel
theorem dX8_isAhead_58 : decode cX8_isAhead 58 = .ok (.aload_n 0, 1) := by decide +kernel
theorem dX8_isAhead_59 : decode cX8_isAhead 59 = .ok (.getfield 37, 3) := by decide +kernel
theorem dX8_isAhead_62 : decode cX8_isAhead 62 = .ok (.iload_n 1, 1) := by decide +kernel
theorem dX8_isAhead_63 : decode cX8_isAhead 63 = .ok (.iaload, 1) := by decide +kernel
theorem dX8_isAhead_64 : decode cX8_isAhead 64 = .ok (.aload_n 0, 1) := by decide +kernel
theorem dX8_isAhead_65 : decode cX8_isAhead 65 = .ok (.getfield 37, 3) := by decide +kernel
theorem dX8_isAhead_68 : decode cX8_isAhead 68 = .ok (.iload_n 2, 1) := by decide +kernel
theorem dX8_isAhead_69 : decode cX8_isAhead 69 = .ok (.iaload, 1) := by decide +kernel
theorem dX8_isAhead_70 : decode cX8_isAhead 70 = .ok (.if_icmp .ge 7, 3) := by decide +kernel
theorem dX8_isAhead_73 : decode cX8_isAhead 73 = .ok (.iconst 1, 1) := by decide +kernel
theorem dX8_isAhead_74 : decode cX8_isAhead 74 = .ok (.goto 27, 3) := by decide +kernel
theorem dX8_isAhead_77 : decode cX8_isAhead 77 = .ok (.iconst 0, 1) := by decide +kernel
theorem dX8_isAhead_78 : decode cX8_isAhead 78 = .ok (.goto 23, 3) := by decide +kernel
theorem dX8_isAhead_81 : decode cX8_isAhead 81 = .ok (.aload_n 0, 1) := by decide +kernel
theorem dX8_isAhead_82 : decode cX8_isAhead 82 = .ok (.getfield 37, 3) := by decide +kernel
theorem dX8_isAhead_85 : decode cX8_isAhead 85 = .ok (.iload_n 1, 1) := by decide +kernel
theorem dX8_isAhead_86 : decode cX8_isAhead 86 = .ok (.iaload, 1) := by decide +kernel
theorem dX8_isAhead_87 : decode cX8_isAhead 87 = .ok (.aload_n 0, 1) := by decide +kernel
theorem dX8_isAhead_88 : decode cX8_isAhead 88 = .ok (.getfield 37, 3) := by decide +kernel
theorem dX8_isAhead_91 : decode cX8_isAhead 91 = .ok (.iload_n 2, 1) := by decide +kernel
theorem dX8_isAhead_92 : decode cX8_isAhead 92 = .ok (.iaload, 1) := by decide +kernel
theorem dX8_isAhead_93 : decode cX8_isAhead 93 = .ok (.if_icmp .le 7, 3) := by decide +kernel
theorem dX8_isAhead_96 : decode cX8_isAhead 96 = .ok (.iconst 1, 1) := by decide +kernel
theorem dX8_isAhead_97 : decode cX8_isAhead 97 = .ok (.goto 4, 3) := by decide +kernel
theorem dX8_isAhead_100 : decode cX8_isAhead 100 = .ok (.iconst 0, 1) := by decide +kernel
theorem dX8_isAhead_101 : decode cX8_isAhead 101 = .ok (.ireturn, 1) := by decide +kernel
theorem dX8_isAhead_102 : decode cX8_isAhead 102 = .ok (.iload_n 1, 1) := by decide +kernel
theorem dX8_isAhead_103 : decode cX8_isAhead 103 = .ok (.iconst 2, 1) := by decide +kernel
theorem dX8_isAhead_104 : decode cX8_isAhead 104 = .ok (.idiv, 1) := by decide +kernel
theorem dX8_isAhead_105 : decode cX8_isAhead 105 = .ok (.iload_n 2, 1) := by decide +kernel
theorem dX8_isAhead_106 : decode cX8_isAhead 106 = .ok (.iconst 2, 1) := by decide +kernel
theorem dX8_isAhead_107 : decode cX8_isAhead 107 = .ok (.idiv, 1) := by decide +kernel
theorem dX8_isAhead_108 : decode cX8_isAhead 108 = .ok (.if_icmp .ge 7, 3) := by decide +kernel
theorem dX8_isAhead_111 : decode cX8_isAhead 111 = .ok (.iconst 1, 1) := by decide +kernel
theorem dX8_isAhead_112 : decode cX8_isAhead 112 = .ok (.goto 4, 3) := by decide +kernel
theorem dX8_isAhead_115 : decode cX8_isAhead 115 = .ok (.iconst 0, 1) := by decide +kernel
theorem dX8_isAhead_116 : decode cX8_isAhead 116 = .ok (.ireturn, 1) := by decide +kernel
set_option maxRecDepth 20000 in
theorem ggX8_walks_X8_isAhead : GoodIn wsX8_walks wsX8_isAhead := goodIn_ca (goodIn_r _ [9, 10, 11, 12, 13, 14, 15, 16, 17, 18, 19, 20, 21, 22, 23, 24, 25, 26, 27, 28, 29, 30, 31, 32, 33, 34, 35, 36, 37, 38, 39, 40, 41] (by decide +kernel) (by decide +kernel)) (goodIn_sub (fun _ h => List.mem_cons_of_mem _ (List.mem_append_right _ h)) (by decide +kernel))
set_option maxRecDepth 20000 in
theorem gX8_walks_X8_isAhead : GoodIn wsX8_walks (wsV RX8 215 RX8 yX8_isAhead wsX8_isAhead) := goodIn_app (goodIn_of _ (by decide +kernel)) ggX8_walks_X8_isAhead
theorem dX8_walks_0 : decode cX8_walks 0 = .ok (.aload_n 0, 1) := by decide +kernel
theorem dX8_walks_1 : decode cX8_walks 1 = .ok (.iconst 0, 1) := by decide +kernel
theorem dX8_walks_2 : decode cX8_walks 2 = .ok (.putfield 212, 3) := by decide +kernel
theorem dX8_walks_5 : decode cX8_walks 5 = .ok (.iconst 0, 1) := by decide +kernel
theorem dX8_walks_6 : decode cX8_walks 6 = .ok (.istore_n 2, 1) := by decide +kernel
theorem dX8_walks_7 : decode cX8_walks 7 = .ok (.iload_n 2, 1) := by decide +kernel
theorem dX8_walks_8 : decode cX8_walks 8 = .ok (.iconst 2, 1) := by decide +kernel
theorem dX8_walks_9 : decode cX8_walks 9 = .ok (.aload_n 0, 1) := by decide +kernel
theorem dX8_walks_10 : decode cX8_walks 10 = .ok (.getfield 90, 3) := by decide +kernel
theorem dX8_walks_13 : decode cX8_walks 13 = .ok (.imul, 1) := by decide +kernel
theorem dX8_walks_14 : decode cX8_walks 14 = .ok (.if_icmp .ge 84, 3) := by decide +kernel
theorem dX8_walks_17 : decode cX8_walks 17 = .ok (.aload_n 0, 1) := by decide +kernel
theorem dX8_walks_18 : decode cX8_walks 18 = .ok (.getfield 34, 3) := by decide +kernel
theorem dX8_walks_21 : decode cX8_walks 21 = .ok (.iload_n 2, 1) := by decide +kernel
theorem dX8_walks_22 : decode cX8_walks 22 = .ok (.iaload, 1) := by decide +kernel
theorem dX8_walks_23 : decode cX8_walks 23 = .ok (.iload_n 1, 1) := by decide +kernel
theorem dX8_walks_24 : decode cX8_walks 24 = .ok (.if_icmp .eq 6, 3) := by decide +kernel
theorem dX8_walks_27 : decode cX8_walks 27 = .ok (.goto 65, 3) := by decide +kernel
theorem dX8_walks_30 : decode cX8_walks 30 = .ok (.aload_n 0, 1) := by decide +kernel
theorem dX8_walks_31 : decode cX8_walks 31 = .ok (.getfield 212, 3) := by decide +kernel
theorem dX8_walks_34 : decode cX8_walks 34 = .ok (.istore_n 3, 1) := by decide +kernel
theorem dX8_walks_35 : decode cX8_walks 35 = .ok (.iload_n 3, 1) := by decide +kernel
theorem dX8_walks_36 : decode cX8_walks 36 = .ok (.ifCond .le 39, 3) := by decide +kernel
theorem dX8_walks_39 : decode cX8_walks 39 = .ok (.aload_n 0, 1) := by decide +kernel
theorem dX8_walks_40 : decode cX8_walks 40 = .ok (.iload_n 2, 1) := by decide +kernel
theorem dX8_walks_41 : decode cX8_walks 41 = .ok (.aload_n 0, 1) := by decide +kernel
theorem dX8_walks_42 : decode cX8_walks 42 = .ok (.getfield 76, 3) := by decide +kernel
theorem dX8_walks_45 : decode cX8_walks 45 = .ok (.iload_n 3, 1) := by decide +kernel
theorem dX8_walks_46 : decode cX8_walks 46 = .ok (.iconst 1, 1) := by decide +kernel
theorem dX8_walks_47 : decode cX8_walks 47 = .ok (.isub, 1) := by decide +kernel
theorem dX8_walks_48 : decode cX8_walks 48 = .ok (.iaload, 1) := by decide +kernel
theorem dX8_walks_49 : decode cX8_walks 49 = .ok (.invokevirtual 215, 3) := by decide +kernel
theorem dX8_walks_52 : decode cX8_walks 52 = .ok (.ifCond .eq 23, 3) := by decide +kernel
theorem dX8_walks_55 : decode cX8_walks 55 = .ok (.aload_n 0, 1) := by decide +kernel
theorem dX8_walks_56 : decode cX8_walks 56 = .ok (.getfield 76, 3) := by decide +kernel
theorem dX8_walks_59 : decode cX8_walks 59 = .ok (.iload_n 3, 1) := by decide +kernel
theorem dX8_walks_60 : decode cX8_walks 60 = .ok (.aload_n 0, 1) := by decide +kernel
theorem dX8_walks_61 : decode cX8_walks 61 = .ok (.getfield 76, 3) := by decide +kernel
theorem dX8_walks_64 : decode cX8_walks 64 = .ok (.iload_n 3, 1) := by decide +kernel
theorem dX8_walks_65 : decode cX8_walks 65 = .ok (.iconst 1, 1) := by decide +kernel
theorem dX8_walks_66 : decode cX8_walks 66 = .ok (.isub, 1) := by decide +kernel
theorem dX8_walks_67 : decode cX8_walks 67 = .ok (.iaload, 1) := by decide +kernel
theorem dX8_walks_68 : decode cX8_walks 68 = .ok (.iastore, 1) := by decide +kernel
theorem dX8_walks_69 : decode cX8_walks 69 = .ok (.iinc 3 (-1), 3) := by decide +kernel
theorem dX8_walks_72 : decode cX8_walks 72 = .ok (.goto (-37), 3) := by decide +kernel
theorem dX8_walks_75 : decode cX8_walks 75 = .ok (.aload_n 0, 1) := by decide +kernel
theorem dX8_walks_76 : decode cX8_walks 76 = .ok (.getfield 76, 3) := by decide +kernel
theorem dX8_walks_79 : decode cX8_walks 79 = .ok (.iload_n 3, 1) := by decide +kernel
theorem dX8_walks_80 : decode cX8_walks 80 = .ok (.iload_n 2, 1) := by decide +kernel
theorem dX8_walks_81 : decode cX8_walks 81 = .ok (.iastore, 1) := by decide +kernel
theorem dX8_walks_82 : decode cX8_walks 82 = .ok (.aload_n 0, 1) := by decide +kernel
theorem dX8_walks_83 : decode cX8_walks 83 = .ok (.dup, 1) := by decide +kernel
theorem dX8_walks_84 : decode cX8_walks 84 = .ok (.getfield 212, 3) := by decide +kernel
theorem dX8_walks_87 : decode cX8_walks 87 = .ok (.iconst 1, 1) := by decide +kernel
theorem dX8_walks_88 : decode cX8_walks 88 = .ok (.iadd, 1) := by decide +kernel
theorem dX8_walks_89 : decode cX8_walks 89 = .ok (.putfield 212, 3) := by decide +kernel
theorem dX8_walks_92 : decode cX8_walks 92 = .ok (.iinc 2 1, 3) := by decide +kernel
theorem dX8_walks_95 : decode cX8_walks 95 = .ok (.goto (-88), 3) := by decide +kernel
theorem dX8_walks_98 : decode cX8_walks 98 = .ok (.return_, 1) := by decide +kernel
set_option maxRecDepth 20000 in
theorem ggX8_walk_X8_isStreet : GoodIn wsX8_walk wsX8_isStreet := goodIn_ca (goodIn_r _ [7, 8, 9, 10, 11, 6, 12, 30, 31, 32, 33, 34, 35, 36, 37, 38, 39, 40, 41, 42, 43, 44, 45, 46, 47, 48, 49, 50, 51, 52, 53, 54, 55, 56, 57, 58, 59] (by decide +kernel) (by decide +kernel)) (goodIn_sub (fun _ h => List.mem_cons_of_mem _ (List.mem_append_right _ h)) (by decide +kernel))
set_option maxRecDepth 20000 in
theorem gX8_walk_X8_isStreet : GoodIn wsX8_walk (wsV RX8 132 RX8 yX8_isStreet wsX8_isStreet) := goodIn_app (goodIn_of _ (by decide +kernel)) ggX8_walk_X8_isStreet
set_option maxRecDepth 20000 in
theorem ggX8_walk_X8_no : GoodIn wsX8_walk wsX8_no := goodIn_r _ [16, 17, 30, 31, 32, 33, 34, 35, 36, 37, 38, 39, 40, 41, 42, 43, 44, 45, 46, 47, 48, 49, 50, 51, 52, 53, 54, 55, 56, 57, 58, 59] (by decide +kernel) (by decide +kernel)
set_option maxRecDepth 20000 in
theorem gX8_walk_X8_no : GoodIn wsX8_walk (wsV RX8 93 RX8 yX8_no wsX8_no) := goodIn_app (goodIn_of _ (by decide +kernel)) ggX8_walk_X8_no
set_option maxRecDepth 20000 in
theorem ggX8_walk_X8_walks : GoodIn wsX8_walk wsX8_walks := goodIn_ca (goodIn_r _ [21, 1, 22, 23, 2, 24, 25, 26, 6, 27, 28, 29, 30, 31, 32, 33, 34, 35, 36, 37, 38, 39, 40, 41, 42, 43, 44, 45, 46, 47, 48, 49, 50, 51, 52, 53, 54, 55, 56, 57, 58, 59] (by decide +kernel) (by decide +kernel)) (goodIn_sub (fun _ h => List.mem_cons_of_mem _ (List.mem_append_right _ h)) (by decide +kernel))
set_option maxRecDepth 20000 in
theorem gX8_walk_X8_walks : GoodIn wsX8_walk (wsV RX8 218 RX8 yX8_walks wsX8_walks) := goodIn_app (goodIn_of _ (by decide +kernel)) ggX8_walk_X8_walks
set_option maxRecDepth 20000 in
theorem ggX8_walk_X8_isBetween : GoodIn wsX8_walk wsX8_isBetween := goodIn_r _ [12] (by decide +kernel) (by decide +kernel)
set_option maxRecDepth 20000 in
theorem gX8_walk_X8_isBetween : GoodIn wsX8_walk (va_wsS RX8 86 yX8_isBetween wsX8_isBetween) := goodIn_app (goodIn_of _ (by decide +kernel)) ggX8_walk_X8_isBetween
theorem dX8_walk_0 : decode cX8_walk 0 = .ok (.aload_n 0, 1) := by decide +kernel
theorem dX8_walk_1 : decode cX8_walk 1 = .ok (.aload_n 0, 1) := by decide +kernel
theorem dX8_walk_2 : decode cX8_walk 2 = .ok (.iload_n 1, 1) := by decide +kernel
theorem dX8_walk_3 : decode cX8_walk 3 = .ok (.invokevirtual 132, 3) := by decide +kernel
theorem dX8_walk_6 : decode cX8_walk 6 = .ok (.iconst 1, 1) := by decide +kernel
theorem dX8_walk_7 : decode cX8_walk 7 = .ok (.invokevirtual 93, 3) := by decide +kernel
theorem dX8_walk_10 : decode cX8_walk 10 = .ok (.ifCond .eq 5, 3) := by decide +kernel
theorem dX8_walk_13 : decode cX8_walk 13 = .ok (.iconst 0, 1) := by decide +kernel
theorem dX8_walk_14 : decode cX8_walk 14 = .ok (.ireturn, 1) := by decide +kernel
theorem dX8_walk_15 : decode cX8_walk 15 = .ok (.aload_n 0, 1) := by decide +kernel
theorem dX8_walk_16 : decode cX8_walk 16 = .ok (.iload_n 1, 1) := by decide +kernel
theorem dX8_walk_17 : decode cX8_walk 17 = .ok (.invokevirtual 218, 3) := by decide +kernel
theorem dX8_walk_20 : decode cX8_walk 20 = .ok (.aload_n 0, 1) := by decide +kernel
theorem dX8_walk_21 : decode cX8_walk 21 = .ok (.iload_n 2, 1) := by decide +kernel
theorem dX8_walk_22 : decode cX8_walk 22 = .ok (.iconst 0, 1) := by decide +kernel
theorem dX8_walk_23 : decode cX8_walk 23 = .ok (.aload_n 0, 1) := by decide +kernel
theorem dX8_walk_24 : decode cX8_walk 24 = .ok (.getfield 212, 3) := by decide +kernel
theorem dX8_walk_27 : decode cX8_walk 27 = .ok (.iconst 1, 1) := by decide +kernel
theorem dX8_walk_28 : decode cX8_walk 28 = .ok (.isub, 1) := by decide +kernel
theorem dX8_walk_29 : decode cX8_walk 29 = .ok (.invokestatic 86, 3) := by decide +kernel
theorem dX8_walk_32 : decode cX8_walk 32 = .ok (.iconst 2, 1) := by decide +kernel
theorem dX8_walk_33 : decode cX8_walk 33 = .ok (.invokevirtual 93, 3) := by decide +kernel
theorem dX8_walk_36 : decode cX8_walk 36 = .ok (.ifCond .eq 7, 3) := by decide +kernel
theorem dX8_walk_39 : decode cX8_walk 39 = .ok (.iconst 0, 1) := by decide +kernel
theorem dX8_walk_40 : decode cX8_walk 40 = .ok (.goto 11, 3) := by decide +kernel
theorem dX8_walk_43 : decode cX8_walk 43 = .ok (.aload_n 0, 1) := by decide +kernel
theorem dX8_walk_44 : decode cX8_walk 44 = .ok (.getfield 76, 3) := by decide +kernel
theorem dX8_walk_47 : decode cX8_walk 47 = .ok (.iload_n 2, 1) := by decide +kernel
theorem dX8_walk_48 : decode cX8_walk 48 = .ok (.iaload, 1) := by decide +kernel
theorem dX8_walk_49 : decode cX8_walk 49 = .ok (.iconst 2, 1) := by decide +kernel
theorem dX8_walk_50 : decode cX8_walk 50 = .ok (.idiv, 1) := by decide +kernel
theorem dX8_walk_51 : decode cX8_walk 51 = .ok (.ireturn, 1) := by decide +kernel
set_option maxRecDepth 20000 in
theorem ggX8_steps_X8_isStreet : GoodIn wsX8_steps wsX8_isStreet := goodIn_ca (goodIn_r _ [9, 10, 11, 12, 13, 8, 14, 30, 31, 32, 33, 34, 35, 36, 37, 38, 39, 40, 41, 42, 43, 44, 45, 46, 47, 48, 49, 50, 51, 52, 53, 54, 55, 56, 57, 58, 59] (by decide +kernel) (by decide +kernel)) (goodIn_sub (fun _ h => List.mem_cons_of_mem _ (List.mem_append_right _ h)) (by decide +kernel))
set_option maxRecDepth 20000 in
theorem gX8_steps_X8_isStreet : GoodIn wsX8_steps (wsV RX8 132 RX8 yX8_isStreet wsX8_isStreet) := goodIn_app (goodIn_of _ (by decide +kernel)) ggX8_steps_X8_isStreet
set_option maxRecDepth 20000 in
theorem ggX8_steps_X8_no : GoodIn wsX8_steps wsX8_no := goodIn_r _ [18, 19, 30, 31, 32, 33, 34, 35, 36, 37, 38, 39, 40, 41, 42, 43, 44, 45, 46, 47, 48, 49, 50, 51, 52, 53, 54, 55, 56, 57, 58, 59] (by decide +kernel) (by decide +kernel)
set_option maxRecDepth 20000 in
theorem gX8_steps_X8_no : GoodIn wsX8_steps (wsV RX8 93 RX8 yX8_no wsX8_no) := goodIn_app (goodIn_of _ (by decide +kernel)) ggX8_steps_X8_no
set_option maxRecDepth 20000 in
theorem ggX8_steps_X8_walks : GoodIn wsX8_steps wsX8_walks := goodIn_ca (goodIn_r _ [23, 1, 24, 25, 3, 26, 27, 28, 8, 29, 4, 2, 30, 31, 32, 33, 34, 35, 36, 37, 38, 39, 40, 41, 42, 43, 44, 45, 46, 47, 48, 49, 50, 51, 52, 53, 54, 55, 56, 57, 58, 59] (by decide +kernel) (by decide +kernel)) (goodIn_sub (fun _ h => List.mem_cons_of_mem _ (List.mem_append_right _ h)) (by decide +kernel))
set_option maxRecDepth 20000 in
theorem gX8_steps_X8_walks : GoodIn wsX8_steps (wsV RX8 218 RX8 yX8_walks wsX8_walks) := goodIn_app (goodIn_of _ (by decide +kernel)) ggX8_steps_X8_walks
theorem dX8_steps_0 : decode cX8_steps 0 = .ok (.aload_n 0, 1) := by decide +kernel
theorem dX8_steps_1 : decode cX8_steps 1 = .ok (.aload_n 0, 1) := by decide +kernel
theorem dX8_steps_2 : decode cX8_steps 2 = .ok (.iload_n 1, 1) := by decide +kernel
theorem dX8_steps_3 : decode cX8_steps 3 = .ok (.invokevirtual 132, 3) := by decide +kernel
theorem dX8_steps_6 : decode cX8_steps 6 = .ok (.iconst 1, 1) := by decide +kernel
theorem dX8_steps_7 : decode cX8_steps 7 = .ok (.invokevirtual 93, 3) := by decide +kernel
theorem dX8_steps_10 : decode cX8_steps 10 = .ok (.ifCond .eq 5, 3) := by decide +kernel
theorem dX8_steps_13 : decode cX8_steps 13 = .ok (.iconst 0, 1) := by decide +kernel
theorem dX8_steps_14 : decode cX8_steps 14 = .ok (.ireturn, 1) := by decide +kernel
theorem dX8_steps_15 : decode cX8_steps 15 = .ok (.aload_n 0, 1) := by decide +kernel
theorem dX8_steps_16 : decode cX8_steps 16 = .ok (.iload_n 1, 1) := by decide +kernel
theorem dX8_steps_17 : decode cX8_steps 17 = .ok (.invokevirtual 218, 3) := by decide +kernel
theorem dX8_steps_20 : decode cX8_steps 20 = .ok (.iconst 0, 1) := by decide +kernel
theorem dX8_steps_21 : decode cX8_steps 21 = .ok (.istore_n 2, 1) := by decide +kernel
theorem dX8_steps_22 : decode cX8_steps 22 = .ok (.iconst 1, 1) := by decide +kernel
theorem dX8_steps_23 : decode cX8_steps 23 = .ok (.istore_n 3, 1) := by decide +kernel
theorem dX8_steps_24 : decode cX8_steps 24 = .ok (.iload_n 3, 1) := by decide +kernel
theorem dX8_steps_25 : decode cX8_steps 25 = .ok (.aload_n 0, 1) := by decide +kernel
theorem dX8_steps_26 : decode cX8_steps 26 = .ok (.getfield 212, 3) := by decide +kernel
theorem dX8_steps_29 : decode cX8_steps 29 = .ok (.if_icmp .ge 87, 3) := by decide +kernel
theorem dX8_steps_32 : decode cX8_steps 32 = .ok (.aload_n 0, 1) := by decide +kernel
theorem dX8_steps_33 : decode cX8_steps 33 = .ok (.getfield 37, 3) := by decide +kernel
theorem dX8_steps_36 : decode cX8_steps 36 = .ok (.aload_n 0, 1) := by decide +kernel
theorem dX8_steps_37 : decode cX8_steps 37 = .ok (.getfield 76, 3) := by decide +kernel
theorem dX8_steps_40 : decode cX8_steps 40 = .ok (.iload_n 3, 1) := by decide +kernel
theorem dX8_steps_41 : decode cX8_steps 41 = .ok (.iaload, 1) := by decide +kernel
theorem dX8_steps_42 : decode cX8_steps 42 = .ok (.iaload, 1) := by decide +kernel
theorem dX8_steps_43 : decode cX8_steps 43 = .ok (.aload_n 0, 1) := by decide +kernel
theorem dX8_steps_44 : decode cX8_steps 44 = .ok (.getfield 37, 3) := by decide +kernel
theorem dX8_steps_47 : decode cX8_steps 47 = .ok (.aload_n 0, 1) := by decide +kernel
theorem dX8_steps_48 : decode cX8_steps 48 = .ok (.getfield 76, 3) := by decide +kernel
theorem dX8_steps_51 : decode cX8_steps 51 = .ok (.iload_n 3, 1) := by decide +kernel
theorem dX8_steps_52 : decode cX8_steps 52 = .ok (.iconst 1, 1) := by decide +kernel
theorem dX8_steps_53 : decode cX8_steps 53 = .ok (.isub, 1) := by decide +kernel
theorem dX8_steps_54 : decode cX8_steps 54 = .ok (.iaload, 1) := by decide +kernel
theorem dX8_steps_55 : decode cX8_steps 55 = .ok (.iaload, 1) := by decide +kernel
theorem dX8_steps_56 : decode cX8_steps 56 = .ok (.isub, 1) := by decide +kernel
theorem dX8_steps_57 : decode cX8_steps 57 = .ok (.istore 4, 2) := by decide +kernel
theorem dX8_steps_59 : decode cX8_steps 59 = .ok (.iload_n 2, 1) := by decide +kernel
theorem dX8_steps_60 : decode cX8_steps 60 = .ok (.iload 4, 2) := by decide +kernel
theorem dX8_steps_62 : decode cX8_steps 62 = .ok (.ifCond .ge 9, 3) := by decide +kernel
theorem dX8_steps_65 : decode cX8_steps 65 = .ok (.iload 4, 2) := by decide +kernel
theorem dX8_steps_67 : decode cX8_steps 67 = .ok (.ineg, 1) := by decide +kernel
theorem dX8_steps_68 : decode cX8_steps 68 = .ok (.goto 5, 3) := by decide +kernel
theorem dX8_steps_71 : decode cX8_steps 71 = .ok (.iload 4, 2) := by decide +kernel
theorem dX8_steps_73 : decode cX8_steps 73 = .ok (.iadd, 1) := by decide +kernel
theorem dX8_steps_74 : decode cX8_steps 74 = .ok (.istore_n 2, 1) := by decide +kernel
theorem dX8_steps_75 : decode cX8_steps 75 = .ok (.iload_n 2, 1) := by decide +kernel
theorem dX8_steps_76 : decode cX8_steps 76 = .ok (.aload_n 0, 1) := by decide +kernel
theorem dX8_steps_77 : decode cX8_steps 77 = .ok (.getfield 40, 3) := by decide +kernel
theorem dX8_steps_80 : decode cX8_steps 80 = .ok (.aload_n 0, 1) := by decide +kernel
theorem dX8_steps_81 : decode cX8_steps 81 = .ok (.getfield 76, 3) := by decide +kernel
theorem dX8_steps_84 : decode cX8_steps 84 = .ok (.iload_n 3, 1) := by decide +kernel
theorem dX8_steps_85 : decode cX8_steps 85 = .ok (.iaload, 1) := by decide +kernel
theorem dX8_steps_86 : decode cX8_steps 86 = .ok (.caload, 1) := by decide +kernel
theorem dX8_steps_87 : decode cX8_steps 87 = .ok (.aload_n 0, 1) := by decide +kernel
theorem dX8_steps_88 : decode cX8_steps 88 = .ok (.getfield 40, 3) := by decide +kernel
theorem dX8_steps_91 : decode cX8_steps 91 = .ok (.aload_n 0, 1) := by decide +kernel
theorem dX8_steps_92 : decode cX8_steps 92 = .ok (.getfield 76, 3) := by decide +kernel
theorem dX8_steps_95 : decode cX8_steps 95 = .ok (.iload_n 3, 1) := by decide +kernel
theorem dX8_steps_96 : decode cX8_steps 96 = .ok (.iconst 1, 1) := by decide +kernel
theorem dX8_steps_97 : decode cX8_steps 97 = .ok (.isub, 1) := by decide +kernel
theorem dX8_steps_98 : decode cX8_steps 98 = .ok (.iaload, 1) := by decide +kernel
theorem dX8_steps_99 : decode cX8_steps 99 = .ok (.caload, 1) := by decide +kernel
theorem dX8_steps_100 : decode cX8_steps 100 = .ok (.if_icmp .eq 7, 3) := by decide +kernel
theorem dX8_steps_103 : decode cX8_steps 103 = .ok (.iconst 5, 1) := by decide +kernel
theorem dX8_steps_104 : decode cX8_steps 104 = .ok (.goto 4, 3) := by decide +kernel
theorem dX8_steps_107 : decode cX8_steps 107 = .ok (.iconst 0, 1) := by decide +kernel
theorem dX8_steps_108 : decode cX8_steps 108 = .ok (.iadd, 1) := by decide +kernel
theorem dX8_steps_109 : decode cX8_steps 109 = .ok (.istore_n 2, 1) := by decide +kernel
theorem dX8_steps_110 : decode cX8_steps 110 = .ok (.iinc 3 1, 3) := by decide +kernel
theorem dX8_steps_113 : decode cX8_steps 113 = .ok (.goto (-89), 3) := by decide +kernel
theorem dX8_steps_116 : decode cX8_steps 116 = .ok (.iload_n 2, 1) := by decide +kernel
theorem dX8_steps_117 : decode cX8_steps 117 = .ok (.ireturn, 1) := by decide +kernel
set_option maxRecDepth 20000 in
theorem ggX8_clashes_X8_isStreet : GoodIn wsX8_clashes wsX8_isStreet := goodIn_ca (goodIn_r _ [9, 10, 11, 12, 13, 8, 14, 31, 32, 33, 34, 35, 36, 37, 38, 39, 40, 41, 42, 43, 44, 45, 46, 47, 48, 49, 50, 51, 52, 53, 54, 55, 56, 57, 58, 59, 60] (by decide +kernel) (by decide +kernel)) (goodIn_sub (fun _ h => List.mem_cons_of_mem _ (List.mem_append_right _ h)) (by decide +kernel))
set_option maxRecDepth 20000 in
theorem gX8_clashes_X8_isStreet : GoodIn wsX8_clashes (wsV RX8 132 RX8 yX8_isStreet wsX8_isStreet) := goodIn_app (goodIn_of _ (by decide +kernel)) ggX8_clashes_X8_isStreet
set_option maxRecDepth 20000 in
theorem ggX8_clashes_X8_no : GoodIn wsX8_clashes wsX8_no := goodIn_r _ [18, 19, 31, 32, 33, 34, 35, 36, 37, 38, 39, 40, 41, 42, 43, 44, 45, 46, 47, 48, 49, 50, 51, 52, 53, 54, 55, 56, 57, 58, 59, 60] (by decide +kernel) (by decide +kernel)
set_option maxRecDepth 20000 in
theorem gX8_clashes_X8_no : GoodIn wsX8_clashes (wsV RX8 93 RX8 yX8_no wsX8_no) := goodIn_app (goodIn_of _ (by decide +kernel)) ggX8_clashes_X8_no
set_option maxRecDepth 20000 in
theorem ggX8_clashes_X8_isFarther : GoodIn wsX8_clashes wsX8_isFarther := goodIn_ca (goodIn_r _ [23, 24, 25, 26, 27, 8, 28, 29, 30, 31, 32, 33, 34, 35, 36, 37, 38, 39, 40, 41, 42, 43, 44, 45, 46, 47, 48, 49, 50, 51, 52, 53, 54, 55, 56, 57, 58, 59, 60] (by decide +kernel) (by decide +kernel)) (goodIn_sub (fun _ h => List.mem_cons_of_mem _ (List.mem_append_right _ h)) (by decide +kernel))
set_option maxRecDepth 20000 in
theorem gX8_clashes_X8_isFarther : GoodIn wsX8_clashes (wsV RX8 151 RX8 yX8_isFarther wsX8_isFarther) := goodIn_app (goodIn_of _ (by decide +kernel)) ggX8_clashes_X8_isFarther
theorem dX8_clashes_0 : decode cX8_clashes 0 = .ok (.aload_n 0, 1) := by decide +kernel
theorem dX8_clashes_1 : decode cX8_clashes 1 = .ok (.aload_n 0, 1) := by decide +kernel
theorem dX8_clashes_2 : decode cX8_clashes 2 = .ok (.iload_n 1, 1) := by decide +kernel
theorem dX8_clashes_3 : decode cX8_clashes 3 = .ok (.invokevirtual 132, 3) := by decide +kernel
theorem dX8_clashes_6 : decode cX8_clashes 6 = .ok (.iconst 1, 1) := by decide +kernel
theorem dX8_clashes_7 : decode cX8_clashes 7 = .ok (.invokevirtual 93, 3) := by decide +kernel
theorem dX8_clashes_10 : decode cX8_clashes 10 = .ok (.ifCond .eq 5, 3) := by decide +kernel
theorem dX8_clashes_13 : decode cX8_clashes 13 = .ok (.iconst 0, 1) := by decide +kernel
theorem dX8_clashes_14 : decode cX8_clashes 14 = .ok (.ireturn, 1) := by decide +kernel
theorem dX8_clashes_15 : decode cX8_clashes 15 = .ok (.iconst 0, 1) := by decide +kernel
theorem dX8_clashes_16 : decode cX8_clashes 16 = .ok (.istore_n 2, 1) := by decide +kernel
theorem dX8_clashes_17 : decode cX8_clashes 17 = .ok (.iconst 0, 1) := by decide +kernel
theorem dX8_clashes_18 : decode cX8_clashes 18 = .ok (.istore_n 3, 1) := by decide +kernel
theorem dX8_clashes_19 : decode cX8_clashes 19 = .ok (.iload_n 3, 1) := by decide +kernel
theorem dX8_clashes_20 : decode cX8_clashes 20 = .ok (.iconst 2, 1) := by decide +kernel
theorem dX8_clashes_21 : decode cX8_clashes 21 = .ok (.aload_n 0, 1) := by decide +kernel
theorem dX8_clashes_22 : decode cX8_clashes 22 = .ok (.getfield 90, 3) := by decide +kernel
theorem dX8_clashes_25 : decode cX8_clashes 25 = .ok (.imul, 1) := by decide +kernel
theorem dX8_clashes_26 : decode cX8_clashes 26 = .ok (.if_icmp .ge 119, 3) := by decide +kernel
theorem dX8_clashes_29 : decode cX8_clashes 29 = .ok (.iconst 0, 1) := by decide +kernel
theorem dX8_clashes_30 : decode cX8_clashes 30 = .ok (.istore 4, 2) := by decide +kernel
theorem dX8_clashes_32 : decode cX8_clashes 32 = .ok (.iload 4, 2) := by decide +kernel
theorem dX8_clashes_34 : decode cX8_clashes 34 = .ok (.iconst 2, 1) := by decide +kernel
theorem dX8_clashes_35 : decode cX8_clashes 35 = .ok (.aload_n 0, 1) := by decide +kernel
theorem dX8_clashes_36 : decode cX8_clashes 36 = .ok (.getfield 90, 3) := by decide +kernel
theorem dX8_clashes_39 : decode cX8_clashes 39 = .ok (.imul, 1) := by decide +kernel
theorem dX8_clashes_40 : decode cX8_clashes 40 = .ok (.if_icmp .ge 99, 3) := by decide +kernel
theorem dX8_clashes_43 : decode cX8_clashes 43 = .ok (.iload_n 3, 1) := by decide +kernel
theorem dX8_clashes_44 : decode cX8_clashes 44 = .ok (.iload 4, 2) := by decide +kernel
theorem dX8_clashes_46 : decode cX8_clashes 46 = .ok (.if_icmp .eq 44, 3) := by decide +kernel
theorem dX8_clashes_49 : decode cX8_clashes 49 = .ok (.aload_n 0, 1) := by decide +kernel
theorem dX8_clashes_50 : decode cX8_clashes 50 = .ok (.getfield 34, 3) := by decide +kernel
theorem dX8_clashes_53 : decode cX8_clashes 53 = .ok (.iload_n 3, 1) := by decide +kernel
theorem dX8_clashes_54 : decode cX8_clashes 54 = .ok (.iaload, 1) := by decide +kernel
theorem dX8_clashes_55 : decode cX8_clashes 55 = .ok (.iload_n 1, 1) := by decide +kernel
theorem dX8_clashes_56 : decode cX8_clashes 56 = .ok (.if_icmp .ne 34, 3) := by decide +kernel
theorem dX8_clashes_59 : decode cX8_clashes 59 = .ok (.aload_n 0, 1) := by decide +kernel
theorem dX8_clashes_60 : decode cX8_clashes 60 = .ok (.getfield 34, 3) := by decide +kernel
theorem dX8_clashes_63 : decode cX8_clashes 63 = .ok (.iload 4, 2) := by decide +kernel
theorem dX8_clashes_65 : decode cX8_clashes 65 = .ok (.iaload, 1) := by decide +kernel
theorem dX8_clashes_66 : decode cX8_clashes 66 = .ok (.iload_n 1, 1) := by decide +kernel
theorem dX8_clashes_67 : decode cX8_clashes 67 = .ok (.if_icmp .ne 23, 3) := by decide +kernel
theorem dX8_clashes_70 : decode cX8_clashes 70 = .ok (.aload_n 0, 1) := by decide +kernel
theorem dX8_clashes_71 : decode cX8_clashes 71 = .ok (.getfield 40, 3) := by decide +kernel
theorem dX8_clashes_74 : decode cX8_clashes 74 = .ok (.iload_n 3, 1) := by decide +kernel
theorem dX8_clashes_75 : decode cX8_clashes 75 = .ok (.caload, 1) := by decide +kernel
theorem dX8_clashes_76 : decode cX8_clashes 76 = .ok (.aload_n 0, 1) := by decide +kernel
theorem dX8_clashes_77 : decode cX8_clashes 77 = .ok (.getfield 40, 3) := by decide +kernel
theorem dX8_clashes_80 : decode cX8_clashes 80 = .ok (.iload 4, 2) := by decide +kernel
theorem dX8_clashes_82 : decode cX8_clashes 82 = .ok (.caload, 1) := by decide +kernel
theorem dX8_clashes_83 : decode cX8_clashes 83 = .ok (.if_icmp .ne 7, 3) := by decide +kernel
theorem dX8_clashes_86 : decode cX8_clashes 86 = .ok (.iconst 1, 1) := by decide +kernel
theorem dX8_clashes_87 : decode cX8_clashes 87 = .ok (.goto 4, 3) := by decide +kernel
theorem dX8_clashes_90 : decode cX8_clashes 90 = .ok (.iconst 0, 1) := by decide +kernel
theorem dX8_clashes_91 : decode cX8_clashes 91 = .ok (.istore 5, 2) := by decide +kernel
theorem dX8_clashes_93 : decode cX8_clashes 93 = .ok (.iload_n 2, 1) := by decide +kernel
theorem dX8_clashes_94 : decode cX8_clashes 94 = .ok (.iload 5, 2) := by decide +kernel
theorem dX8_clashes_96 : decode cX8_clashes 96 = .ok (.ifCond .eq 34, 3) := by decide +kernel
theorem dX8_clashes_99 : decode cX8_clashes 99 = .ok (.aload_n 0, 1) := by decide +kernel
theorem dX8_clashes_100 : decode cX8_clashes 100 = .ok (.iload_n 1, 1) := by decide +kernel
theorem dX8_clashes_101 : decode cX8_clashes 101 = .ok (.iload_n 3, 1) := by decide +kernel
theorem dX8_clashes_102 : decode cX8_clashes 102 = .ok (.iload 4, 2) := by decide +kernel
theorem dX8_clashes_104 : decode cX8_clashes 104 = .ok (.invokevirtual 151, 3) := by decide +kernel
theorem dX8_clashes_107 : decode cX8_clashes 107 = .ok (.ifCond .eq 23, 3) := by decide +kernel
theorem dX8_clashes_110 : decode cX8_clashes 110 = .ok (.aload_n 0, 1) := by decide +kernel
theorem dX8_clashes_111 : decode cX8_clashes 111 = .ok (.getfield 43, 3) := by decide +kernel
theorem dX8_clashes_114 : decode cX8_clashes 114 = .ok (.iload_n 3, 1) := by decide +kernel
theorem dX8_clashes_115 : decode cX8_clashes 115 = .ok (.iaload, 1) := by decide +kernel
theorem dX8_clashes_116 : decode cX8_clashes 116 = .ok (.aload_n 0, 1) := by decide +kernel
theorem dX8_clashes_117 : decode cX8_clashes 117 = .ok (.getfield 43, 3) := by decide +kernel
theorem dX8_clashes_120 : decode cX8_clashes 120 = .ok (.iload 4, 2) := by decide +kernel
theorem dX8_clashes_122 : decode cX8_clashes 122 = .ok (.iaload, 1) := by decide +kernel
theorem dX8_clashes_123 : decode cX8_clashes 123 = .ok (.if_icmp .ge 7, 3) := by decide +kernel
theorem dX8_clashes_126 : decode cX8_clashes 126 = .ok (.iconst 1, 1) := by decide +kernel
theorem dX8_clashes_127 : decode cX8_clashes 127 = .ok (.goto 4, 3) := by decide +kernel
theorem dX8_clashes_130 : decode cX8_clashes 130 = .ok (.iconst 0, 1) := by decide +kernel
theorem dX8_clashes_131 : decode cX8_clashes 131 = .ok (.iadd, 1) := by decide +kernel
theorem dX8_clashes_132 : decode cX8_clashes 132 = .ok (.istore_n 2, 1) := by decide +kernel
theorem dX8_clashes_133 : decode cX8_clashes 133 = .ok (.iinc 4 1, 3) := by decide +kernel
theorem dX8_clashes_136 : decode cX8_clashes 136 = .ok (.goto (-104), 3) := by decide +kernel
theorem dX8_clashes_139 : decode cX8_clashes 139 = .ok (.iinc 3 1, 3) := by decide +kernel
theorem dX8_clashes_142 : decode cX8_clashes 142 = .ok (.goto (-123), 3) := by decide +kernel
theorem dX8_clashes_145 : decode cX8_clashes 145 = .ok (.iload_n 2, 1) := by decide +kernel
theorem dX8_clashes_146 : decode cX8_clashes 146 = .ok (.ireturn, 1) := by decide +kernel
theorem dX8_streets_0 : decode cX8_streets 0 = .ok (.iconst 0, 1) := by decide +kernel
theorem dX8_streets_1 : decode cX8_streets 1 = .ok (.istore_n 1, 1) := by decide +kernel
theorem dX8_streets_2 : decode cX8_streets 2 = .ok (.iconst 0, 1) := by decide +kernel
theorem dX8_streets_3 : decode cX8_streets 3 = .ok (.istore_n 2, 1) := by decide +kernel
theorem dX8_streets_4 : decode cX8_streets 4 = .ok (.iload_n 2, 1) := by decide +kernel
theorem dX8_streets_5 : decode cX8_streets 5 = .ok (.aload_n 0, 1) := by decide +kernel
theorem dX8_streets_6 : decode cX8_streets 6 = .ok (.getfield 83, 3) := by decide +kernel
theorem dX8_streets_9 : decode cX8_streets 9 = .ok (.if_icmp .ge 26, 3) := by decide +kernel
theorem dX8_streets_12 : decode cX8_streets 12 = .ok (.iload_n 1, 1) := by decide +kernel
theorem dX8_streets_13 : decode cX8_streets 13 = .ok (.aload_n 0, 1) := by decide +kernel
theorem dX8_streets_14 : decode cX8_streets 14 = .ok (.getfield 28, 3) := by decide +kernel
theorem dX8_streets_17 : decode cX8_streets 17 = .ok (.iload_n 2, 1) := by decide +kernel
theorem dX8_streets_18 : decode cX8_streets 18 = .ok (.baload, 1) := by decide +kernel
theorem dX8_streets_19 : decode cX8_streets 19 = .ok (.ifCond .eq 7, 3) := by decide +kernel
theorem dX8_streets_22 : decode cX8_streets 22 = .ok (.iconst 0, 1) := by decide +kernel
theorem dX8_streets_23 : decode cX8_streets 23 = .ok (.goto 4, 3) := by decide +kernel
theorem dX8_streets_26 : decode cX8_streets 26 = .ok (.iconst 1, 1) := by decide +kernel
theorem dX8_streets_27 : decode cX8_streets 27 = .ok (.iadd, 1) := by decide +kernel
theorem dX8_streets_28 : decode cX8_streets 28 = .ok (.istore_n 1, 1) := by decide +kernel
theorem dX8_streets_29 : decode cX8_streets 29 = .ok (.iinc 2 1, 3) := by decide +kernel
theorem dX8_streets_32 : decode cX8_streets 32 = .ok (.goto (-28), 3) := by decide +kernel
theorem dX8_streets_35 : decode cX8_streets 35 = .ok (.iload_n 1, 1) := by decide +kernel
theorem dX8_streets_36 : decode cX8_streets 36 = .ok (.ireturn, 1) := by decide +kernel
set_option maxRecDepth 20000 in
theorem ggX8_goneShare_X8_no : GoodIn wsX8_goneShare wsX8_no := goodIn_r _ [7, 8, 9, 10, 11, 12, 13, 14, 15, 16, 17, 18, 19, 20, 21, 22, 23, 24, 25, 26, 27, 28, 29, 30, 31, 32, 33, 34, 35, 36, 37, 38] (by decide +kernel) (by decide +kernel)
set_option maxRecDepth 20000 in
theorem gX8_goneShare_X8_no : GoodIn wsX8_goneShare (wsV RX8 93 RX8 yX8_no wsX8_no) := goodIn_app (goodIn_of _ (by decide +kernel)) ggX8_goneShare_X8_no
theorem dX8_goneShare_0 : decode cX8_goneShare 0 = .ok (.iconst 0, 1) := by decide +kernel
theorem dX8_goneShare_1 : decode cX8_goneShare 1 = .ok (.istore_n 1, 1) := by decide +kernel
theorem dX8_goneShare_2 : decode cX8_goneShare 2 = .ok (.iconst 0, 1) := by decide +kernel
theorem dX8_goneShare_3 : decode cX8_goneShare 3 = .ok (.istore_n 2, 1) := by decide +kernel
theorem dX8_goneShare_4 : decode cX8_goneShare 4 = .ok (.iload_n 2, 1) := by decide +kernel
theorem dX8_goneShare_5 : decode cX8_goneShare 5 = .ok (.aload_n 0, 1) := by decide +kernel
theorem dX8_goneShare_6 : decode cX8_goneShare 6 = .ok (.getfield 90, 3) := by decide +kernel
theorem dX8_goneShare_9 : decode cX8_goneShare 9 = .ok (.if_icmp .ge 26, 3) := by decide +kernel
theorem dX8_goneShare_12 : decode cX8_goneShare 12 = .ok (.iload_n 1, 1) := by decide +kernel
theorem dX8_goneShare_13 : decode cX8_goneShare 13 = .ok (.aload_n 0, 1) := by decide +kernel
theorem dX8_goneShare_14 : decode cX8_goneShare 14 = .ok (.getfield 46, 3) := by decide +kernel
theorem dX8_goneShare_17 : decode cX8_goneShare 17 = .ok (.iload_n 2, 1) := by decide +kernel
theorem dX8_goneShare_18 : decode cX8_goneShare 18 = .ok (.baload, 1) := by decide +kernel
theorem dX8_goneShare_19 : decode cX8_goneShare 19 = .ok (.ifCond .eq 7, 3) := by decide +kernel
theorem dX8_goneShare_22 : decode cX8_goneShare 22 = .ok (.iconst 1, 1) := by decide +kernel
theorem dX8_goneShare_23 : decode cX8_goneShare 23 = .ok (.goto 4, 3) := by decide +kernel
theorem dX8_goneShare_26 : decode cX8_goneShare 26 = .ok (.iconst 0, 1) := by decide +kernel
theorem dX8_goneShare_27 : decode cX8_goneShare 27 = .ok (.iadd, 1) := by decide +kernel
theorem dX8_goneShare_28 : decode cX8_goneShare 28 = .ok (.istore_n 1, 1) := by decide +kernel
theorem dX8_goneShare_29 : decode cX8_goneShare 29 = .ok (.iinc 2 1, 3) := by decide +kernel
theorem dX8_goneShare_32 : decode cX8_goneShare 32 = .ok (.goto (-28), 3) := by decide +kernel
theorem dX8_goneShare_35 : decode cX8_goneShare 35 = .ok (.aload_n 0, 1) := by decide +kernel
theorem dX8_goneShare_36 : decode cX8_goneShare 36 = .ok (.aload_n 0, 1) := by decide +kernel
theorem dX8_goneShare_37 : decode cX8_goneShare 37 = .ok (.getfield 90, 3) := by decide +kernel
theorem dX8_goneShare_40 : decode cX8_goneShare 40 = .ok (.ifCond .le 7, 3) := by decide +kernel
theorem dX8_goneShare_43 : decode cX8_goneShare 43 = .ok (.iconst 1, 1) := by decide +kernel
theorem dX8_goneShare_44 : decode cX8_goneShare 44 = .ok (.goto 4, 3) := by decide +kernel
theorem dX8_goneShare_47 : decode cX8_goneShare 47 = .ok (.iconst 0, 1) := by decide +kernel
theorem dX8_goneShare_48 : decode cX8_goneShare 48 = .ok (.iconst 1, 1) := by decide +kernel
theorem dX8_goneShare_49 : decode cX8_goneShare 49 = .ok (.invokevirtual 93, 3) := by decide +kernel
theorem dX8_goneShare_52 : decode cX8_goneShare 52 = .ok (.ifCond .eq 7, 3) := by decide +kernel
theorem dX8_goneShare_55 : decode cX8_goneShare 55 = .ok (.fconst 0, 1) := by decide +kernel
theorem dX8_goneShare_56 : decode cX8_goneShare 56 = .ok (.goto 11, 3) := by decide +kernel
theorem dX8_goneShare_59 : decode cX8_goneShare 59 = .ok (.iload_n 1, 1) := by decide +kernel
theorem dX8_goneShare_60 : decode cX8_goneShare 60 = .ok (.i2f, 1) := by decide +kernel
theorem dX8_goneShare_61 : decode cX8_goneShare 61 = .ok (.aload_n 0, 1) := by decide +kernel
theorem dX8_goneShare_62 : decode cX8_goneShare 62 = .ok (.getfield 90, 3) := by decide +kernel
theorem dX8_goneShare_65 : decode cX8_goneShare 65 = .ok (.i2f, 1) := by decide +kernel
theorem dX8_goneShare_66 : decode cX8_goneShare 66 = .ok (.fdiv, 1) := by decide +kernel
theorem dX8_goneShare_67 : decode cX8_goneShare 67 = .ok (.freturn, 1) := by decide +kernel
set_option maxRecDepth 20000 in
theorem ggX8_meanDoors_X8_doorsOf : GoodIn wsX8_meanDoors wsX8_doorsOf := goodIn_ca (goodIn_r _ [7, 8, 18, 19, 20, 21, 22, 23, 24, 25, 26, 27, 28, 29, 30, 31, 32, 33, 34, 35, 36, 37, 38, 39, 40, 41, 42, 43, 44, 45, 46, 47] (by decide +kernel) (by decide +kernel)) (goodIn_sub (fun _ h => List.mem_cons_of_mem _ (List.mem_append_right _ h)) (by decide +kernel))
set_option maxRecDepth 20000 in
theorem gX8_meanDoors_X8_doorsOf : GoodIn wsX8_meanDoors (wsV RX8 209 RX8 yX8_doorsOf wsX8_doorsOf) := goodIn_app (goodIn_of _ (by decide +kernel)) ggX8_meanDoors_X8_doorsOf
set_option maxRecDepth 20000 in
theorem ggX8_meanDoors_X8_streets : GoodIn wsX8_meanDoors wsX8_streets := goodIn_ca (goodIn_r _ [12, 1, 2, 18, 19, 20, 21, 22, 23, 24, 25, 26, 27, 28, 29, 30, 31, 32, 33, 34, 35, 36, 37, 38, 39, 40, 41, 42, 43, 44, 45, 46, 47] (by decide +kernel) (by decide +kernel)) (goodIn_sub (fun _ h => List.mem_cons_of_mem _ (List.mem_append_right _ h)) (by decide +kernel))
set_option maxRecDepth 20000 in
theorem gX8_meanDoors_X8_streets : GoodIn wsX8_meanDoors (wsV RX8 221 RX8 yX8_streets wsX8_streets) := goodIn_app (goodIn_of _ (by decide +kernel)) ggX8_meanDoors_X8_streets
set_option maxRecDepth 20000 in
theorem ggX8_meanDoors_X8_no : GoodIn wsX8_meanDoors wsX8_no := goodIn_r _ [16, 17, 18, 19, 20, 21, 22, 23, 24, 25, 26, 27, 28, 29, 30, 31, 32, 33, 34, 35, 36, 37, 38, 39, 40, 41, 42, 43, 44, 45, 46, 47] (by decide +kernel) (by decide +kernel)
set_option maxRecDepth 20000 in
theorem gX8_meanDoors_X8_no : GoodIn wsX8_meanDoors (wsV RX8 93 RX8 yX8_no wsX8_no) := goodIn_app (goodIn_of _ (by decide +kernel)) ggX8_meanDoors_X8_no
theorem dX8_meanDoors_0 : decode cX8_meanDoors 0 = .ok (.iconst 0, 1) := by decide +kernel
theorem dX8_meanDoors_1 : decode cX8_meanDoors 1 = .ok (.istore_n 1, 1) := by decide +kernel
theorem dX8_meanDoors_2 : decode cX8_meanDoors 2 = .ok (.iconst 0, 1) := by decide +kernel
theorem dX8_meanDoors_3 : decode cX8_meanDoors 3 = .ok (.istore_n 2, 1) := by decide +kernel
theorem dX8_meanDoors_4 : decode cX8_meanDoors 4 = .ok (.iload_n 2, 1) := by decide +kernel
theorem dX8_meanDoors_5 : decode cX8_meanDoors 5 = .ok (.aload_n 0, 1) := by decide +kernel
theorem dX8_meanDoors_6 : decode cX8_meanDoors 6 = .ok (.getfield 83, 3) := by decide +kernel
theorem dX8_meanDoors_9 : decode cX8_meanDoors 9 = .ok (.if_icmp .ge 30, 3) := by decide +kernel
theorem dX8_meanDoors_12 : decode cX8_meanDoors 12 = .ok (.iload_n 1, 1) := by decide +kernel
theorem dX8_meanDoors_13 : decode cX8_meanDoors 13 = .ok (.aload_n 0, 1) := by decide +kernel
theorem dX8_meanDoors_14 : decode cX8_meanDoors 14 = .ok (.getfield 28, 3) := by decide +kernel
theorem dX8_meanDoors_17 : decode cX8_meanDoors 17 = .ok (.iload_n 2, 1) := by decide +kernel
theorem dX8_meanDoors_18 : decode cX8_meanDoors 18 = .ok (.baload, 1) := by decide +kernel
theorem dX8_meanDoors_19 : decode cX8_meanDoors 19 = .ok (.ifCond .eq 7, 3) := by decide +kernel
theorem dX8_meanDoors_22 : decode cX8_meanDoors 22 = .ok (.iconst 0, 1) := by decide +kernel
theorem dX8_meanDoors_23 : decode cX8_meanDoors 23 = .ok (.goto 8, 3) := by decide +kernel
theorem dX8_meanDoors_26 : decode cX8_meanDoors 26 = .ok (.aload_n 0, 1) := by decide +kernel
theorem dX8_meanDoors_27 : decode cX8_meanDoors 27 = .ok (.iload_n 2, 1) := by decide +kernel
theorem dX8_meanDoors_28 : decode cX8_meanDoors 28 = .ok (.invokevirtual 209, 3) := by decide +kernel
theorem dX8_meanDoors_31 : decode cX8_meanDoors 31 = .ok (.iadd, 1) := by decide +kernel
theorem dX8_meanDoors_32 : decode cX8_meanDoors 32 = .ok (.istore_n 1, 1) := by decide +kernel
theorem dX8_meanDoors_33 : decode cX8_meanDoors 33 = .ok (.iinc 2 1, 3) := by decide +kernel
theorem dX8_meanDoors_36 : decode cX8_meanDoors 36 = .ok (.goto (-32), 3) := by decide +kernel
theorem dX8_meanDoors_39 : decode cX8_meanDoors 39 = .ok (.aload_n 0, 1) := by decide +kernel
theorem dX8_meanDoors_40 : decode cX8_meanDoors 40 = .ok (.aload_n 0, 1) := by decide +kernel
theorem dX8_meanDoors_41 : decode cX8_meanDoors 41 = .ok (.invokevirtual 221, 3) := by decide +kernel
theorem dX8_meanDoors_44 : decode cX8_meanDoors 44 = .ok (.ifCond .le 7, 3) := by decide +kernel
theorem dX8_meanDoors_47 : decode cX8_meanDoors 47 = .ok (.iconst 1, 1) := by decide +kernel
theorem dX8_meanDoors_48 : decode cX8_meanDoors 48 = .ok (.goto 4, 3) := by decide +kernel
theorem dX8_meanDoors_51 : decode cX8_meanDoors 51 = .ok (.iconst 0, 1) := by decide +kernel
theorem dX8_meanDoors_52 : decode cX8_meanDoors 52 = .ok (.iconst 1, 1) := by decide +kernel
theorem dX8_meanDoors_53 : decode cX8_meanDoors 53 = .ok (.invokevirtual 93, 3) := by decide +kernel
theorem dX8_meanDoors_56 : decode cX8_meanDoors 56 = .ok (.ifCond .eq 7, 3) := by decide +kernel
theorem dX8_meanDoors_59 : decode cX8_meanDoors 59 = .ok (.dconst 0, 1) := by decide +kernel
theorem dX8_meanDoors_60 : decode cX8_meanDoors 60 = .ok (.goto 11, 3) := by decide +kernel
theorem dX8_meanDoors_63 : decode cX8_meanDoors 63 = .ok (.iload_n 1, 1) := by decide +kernel
theorem dX8_meanDoors_64 : decode cX8_meanDoors 64 = .ok (.i2d, 1) := by decide +kernel
theorem dX8_meanDoors_65 : decode cX8_meanDoors 65 = .ok (.aload_n 0, 1) := by decide +kernel
theorem dX8_meanDoors_66 : decode cX8_meanDoors 66 = .ok (.invokevirtual 221, 3) := by decide +kernel
theorem dX8_meanDoors_69 : decode cX8_meanDoors 69 = .ok (.i2d, 1) := by decide +kernel
theorem dX8_meanDoors_70 : decode cX8_meanDoors 70 = .ok (.ddiv, 1) := by decide +kernel
theorem dX8_meanDoors_71 : decode cX8_meanDoors 71 = .ok (.dreturn, 1) := by decide +kernel
set_option maxRecDepth 20000 in
theorem ggX8_checksum_X8_doorsOf : GoodIn wsX8_checksum wsX8_doorsOf := goodIn_ca (goodIn_r _ [15, 9, 16, 17, 18, 19, 20, 21, 22, 23, 24, 25, 26, 27, 28, 29, 30, 31, 32, 33, 34, 35, 36, 37, 38, 39, 40, 41, 42, 43, 44, 45] (by decide +kernel) (by decide +kernel)) (goodIn_sub (fun _ h => List.mem_cons_of_mem _ (List.mem_append_right _ h)) (by decide +kernel))
set_option maxRecDepth 20000 in
theorem gX8_checksum_X8_doorsOf : GoodIn wsX8_checksum (wsV RX8 209 RX8 yX8_doorsOf wsX8_doorsOf) := goodIn_app (goodIn_of _ (by decide +kernel)) ggX8_checksum_X8_doorsOf
theorem dX8_checksum_0 : decode cX8_checksum 0 = .ok (.ldc2_w 223, 3) := by decide +kernel
theorem dX8_checksum_3 : decode cX8_checksum 3 = .ok (.lstore_n 1, 1) := by decide +kernel
theorem dX8_checksum_4 : decode cX8_checksum 4 = .ok (.iconst 0, 1) := by decide +kernel
theorem dX8_checksum_5 : decode cX8_checksum 5 = .ok (.istore_n 3, 1) := by decide +kernel
theorem dX8_checksum_6 : decode cX8_checksum 6 = .ok (.iload_n 3, 1) := by decide +kernel
theorem dX8_checksum_7 : decode cX8_checksum 7 = .ok (.aload_n 0, 1) := by decide +kernel
theorem dX8_checksum_8 : decode cX8_checksum 8 = .ok (.getfield 83, 3) := by decide +kernel
theorem dX8_checksum_11 : decode cX8_checksum 11 = .ok (.if_icmp .ge 48, 3) := by decide +kernel
theorem dX8_checksum_14 : decode cX8_checksum 14 = .ok (.aload_n 0, 1) := by decide +kernel
theorem dX8_checksum_15 : decode cX8_checksum 15 = .ok (.getfield 28, 3) := by decide +kernel
theorem dX8_checksum_18 : decode cX8_checksum 18 = .ok (.iload_n 3, 1) := by decide +kernel
theorem dX8_checksum_19 : decode cX8_checksum 19 = .ok (.baload, 1) := by decide +kernel
theorem dX8_checksum_20 : decode cX8_checksum 20 = .ok (.ifCond .eq 6, 3) := by decide +kernel
theorem dX8_checksum_23 : decode cX8_checksum 23 = .ok (.goto 30, 3) := by decide +kernel
theorem dX8_checksum_26 : decode cX8_checksum 26 = .ok (.ldc2_w 225, 3) := by decide +kernel
theorem dX8_checksum_29 : decode cX8_checksum 29 = .ok (.lload_n 1, 1) := by decide +kernel
theorem dX8_checksum_30 : decode cX8_checksum 30 = .ok (.lmul, 1) := by decide +kernel
theorem dX8_checksum_31 : decode cX8_checksum 31 = .ok (.aload_n 0, 1) := by decide +kernel
theorem dX8_checksum_32 : decode cX8_checksum 32 = .ok (.getfield 16, 3) := by decide +kernel
theorem dX8_checksum_35 : decode cX8_checksum 35 = .ok (.iload_n 3, 1) := by decide +kernel
theorem dX8_checksum_36 : decode cX8_checksum 36 = .ok (.iaload, 1) := by decide +kernel
theorem dX8_checksum_37 : decode cX8_checksum 37 = .ok (.i2l, 1) := by decide +kernel
theorem dX8_checksum_38 : decode cX8_checksum 38 = .ok (.ladd, 1) := by decide +kernel
theorem dX8_checksum_39 : decode cX8_checksum 39 = .ok (.lstore_n 1, 1) := by decide +kernel
theorem dX8_checksum_40 : decode cX8_checksum 40 = .ok (.ldc2_w 225, 3) := by decide +kernel
theorem dX8_checksum_43 : decode cX8_checksum 43 = .ok (.lload_n 1, 1) := by decide +kernel
theorem dX8_checksum_44 : decode cX8_checksum 44 = .ok (.lmul, 1) := by decide +kernel
theorem dX8_checksum_45 : decode cX8_checksum 45 = .ok (.aload_n 0, 1) := by decide +kernel
theorem dX8_checksum_46 : decode cX8_checksum 46 = .ok (.iload_n 3, 1) := by decide +kernel
theorem dX8_checksum_47 : decode cX8_checksum 47 = .ok (.invokevirtual 209, 3) := by decide +kernel
theorem dX8_checksum_50 : decode cX8_checksum 50 = .ok (.i2l, 1) := by decide +kernel
theorem dX8_checksum_51 : decode cX8_checksum 51 = .ok (.ladd, 1) := by decide +kernel
theorem dX8_checksum_52 : decode cX8_checksum 52 = .ok (.lstore_n 1, 1) := by decide +kernel
theorem dX8_checksum_53 : decode cX8_checksum 53 = .ok (.iinc 3 1, 3) := by decide +kernel
theorem dX8_checksum_56 : decode cX8_checksum 56 = .ok (.goto (-50), 3) := by decide +kernel
theorem dX8_checksum_59 : decode cX8_checksum 59 = .ok (.iconst 0, 1) := by decide +kernel
theorem dX8_checksum_60 : decode cX8_checksum 60 = .ok (.istore_n 3, 1) := by decide +kernel
theorem dX8_checksum_61 : decode cX8_checksum 61 = .ok (.iload_n 3, 1) := by decide +kernel
theorem dX8_checksum_62 : decode cX8_checksum 62 = .ok (.aload_n 0, 1) := by decide +kernel
theorem dX8_checksum_63 : decode cX8_checksum 63 = .ok (.getfield 90, 3) := by decide +kernel
theorem dX8_checksum_66 : decode cX8_checksum 66 = .ok (.if_icmp .ge 69, 3) := by decide +kernel
theorem dX8_checksum_69 : decode cX8_checksum 69 = .ok (.aload_n 0, 1) := by decide +kernel
theorem dX8_checksum_70 : decode cX8_checksum 70 = .ok (.getfield 46, 3) := by decide +kernel
theorem dX8_checksum_73 : decode cX8_checksum 73 = .ok (.iload_n 3, 1) := by decide +kernel
theorem dX8_checksum_74 : decode cX8_checksum 74 = .ok (.baload, 1) := by decide +kernel
theorem dX8_checksum_75 : decode cX8_checksum 75 = .ok (.ifCond .eq 6, 3) := by decide +kernel
theorem dX8_checksum_78 : decode cX8_checksum 78 = .ok (.goto 51, 3) := by decide +kernel
theorem dX8_checksum_81 : decode cX8_checksum 81 = .ok (.ldc2_w 225, 3) := by decide +kernel
theorem dX8_checksum_84 : decode cX8_checksum 84 = .ok (.lload_n 1, 1) := by decide +kernel
theorem dX8_checksum_85 : decode cX8_checksum 85 = .ok (.lmul, 1) := by decide +kernel
theorem dX8_checksum_86 : decode cX8_checksum 86 = .ok (.aload_n 0, 1) := by decide +kernel
theorem dX8_checksum_87 : decode cX8_checksum 87 = .ok (.getfield 43, 3) := by decide +kernel
theorem dX8_checksum_90 : decode cX8_checksum 90 = .ok (.iconst 2, 1) := by decide +kernel
theorem dX8_checksum_91 : decode cX8_checksum 91 = .ok (.iload_n 3, 1) := by decide +kernel
theorem dX8_checksum_92 : decode cX8_checksum 92 = .ok (.imul, 1) := by decide +kernel
theorem dX8_checksum_93 : decode cX8_checksum 93 = .ok (.iaload, 1) := by decide +kernel
theorem dX8_checksum_94 : decode cX8_checksum 94 = .ok (.i2l, 1) := by decide +kernel
theorem dX8_checksum_95 : decode cX8_checksum 95 = .ok (.ladd, 1) := by decide +kernel
theorem dX8_checksum_96 : decode cX8_checksum 96 = .ok (.lstore_n 1, 1) := by decide +kernel
theorem dX8_checksum_97 : decode cX8_checksum 97 = .ok (.aload_n 0, 1) := by decide +kernel
theorem dX8_checksum_98 : decode cX8_checksum 98 = .ok (.getfield 34, 3) := by decide +kernel
theorem dX8_checksum_101 : decode cX8_checksum 101 = .ok (.iconst 2, 1) := by decide +kernel
theorem dX8_checksum_102 : decode cX8_checksum 102 = .ok (.iload_n 3, 1) := by decide +kernel
theorem dX8_checksum_103 : decode cX8_checksum 103 = .ok (.imul, 1) := by decide +kernel
theorem dX8_checksum_104 : decode cX8_checksum 104 = .ok (.iconst 1, 1) := by decide +kernel
theorem dX8_checksum_105 : decode cX8_checksum 105 = .ok (.iadd, 1) := by decide +kernel
theorem dX8_checksum_106 : decode cX8_checksum 106 = .ok (.iaload, 1) := by decide +kernel
theorem dX8_checksum_107 : decode cX8_checksum 107 = .ok (.iconst (-1), 1) := by decide +kernel
theorem dX8_checksum_108 : decode cX8_checksum 108 = .ok (.if_icmp .eq 21, 3) := by decide +kernel
theorem dX8_checksum_111 : decode cX8_checksum 111 = .ok (.ldc2_w 225, 3) := by decide +kernel
theorem dX8_checksum_114 : decode cX8_checksum 114 = .ok (.lload_n 1, 1) := by decide +kernel
theorem dX8_checksum_115 : decode cX8_checksum 115 = .ok (.lmul, 1) := by decide +kernel
theorem dX8_checksum_116 : decode cX8_checksum 116 = .ok (.aload_n 0, 1) := by decide +kernel
theorem dX8_checksum_117 : decode cX8_checksum 117 = .ok (.getfield 43, 3) := by decide +kernel
theorem dX8_checksum_120 : decode cX8_checksum 120 = .ok (.iconst 2, 1) := by decide +kernel
theorem dX8_checksum_121 : decode cX8_checksum 121 = .ok (.iload_n 3, 1) := by decide +kernel
theorem dX8_checksum_122 : decode cX8_checksum 122 = .ok (.imul, 1) := by decide +kernel
theorem dX8_checksum_123 : decode cX8_checksum 123 = .ok (.iconst 1, 1) := by decide +kernel
theorem dX8_checksum_124 : decode cX8_checksum 124 = .ok (.iadd, 1) := by decide +kernel
theorem dX8_checksum_125 : decode cX8_checksum 125 = .ok (.iaload, 1) := by decide +kernel
theorem dX8_checksum_126 : decode cX8_checksum 126 = .ok (.i2l, 1) := by decide +kernel
theorem dX8_checksum_127 : decode cX8_checksum 127 = .ok (.ladd, 1) := by decide +kernel
theorem dX8_checksum_128 : decode cX8_checksum 128 = .ok (.lstore_n 1, 1) := by decide +kernel
theorem dX8_checksum_129 : decode cX8_checksum 129 = .ok (.iinc 3 1, 3) := by decide +kernel
theorem dX8_checksum_132 : decode cX8_checksum 132 = .ok (.goto (-71), 3) := by decide +kernel
theorem dX8_checksum_135 : decode cX8_checksum 135 = .ok (.ldc2_w 225, 3) := by decide +kernel
theorem dX8_checksum_138 : decode cX8_checksum 138 = .ok (.lload_n 1, 1) := by decide +kernel
theorem dX8_checksum_139 : decode cX8_checksum 139 = .ok (.lmul, 1) := by decide +kernel
theorem dX8_checksum_140 : decode cX8_checksum 140 = .ok (.aload_n 0, 1) := by decide +kernel
theorem dX8_checksum_141 : decode cX8_checksum 141 = .ok (.getfield 118, 3) := by decide +kernel
theorem dX8_checksum_144 : decode cX8_checksum 144 = .ok (.i2l, 1) := by decide +kernel
theorem dX8_checksum_145 : decode cX8_checksum 145 = .ok (.ladd, 1) := by decide +kernel
theorem dX8_checksum_146 : decode cX8_checksum 146 = .ok (.lreturn, 1) := by decide +kernel
theorem dX8_isTrue_0 : decode cX8_isTrue 0 = .ok (.iconst 1, 1) := by decide +kernel
theorem dX8_isTrue_1 : decode cX8_isTrue 1 = .ok (.ireturn, 1) := by decide +kernel
theorem dJx00060_init_a7421_0 : decode cJx00060_init_a7421 0 = .ok (.aload_n 0, 1) := by decide +kernel
theorem dJx00060_init_a7421_1 : decode cJx00060_init_a7421 1 = .ok (.aload_n 1, 1) := by decide +kernel
theorem dJx00060_init_a7421_2 : decode cJx00060_init_a7421 2 = .ok (.invokespecial 7, 3) := by decide +kernel
theorem dJx00060_init_a7421_5 : decode cJx00060_init_a7421 5 = .ok (.return_, 1) := by decide +kernel
theorem dJ9_abs_0f7a4_0 : decode cJ9_abs_0f7a4 0 = .ok (.iload_n 0, 1) := by decide +kernel
theorem dJ9_abs_0f7a4_1 : decode cJ9_abs_0f7a4 1 = .ok (.ifCond .ge 8, 3) := by decide +kernel
theorem dJ9_abs_0f7a4_4 : decode cJ9_abs_0f7a4 4 = .ok (.iload_n 0, 1) := by decide +kernel
theorem dJ9_abs_0f7a4_5 : decode cJ9_abs_0f7a4 5 = .ok (.ineg, 1) := by decide +kernel
theorem dJ9_abs_0f7a4_6 : decode cJ9_abs_0f7a4 6 = .ok (.goto 4, 3) := by decide +kernel
theorem dJ9_abs_0f7a4_9 : decode cJ9_abs_0f7a4 9 = .ok (.iload_n 0, 1) := by decide +kernel
theorem dJ9_abs_0f7a4_10 : decode cJ9_abs_0f7a4 10 = .ok (.ireturn, 1) := by decide +kernel
theorem dJ9_max_7cf53_0 : decode cJ9_max_7cf53 0 = .ok (.iload_n 0, 1) := by decide +kernel
theorem dJ9_max_7cf53_1 : decode cJ9_max_7cf53 1 = .ok (.iload_n 1, 1) := by decide +kernel
theorem dJ9_max_7cf53_2 : decode cJ9_max_7cf53 2 = .ok (.if_icmp .lt 7, 3) := by decide +kernel
theorem dJ9_max_7cf53_5 : decode cJ9_max_7cf53 5 = .ok (.iload_n 0, 1) := by decide +kernel
theorem dJ9_max_7cf53_6 : decode cJ9_max_7cf53 6 = .ok (.goto 4, 3) := by decide +kernel
theorem dJ9_max_7cf53_9 : decode cJ9_max_7cf53 9 = .ok (.iload_n 1, 1) := by decide +kernel
theorem dJ9_max_7cf53_10 : decode cJ9_max_7cf53 10 = .ok (.ireturn, 1) := by decide +kernel
theorem dJ9_min_7cf53_0 : decode cJ9_min_7cf53 0 = .ok (.iload_n 0, 1) := by decide +kernel
theorem dJ9_min_7cf53_1 : decode cJ9_min_7cf53 1 = .ok (.iload_n 1, 1) := by decide +kernel
theorem dJ9_min_7cf53_2 : decode cJ9_min_7cf53 2 = .ok (.if_icmp .gt 7, 3) := by decide +kernel
theorem dJ9_min_7cf53_5 : decode cJ9_min_7cf53 5 = .ok (.iload_n 0, 1) := by decide +kernel
theorem dJ9_min_7cf53_6 : decode cJ9_min_7cf53 6 = .ok (.goto 4, 3) := by decide +kernel
theorem dJ9_min_7cf53_9 : decode cJ9_min_7cf53 9 = .ok (.iload_n 1, 1) := by decide +kernel
theorem dJ9_min_7cf53_10 : decode cJ9_min_7cf53 10 = .ok (.ireturn, 1) := by decide +kernel
theorem dJ7_fill_53178_0 : decode cJ7_fill_53178 0 = .ok (.iconst 0, 1) := by decide +kernel
theorem dJ7_fill_53178_1 : decode cJ7_fill_53178 1 = .ok (.istore_n 2, 1) := by decide +kernel
theorem dJ7_fill_53178_2 : decode cJ7_fill_53178 2 = .ok (.aload_n 0, 1) := by decide +kernel
theorem dJ7_fill_53178_3 : decode cJ7_fill_53178 3 = .ok (.arraylength, 1) := by decide +kernel
theorem dJ7_fill_53178_4 : decode cJ7_fill_53178 4 = .ok (.istore_n 3, 1) := by decide +kernel
theorem dJ7_fill_53178_5 : decode cJ7_fill_53178 5 = .ok (.iload_n 2, 1) := by decide +kernel
theorem dJ7_fill_53178_6 : decode cJ7_fill_53178 6 = .ok (.iload_n 3, 1) := by decide +kernel
theorem dJ7_fill_53178_7 : decode cJ7_fill_53178 7 = .ok (.if_icmp .ge 13, 3) := by decide +kernel
theorem dJ7_fill_53178_10 : decode cJ7_fill_53178 10 = .ok (.aload_n 0, 1) := by decide +kernel
theorem dJ7_fill_53178_11 : decode cJ7_fill_53178 11 = .ok (.iload_n 2, 1) := by decide +kernel
theorem dJ7_fill_53178_12 : decode cJ7_fill_53178 12 = .ok (.iload_n 1, 1) := by decide +kernel
theorem dJ7_fill_53178_13 : decode cJ7_fill_53178 13 = .ok (.iastore, 1) := by decide +kernel
theorem dJ7_fill_53178_14 : decode cJ7_fill_53178 14 = .ok (.iinc 2 1, 3) := by decide +kernel
theorem dJ7_fill_53178_17 : decode cJ7_fill_53178 17 = .ok (.goto (-12), 3) := by decide +kernel
theorem dJ7_fill_53178_20 : decode cJ7_fill_53178 20 = .ok (.return_, 1) := by decide +kernel
set_option maxRecDepth 20000 in
theorem ggL_type_X7_type : GoodIn wsL_type wsX7_type := goodIn_ca (goodIn_ca (goodIn_r _ [7, 8, 9, 10, 11, 12, 13, 14, 15, 16, 17, 18, 19, 20, 21, 22, 23, 24, 25, 26, 27, 28] (by decide +kernel) (by decide +kernel)) (goodIn_sub (fun _ h => List.mem_cons_of_mem _ (List.mem_append_left _ (List.mem_append_right _ h))) (by decide +kernel))) (goodIn_sub (fun _ h => List.mem_cons_of_mem _ (List.mem_append_right _ h)) (by decide +kernel))
set_option maxRecDepth 20000 in
theorem gL_type_X7_type : GoodIn wsL_type (wsV RL 7 RX7 yX7_type wsX7_type) := goodIn_app (goodIn_of _ (by decide +kernel)) ggL_type_X7_type
theorem dL_type_0 : decode cL_type 0 = .ok (.aload_n 2, 1) := by decide +kernel
theorem dL_type_1 : decode cL_type 1 = .ok (.iconst 0, 1) := by decide +kernel
theorem dL_type_2 : decode cL_type 2 = .ok (.aload_n 0, 1) := by decide +kernel
theorem dL_type_3 : decode cL_type 3 = .ok (.iload_n 1, 1) := by decide +kernel
theorem dL_type_4 : decode cL_type 4 = .ok (.invokevirtual 7, 3) := by decide +kernel
theorem dL_type_7 : decode cL_type 7 = .ok (.i2l, 1) := by decide +kernel
theorem dL_type_8 : decode cL_type 8 = .ok (.lastore, 1) := by decide +kernel
theorem dL_type_9 : decode cL_type 9 = .ok (.goto 9, 3) := by decide +kernel
theorem dL_type_12 : decode cL_type 12 = .ok (.astore_n 3, 1) := by decide +kernel
theorem dL_type_13 : decode cL_type 13 = .ok (.iconst 1, 1) := by decide +kernel
theorem dL_type_14 : decode cL_type 14 = .ok (.ireturn, 1) := by decide +kernel
theorem dL_type_15 : decode cL_type 15 = .ok (.astore_n 3, 1) := by decide +kernel
theorem dL_type_16 : decode cL_type 16 = .ok (.iconst 2, 1) := by decide +kernel
theorem dL_type_17 : decode cL_type 17 = .ok (.ireturn, 1) := by decide +kernel
theorem dL_type_18 : decode cL_type 18 = .ok (.iconst 0, 1) := by decide +kernel
theorem dL_type_19 : decode cL_type 19 = .ok (.ireturn, 1) := by decide +kernel
set_option maxRecDepth 20000 in
theorem ggL_street_X7_street : GoodIn wsL_street wsX7_street := goodIn_ca (goodIn_ca (goodIn_ca (goodIn_r _ [8, 9, 10, 11, 12, 13, 14, 15, 16, 17, 18, 19, 20, 21, 22, 7, 23, 24, 25, 26, 27, 28, 29, 30, 31, 32, 33, 34, 35, 36, 37, 38, 39, 40, 41, 42, 43, 44, 45, 46, 47, 48, 49, 50, 51, 52, 53, 54, 55, 56, 57, 58, 59, 60, 61, 62, 63, 64, 65, 66] (by decide +kernel) (by decide +kernel)) (goodIn_sub (fun _ h => List.mem_cons_of_mem _ (List.mem_append_left _ (List.mem_append_left _ (List.mem_append_right _ h)))) (by decide +kernel))) (goodIn_sub (fun _ h => List.mem_cons_of_mem _ (List.mem_append_left _ (List.mem_append_right _ h))) (by decide +kernel))) (goodIn_sub (fun _ h => List.mem_cons_of_mem _ (List.mem_append_right _ h)) (by decide +kernel))
set_option maxRecDepth 20000 in
theorem gL_street_X7_street : GoodIn wsL_street (wsV RL 17 RX7 yX7_street wsX7_street) := goodIn_app (goodIn_of _ (by decide +kernel)) ggL_street_X7_street
theorem dL_street_0 : decode cL_street 0 = .ok (.aload 4, 2) := by decide +kernel
theorem dL_street_2 : decode cL_street 2 = .ok (.iconst 0, 1) := by decide +kernel
theorem dL_street_3 : decode cL_street 3 = .ok (.aload_n 0, 1) := by decide +kernel
theorem dL_street_4 : decode cL_street 4 = .ok (.iload_n 1, 1) := by decide +kernel
theorem dL_street_5 : decode cL_street 5 = .ok (.iload_n 2, 1) := by decide +kernel
theorem dL_street_6 : decode cL_street 6 = .ok (.iload_n 3, 1) := by decide +kernel
theorem dL_street_7 : decode cL_street 7 = .ok (.invokevirtual 17, 3) := by decide +kernel
theorem dL_street_10 : decode cL_street 10 = .ok (.i2l, 1) := by decide +kernel
theorem dL_street_11 : decode cL_street 11 = .ok (.lastore, 1) := by decide +kernel
theorem dL_street_12 : decode cL_street 12 = .ok (.goto 15, 3) := by decide +kernel
theorem dL_street_15 : decode cL_street 15 = .ok (.astore 5, 2) := by decide +kernel
theorem dL_street_17 : decode cL_street 17 = .ok (.iconst 1, 1) := by decide +kernel
theorem dL_street_18 : decode cL_street 18 = .ok (.ireturn, 1) := by decide +kernel
theorem dL_street_19 : decode cL_street 19 = .ok (.astore 5, 2) := by decide +kernel
theorem dL_street_21 : decode cL_street 21 = .ok (.iconst 2, 1) := by decide +kernel
theorem dL_street_22 : decode cL_street 22 = .ok (.ireturn, 1) := by decide +kernel
theorem dL_street_23 : decode cL_street 23 = .ok (.astore 5, 2) := by decide +kernel
theorem dL_street_25 : decode cL_street 25 = .ok (.iconst 3, 1) := by decide +kernel
theorem dL_street_26 : decode cL_street 26 = .ok (.ireturn, 1) := by decide +kernel
theorem dL_street_27 : decode cL_street 27 = .ok (.iconst 0, 1) := by decide +kernel
theorem dL_street_28 : decode cL_street 28 = .ok (.ireturn, 1) := by decide +kernel
set_option maxRecDepth 20000 in
theorem ggL_rename_X7_rename : GoodIn wsL_rename wsX7_rename := goodIn_ca (goodIn_ca (goodIn_ca (goodIn_r _ [7, 8, 9, 10, 11, 12, 13, 14, 15, 16, 6, 17, 18, 19, 20, 21, 22, 23, 24, 25, 26, 27, 28, 29, 30, 31, 32, 33, 34, 35, 36, 37, 38, 39, 40, 41, 42, 43, 44, 45, 46, 47, 48, 49, 50, 51, 52, 53, 54, 55, 56, 57, 58, 59, 60, 61, 62, 63, 64, 65, 66, 67, 68, 69, 70, 71, 72, 73, 74, 75, 76, 77, 78, 79, 80, 81, 82, 83, 84, 85, 86, 87, 88, 89, 90, 91, 92, 93, 94, 95, 96, 97, 98, 99, 100, 101, 102, 103, 104, 105, 106, 107, 108, 109] (by decide +kernel) (by decide +kernel)) (goodIn_sub (fun _ h => List.mem_cons_of_mem _ (List.mem_append_left _ (List.mem_append_right _ h))) (by decide +kernel))) (goodIn_sub (fun _ h => List.mem_cons_of_mem _ (List.mem_append_right _ h)) (by decide +kernel))) (goodIn_sub (fun _ h => List.mem_cons_of_mem _ (List.mem_append_left _ (List.mem_append_left _ (List.mem_append_right _ h)))) (by decide +kernel))
set_option maxRecDepth 20000 in
theorem gL_rename_X7_rename : GoodIn wsL_rename (wsV RL 23 RX7 yX7_rename wsX7_rename) := goodIn_app (goodIn_of _ (by decide +kernel)) ggL_rename_X7_rename
theorem dL_rename_0 : decode cL_rename 0 = .ok (.aload_n 2, 1) := by decide +kernel
theorem dL_rename_1 : decode cL_rename 1 = .ok (.iconst 0, 1) := by decide +kernel
theorem dL_rename_2 : decode cL_rename 2 = .ok (.aload_n 0, 1) := by decide +kernel
theorem dL_rename_3 : decode cL_rename 3 = .ok (.iload_n 1, 1) := by decide +kernel
theorem dL_rename_4 : decode cL_rename 4 = .ok (.invokevirtual 23, 3) := by decide +kernel
theorem dL_rename_7 : decode cL_rename 7 = .ok (.i2l, 1) := by decide +kernel
theorem dL_rename_8 : decode cL_rename 8 = .ok (.lastore, 1) := by decide +kernel
theorem dL_rename_9 : decode cL_rename 9 = .ok (.goto 9, 3) := by decide +kernel
theorem dL_rename_12 : decode cL_rename 12 = .ok (.astore_n 3, 1) := by decide +kernel
theorem dL_rename_13 : decode cL_rename 13 = .ok (.iconst 1, 1) := by decide +kernel
theorem dL_rename_14 : decode cL_rename 14 = .ok (.ireturn, 1) := by decide +kernel
theorem dL_rename_15 : decode cL_rename 15 = .ok (.astore_n 3, 1) := by decide +kernel
theorem dL_rename_16 : decode cL_rename 16 = .ok (.iconst 2, 1) := by decide +kernel
theorem dL_rename_17 : decode cL_rename 17 = .ok (.ireturn, 1) := by decide +kernel
theorem dL_rename_18 : decode cL_rename 18 = .ok (.iconst 0, 1) := by decide +kernel
theorem dL_rename_19 : decode cL_rename 19 = .ok (.ireturn, 1) := by decide +kernel
set_option maxRecDepth 20000 in
theorem ggL_translate_X7_translate : GoodIn wsL_translate wsX7_translate := goodIn_ca (goodIn_ca (goodIn_ca (goodIn_r _ [7, 8, 9, 10, 11, 12, 13, 14, 15, 16, 6, 17, 18, 19, 20, 21, 22, 23, 24, 25, 26, 27, 28, 29, 30, 31, 32, 33, 34, 35, 36, 37, 38, 39, 40, 41, 42, 43, 44, 45, 46, 47, 48, 49, 50, 51, 52, 53, 54, 55, 56, 57, 58, 59, 60, 61, 62, 63, 64, 65, 66, 67, 68, 69, 70, 71, 72, 73, 74, 75, 76, 77, 78, 79, 80, 81, 82, 83, 84, 85, 86, 87, 88, 89, 90, 91, 92, 93, 94, 95, 96, 97, 98, 99, 100, 101, 102, 103, 104, 105, 106, 107, 108, 109] (by decide +kernel) (by decide +kernel)) (goodIn_sub (fun _ h => List.mem_cons_of_mem _ (List.mem_append_left _ (List.mem_append_right _ h))) (by decide +kernel))) (goodIn_sub (fun _ h => List.mem_cons_of_mem _ (List.mem_append_right _ h)) (by decide +kernel))) (goodIn_sub (fun _ h => List.mem_cons_of_mem _ (List.mem_append_left _ (List.mem_append_left _ (List.mem_append_right _ h)))) (by decide +kernel))
set_option maxRecDepth 20000 in
theorem gL_translate_X7_translate : GoodIn wsL_translate (wsV RL 29 RX7 yX7_translate wsX7_translate) := goodIn_app (goodIn_of _ (by decide +kernel)) ggL_translate_X7_translate
theorem dL_translate_0 : decode cL_translate 0 = .ok (.aload_n 2, 1) := by decide +kernel
theorem dL_translate_1 : decode cL_translate 1 = .ok (.iconst 0, 1) := by decide +kernel
theorem dL_translate_2 : decode cL_translate 2 = .ok (.aload_n 0, 1) := by decide +kernel
theorem dL_translate_3 : decode cL_translate 3 = .ok (.iload_n 1, 1) := by decide +kernel
theorem dL_translate_4 : decode cL_translate 4 = .ok (.invokevirtual 29, 3) := by decide +kernel
theorem dL_translate_7 : decode cL_translate 7 = .ok (.i2l, 1) := by decide +kernel
theorem dL_translate_8 : decode cL_translate 8 = .ok (.lastore, 1) := by decide +kernel
theorem dL_translate_9 : decode cL_translate 9 = .ok (.goto 9, 3) := by decide +kernel
theorem dL_translate_12 : decode cL_translate 12 = .ok (.astore_n 3, 1) := by decide +kernel
theorem dL_translate_13 : decode cL_translate 13 = .ok (.iconst 1, 1) := by decide +kernel
theorem dL_translate_14 : decode cL_translate 14 = .ok (.ireturn, 1) := by decide +kernel
theorem dL_translate_15 : decode cL_translate 15 = .ok (.astore_n 3, 1) := by decide +kernel
theorem dL_translate_16 : decode cL_translate 16 = .ok (.iconst 2, 1) := by decide +kernel
theorem dL_translate_17 : decode cL_translate 17 = .ok (.ireturn, 1) := by decide +kernel
theorem dL_translate_18 : decode cL_translate 18 = .ok (.iconst 0, 1) := by decide +kernel
theorem dL_translate_19 : decode cL_translate 19 = .ok (.ireturn, 1) := by decide +kernel
set_option maxRecDepth 20000 in
theorem ggL_letter_X7_letter : GoodIn wsL_letter wsX7_letter := goodIn_ca (goodIn_ca (goodIn_r _ [7, 8, 9, 10, 11, 12, 13, 14, 6, 15, 16, 17, 18, 19, 20, 21, 22, 23, 24, 25, 26, 27, 28, 29, 30, 31, 32, 33, 34, 35, 36, 37, 38, 39, 40, 41, 42, 43, 44, 45, 46, 47] (by decide +kernel) (by decide +kernel)) (goodIn_sub (fun _ h => List.mem_cons_of_mem _ (List.mem_append_left _ (List.mem_append_right _ h))) (by decide +kernel))) (goodIn_sub (fun _ h => List.mem_cons_of_mem _ (List.mem_append_right _ h)) (by decide +kernel))
set_option maxRecDepth 20000 in
theorem gL_letter_X7_letter : GoodIn wsL_letter (wsV RL 32 RX7 yX7_letter wsX7_letter) := goodIn_app (goodIn_of _ (by decide +kernel)) ggL_letter_X7_letter
theorem dL_letter_0 : decode cL_letter 0 = .ok (.aload 4, 2) := by decide +kernel
theorem dL_letter_2 : decode cL_letter 2 = .ok (.iconst 0, 1) := by decide +kernel
theorem dL_letter_3 : decode cL_letter 3 = .ok (.aload_n 0, 1) := by decide +kernel
theorem dL_letter_4 : decode cL_letter 4 = .ok (.iload_n 1, 1) := by decide +kernel
theorem dL_letter_5 : decode cL_letter 5 = .ok (.iload_n 2, 1) := by decide +kernel
theorem dL_letter_6 : decode cL_letter 6 = .ok (.iload_n 3, 1) := by decide +kernel
theorem dL_letter_7 : decode cL_letter 7 = .ok (.invokevirtual 32, 3) := by decide +kernel
theorem dL_letter_10 : decode cL_letter 10 = .ok (.i2l, 1) := by decide +kernel
theorem dL_letter_11 : decode cL_letter 11 = .ok (.lastore, 1) := by decide +kernel
theorem dL_letter_12 : decode cL_letter 12 = .ok (.goto 11, 3) := by decide +kernel
theorem dL_letter_15 : decode cL_letter 15 = .ok (.astore 5, 2) := by decide +kernel
theorem dL_letter_17 : decode cL_letter 17 = .ok (.iconst 1, 1) := by decide +kernel
theorem dL_letter_18 : decode cL_letter 18 = .ok (.ireturn, 1) := by decide +kernel
theorem dL_letter_19 : decode cL_letter 19 = .ok (.astore 5, 2) := by decide +kernel
theorem dL_letter_21 : decode cL_letter 21 = .ok (.iconst 2, 1) := by decide +kernel
theorem dL_letter_22 : decode cL_letter 22 = .ok (.ireturn, 1) := by decide +kernel
theorem dL_letter_23 : decode cL_letter 23 = .ok (.iconst 0, 1) := by decide +kernel
theorem dL_letter_24 : decode cL_letter 24 = .ok (.ireturn, 1) := by decide +kernel
set_option maxRecDepth 20000 in
theorem ggL_way_X7_way : GoodIn wsL_way wsX7_way := goodIn_ca (goodIn_ca (goodIn_r _ [7, 8, 9, 10, 11, 12, 13, 14, 6, 15, 16, 17, 18, 19, 20, 21, 22, 23, 24, 25, 26, 27, 28, 29, 30, 31, 32, 33, 34, 35, 36, 37, 38, 39, 40, 41, 42] (by decide +kernel) (by decide +kernel)) (goodIn_sub (fun _ h => List.mem_cons_of_mem _ (List.mem_append_left _ (List.mem_append_right _ h))) (by decide +kernel))) (goodIn_sub (fun _ h => List.mem_cons_of_mem _ (List.mem_append_right _ h)) (by decide +kernel))
set_option maxRecDepth 20000 in
theorem gL_way_X7_way : GoodIn wsL_way (wsV RL 38 RX7 yX7_way wsX7_way) := goodIn_app (goodIn_of _ (by decide +kernel)) ggL_way_X7_way
theorem dL_way_0 : decode cL_way 0 = .ok (.aload 4, 2) := by decide +kernel
theorem dL_way_2 : decode cL_way 2 = .ok (.iconst 0, 1) := by decide +kernel
theorem dL_way_3 : decode cL_way 3 = .ok (.aload_n 0, 1) := by decide +kernel
theorem dL_way_4 : decode cL_way 4 = .ok (.iload_n 1, 1) := by decide +kernel
theorem dL_way_5 : decode cL_way 5 = .ok (.iload_n 2, 1) := by decide +kernel
theorem dL_way_6 : decode cL_way 6 = .ok (.iload_n 3, 1) := by decide +kernel
theorem dL_way_7 : decode cL_way 7 = .ok (.invokevirtual 38, 3) := by decide +kernel
theorem dL_way_10 : decode cL_way 10 = .ok (.i2l, 1) := by decide +kernel
theorem dL_way_11 : decode cL_way 11 = .ok (.lastore, 1) := by decide +kernel
theorem dL_way_12 : decode cL_way 12 = .ok (.goto 11, 3) := by decide +kernel
theorem dL_way_15 : decode cL_way 15 = .ok (.astore 5, 2) := by decide +kernel
theorem dL_way_17 : decode cL_way 17 = .ok (.iconst 1, 1) := by decide +kernel
theorem dL_way_18 : decode cL_way 18 = .ok (.ireturn, 1) := by decide +kernel
theorem dL_way_19 : decode cL_way 19 = .ok (.astore 5, 2) := by decide +kernel
theorem dL_way_21 : decode cL_way 21 = .ok (.iconst 2, 1) := by decide +kernel
theorem dL_way_22 : decode cL_way 22 = .ok (.ireturn, 1) := by decide +kernel
theorem dL_way_23 : decode cL_way 23 = .ok (.iconst 0, 1) := by decide +kernel
theorem dL_way_24 : decode cL_way 24 = .ok (.ireturn, 1) := by decide +kernel
set_option maxRecDepth 20000 in
theorem ggL_door_X7_door : GoodIn wsL_door wsX7_door := goodIn_ca (goodIn_ca (goodIn_ca (goodIn_ca (goodIn_ca (goodIn_r _ [9, 10, 11, 12, 13, 14, 15, 16, 17, 18, 19, 20, 21, 22, 23, 24, 8, 25, 26, 27, 28, 29, 30, 31, 32, 33, 34, 35, 36, 37, 38, 39, 40, 41, 42, 43, 44, 45, 46, 47, 48, 49, 50, 51, 52, 53, 54, 55, 56, 57, 58, 59, 60, 61, 62, 63, 64, 65, 66, 67, 68, 69, 70, 71, 72, 73, 74, 75, 76, 77, 78, 79, 80, 81, 82, 83, 84, 85, 86, 87, 88, 89, 90, 91, 92, 93, 94, 95, 96, 97, 98, 99, 100, 101, 102, 103, 104, 105, 106, 107, 108, 109, 110, 111, 112, 113, 114, 115, 116, 117, 118, 119, 120, 121, 122, 123, 124, 125, 126, 127, 128, 129, 130, 131, 132, 133, 134, 135, 136, 137, 138, 139, 140, 141, 142, 143, 144, 145, 146, 147, 148, 149, 150, 151, 152, 153, 154, 155, 156, 157, 158, 159, 160, 161, 162, 163, 164, 165, 166, 167, 168, 169, 170, 171, 172, 173, 174, 175, 176, 177, 178, 179, 180, 181, 182, 183, 184, 185, 186, 187, 188, 189, 190, 191, 192, 193, 194, 195] (by decide +kernel) (by decide +kernel)) (goodIn_sub (fun _ h => List.mem_cons_of_mem _ (List.mem_append_left _ (List.mem_append_left _ (List.mem_append_left _ (List.mem_append_right _ h))))) (by decide +kernel))) (goodIn_sub (fun _ h => List.mem_cons_of_mem _ (List.mem_append_left _ (List.mem_append_left _ (List.mem_append_right _ h)))) (by decide +kernel))) (goodIn_sub (fun _ h => List.mem_cons_of_mem _ (List.mem_append_left _ (List.mem_append_right _ h))) (by decide +kernel))) (goodIn_sub (fun _ h => List.mem_cons_of_mem _ (List.mem_append_right _ h)) (by decide +kernel))) (goodIn_sub (fun _ h => List.mem_cons_of_mem _ (List.mem_append_left _ (List.mem_append_left _ (List.mem_append_left _ (List.mem_append_left _ (List.mem_append_right _ h)))))) (by decide +kernel))
set_option maxRecDepth 20000 in
theorem gL_door_X7_door : GoodIn wsL_door (wsV RL 42 RX7 yX7_door wsX7_door) := goodIn_app (goodIn_of _ (by decide +kernel)) ggL_door_X7_door
theorem dL_door_0 : decode cL_door 0 = .ok (.aload 4, 2) := by decide +kernel
theorem dL_door_2 : decode cL_door 2 = .ok (.iconst 0, 1) := by decide +kernel
theorem dL_door_3 : decode cL_door 3 = .ok (.aload_n 0, 1) := by decide +kernel
theorem dL_door_4 : decode cL_door 4 = .ok (.iload_n 1, 1) := by decide +kernel
theorem dL_door_5 : decode cL_door 5 = .ok (.iload_n 2, 1) := by decide +kernel
theorem dL_door_6 : decode cL_door 6 = .ok (.iload_n 3, 1) := by decide +kernel
theorem dL_door_7 : decode cL_door 7 = .ok (.invokevirtual 42, 3) := by decide +kernel
theorem dL_door_10 : decode cL_door 10 = .ok (.i2l, 1) := by decide +kernel
theorem dL_door_11 : decode cL_door 11 = .ok (.lastore, 1) := by decide +kernel
theorem dL_door_12 : decode cL_door 12 = .ok (.goto 19, 3) := by decide +kernel
theorem dL_door_15 : decode cL_door 15 = .ok (.astore 5, 2) := by decide +kernel
theorem dL_door_17 : decode cL_door 17 = .ok (.iconst 1, 1) := by decide +kernel
theorem dL_door_18 : decode cL_door 18 = .ok (.ireturn, 1) := by decide +kernel
theorem dL_door_19 : decode cL_door 19 = .ok (.astore 5, 2) := by decide +kernel
theorem dL_door_21 : decode cL_door 21 = .ok (.iconst 2, 1) := by decide +kernel
theorem dL_door_22 : decode cL_door 22 = .ok (.ireturn, 1) := by decide +kernel
theorem dL_door_23 : decode cL_door 23 = .ok (.astore 5, 2) := by decide +kernel
theorem dL_door_25 : decode cL_door 25 = .ok (.iconst 3, 1) := by decide +kernel
theorem dL_door_26 : decode cL_door 26 = .ok (.ireturn, 1) := by decide +kernel
theorem dL_door_27 : decode cL_door 27 = .ok (.astore 5, 2) := by decide +kernel
theorem dL_door_29 : decode cL_door 29 = .ok (.iconst 4, 1) := by decide +kernel
theorem dL_door_30 : decode cL_door 30 = .ok (.ireturn, 1) := by decide +kernel
theorem dL_door_31 : decode cL_door 31 = .ok (.iconst 0, 1) := by decide +kernel
theorem dL_door_32 : decode cL_door 32 = .ok (.ireturn, 1) := by decide +kernel
set_option maxRecDepth 20000 in
theorem ggL_corner_X7_corner : GoodIn wsL_corner wsX7_corner := goodIn_ca (goodIn_ca (goodIn_ca (goodIn_ca (goodIn_r _ [8, 9, 10, 11, 12, 13, 14, 15, 16, 17, 18, 7, 19, 20, 21, 22, 23, 24, 25, 26, 27, 28, 29, 30, 31, 32, 33, 34, 35, 36, 37, 38, 39, 40, 41, 42, 43, 44, 45, 46, 47, 48, 49, 50, 51, 52, 53, 54, 55, 56, 57, 58, 59, 60, 61, 62, 63, 64, 65, 66, 67, 68, 69, 70, 71, 72, 73, 74, 75, 76, 77, 78, 79, 80, 81, 82, 83, 84, 85, 86, 87, 88, 89, 90, 91, 92, 93, 94, 95, 96, 97, 98, 99, 100, 101, 102, 103, 104, 105, 106, 107, 108, 109, 110, 111, 112, 113, 114, 115, 116, 117, 118, 119, 120, 121, 122, 123, 124, 125, 126, 127, 128, 129, 130, 131, 132, 133, 134, 135, 136, 137, 138, 139, 140, 141, 142, 143, 144, 145, 146, 147, 148, 149, 150, 151, 152, 153, 154, 155, 156, 157, 158, 159, 160, 161, 162, 163, 164, 165, 166, 167, 168, 169, 170, 171, 172, 173, 174, 175, 176, 177, 178, 179, 180, 181, 182, 183, 184, 185, 186, 187, 188, 189, 190, 191, 192] (by decide +kernel) (by decide +kernel)) (goodIn_sub (fun _ h => List.mem_cons_of_mem _ (List.mem_append_left _ (List.mem_append_left _ (List.mem_append_right _ h)))) (by decide +kernel))) (goodIn_sub (fun _ h => List.mem_cons_of_mem _ (List.mem_append_left _ (List.mem_append_right _ h))) (by decide +kernel))) (goodIn_sub (fun _ h => List.mem_cons_of_mem _ (List.mem_append_right _ h)) (by decide +kernel))) (goodIn_sub (fun _ h => List.mem_cons_of_mem _ (List.mem_append_left _ (List.mem_append_left _ (List.mem_append_left _ (List.mem_append_right _ h))))) (by decide +kernel))
set_option maxRecDepth 20000 in
theorem gL_corner_X7_corner : GoodIn wsL_corner (wsV RL 46 RX7 yX7_corner wsX7_corner) := goodIn_app (goodIn_of _ (by decide +kernel)) ggL_corner_X7_corner
theorem dL_corner_0 : decode cL_corner 0 = .ok (.aload 5, 2) := by decide +kernel
theorem dL_corner_2 : decode cL_corner 2 = .ok (.iconst 0, 1) := by decide +kernel
theorem dL_corner_3 : decode cL_corner 3 = .ok (.aload_n 0, 1) := by decide +kernel
theorem dL_corner_4 : decode cL_corner 4 = .ok (.iload_n 1, 1) := by decide +kernel
theorem dL_corner_5 : decode cL_corner 5 = .ok (.iload_n 2, 1) := by decide +kernel
theorem dL_corner_6 : decode cL_corner 6 = .ok (.iload_n 3, 1) := by decide +kernel
theorem dL_corner_7 : decode cL_corner 7 = .ok (.iload 4, 2) := by decide +kernel
theorem dL_corner_9 : decode cL_corner 9 = .ok (.invokevirtual 46, 3) := by decide +kernel
theorem dL_corner_12 : decode cL_corner 12 = .ok (.i2l, 1) := by decide +kernel
theorem dL_corner_13 : decode cL_corner 13 = .ok (.lastore, 1) := by decide +kernel
theorem dL_corner_14 : decode cL_corner 14 = .ok (.goto 15, 3) := by decide +kernel
theorem dL_corner_17 : decode cL_corner 17 = .ok (.astore 6, 2) := by decide +kernel
theorem dL_corner_19 : decode cL_corner 19 = .ok (.iconst 1, 1) := by decide +kernel
theorem dL_corner_20 : decode cL_corner 20 = .ok (.ireturn, 1) := by decide +kernel
theorem dL_corner_21 : decode cL_corner 21 = .ok (.astore 6, 2) := by decide +kernel
theorem dL_corner_23 : decode cL_corner 23 = .ok (.iconst 2, 1) := by decide +kernel
theorem dL_corner_24 : decode cL_corner 24 = .ok (.ireturn, 1) := by decide +kernel
theorem dL_corner_25 : decode cL_corner 25 = .ok (.astore 6, 2) := by decide +kernel
theorem dL_corner_27 : decode cL_corner 27 = .ok (.iconst 3, 1) := by decide +kernel
theorem dL_corner_28 : decode cL_corner 28 = .ok (.ireturn, 1) := by decide +kernel
theorem dL_corner_29 : decode cL_corner 29 = .ok (.iconst 0, 1) := by decide +kernel
theorem dL_corner_30 : decode cL_corner 30 = .ok (.ireturn, 1) := by decide +kernel
set_option maxRecDepth 20000 in
theorem ggL_merge_X7_merge : GoodIn wsL_merge wsX7_merge := goodIn_ca (goodIn_ca (goodIn_ca (goodIn_ca (goodIn_r _ [8, 9, 10, 11, 12, 13, 14, 15, 16, 17, 7, 18, 19, 20, 21, 22, 23, 24, 25, 26, 27, 28, 29, 30, 31, 32, 33, 34, 35, 36, 37, 38, 39, 40, 41, 42, 43, 44, 45, 46, 47, 48, 49, 50, 51, 52, 53, 54, 55, 56, 57, 58, 59, 60, 61, 62, 63, 64, 65, 66, 67, 68, 69, 70, 71, 72, 73, 74, 75, 76, 77, 78, 79, 80, 81, 82, 83, 84, 85, 86, 87, 88, 89, 90, 91, 92, 93, 94, 95, 96, 97, 98, 99, 100, 101, 102, 103, 104] (by decide +kernel) (by decide +kernel)) (goodIn_sub (fun _ h => List.mem_cons_of_mem _ (List.mem_append_left _ (List.mem_append_left _ (List.mem_append_right _ h)))) (by decide +kernel))) (goodIn_sub (fun _ h => List.mem_cons_of_mem _ (List.mem_append_left _ (List.mem_append_right _ h))) (by decide +kernel))) (goodIn_sub (fun _ h => List.mem_cons_of_mem _ (List.mem_append_right _ h)) (by decide +kernel))) (goodIn_sub (fun _ h => List.mem_cons_of_mem _ (List.mem_append_left _ (List.mem_append_left _ (List.mem_append_left _ (List.mem_append_right _ h))))) (by decide +kernel))
set_option maxRecDepth 20000 in
theorem gL_merge_X7_merge : GoodIn wsL_merge (wsV RL 50 RX7 yX7_merge wsX7_merge) := goodIn_app (goodIn_of _ (by decide +kernel)) ggL_merge_X7_merge
theorem dL_merge_0 : decode cL_merge 0 = .ok (.aload_n 3, 1) := by decide +kernel
theorem dL_merge_1 : decode cL_merge 1 = .ok (.iconst 0, 1) := by decide +kernel
theorem dL_merge_2 : decode cL_merge 2 = .ok (.aload_n 0, 1) := by decide +kernel
theorem dL_merge_3 : decode cL_merge 3 = .ok (.iload_n 1, 1) := by decide +kernel
theorem dL_merge_4 : decode cL_merge 4 = .ok (.iload_n 2, 1) := by decide +kernel
theorem dL_merge_5 : decode cL_merge 5 = .ok (.invokevirtual 50, 3) := by decide +kernel
theorem dL_merge_8 : decode cL_merge 8 = .ok (.i2l, 1) := by decide +kernel
theorem dL_merge_9 : decode cL_merge 9 = .ok (.lastore, 1) := by decide +kernel
theorem dL_merge_10 : decode cL_merge 10 = .ok (.goto 15, 3) := by decide +kernel
theorem dL_merge_13 : decode cL_merge 13 = .ok (.astore 4, 2) := by decide +kernel
theorem dL_merge_15 : decode cL_merge 15 = .ok (.iconst 1, 1) := by decide +kernel
theorem dL_merge_16 : decode cL_merge 16 = .ok (.ireturn, 1) := by decide +kernel
theorem dL_merge_17 : decode cL_merge 17 = .ok (.astore 4, 2) := by decide +kernel
theorem dL_merge_19 : decode cL_merge 19 = .ok (.iconst 2, 1) := by decide +kernel
theorem dL_merge_20 : decode cL_merge 20 = .ok (.ireturn, 1) := by decide +kernel
theorem dL_merge_21 : decode cL_merge 21 = .ok (.astore 4, 2) := by decide +kernel
theorem dL_merge_23 : decode cL_merge 23 = .ok (.iconst 3, 1) := by decide +kernel
theorem dL_merge_24 : decode cL_merge 24 = .ok (.ireturn, 1) := by decide +kernel
theorem dL_merge_25 : decode cL_merge 25 = .ok (.iconst 0, 1) := by decide +kernel
theorem dL_merge_26 : decode cL_merge 26 = .ok (.ireturn, 1) := by decide +kernel
set_option maxRecDepth 20000 in
theorem ggL_remove_X7_remove : GoodIn wsL_remove wsX7_remove := goodIn_ca (goodIn_ca (goodIn_ca (goodIn_r _ [7, 8, 9, 10, 11, 12, 13, 14, 15, 6, 16, 17, 18, 19, 20, 21, 22, 23, 24, 25, 26, 27, 28, 29, 30, 31, 32, 33, 34, 35, 36, 37, 38, 39, 40, 41, 42, 43, 44, 45, 46, 47, 48, 49, 50, 51, 52, 53, 54, 55, 56, 57, 58, 59, 60, 61, 62, 63, 64, 65, 66, 67, 68, 69, 70, 71, 72, 73, 74, 75, 76, 77, 78, 79, 80, 81, 82, 83, 84, 85, 86, 87, 88, 89, 90, 91, 92, 93, 94] (by decide +kernel) (by decide +kernel)) (goodIn_sub (fun _ h => List.mem_cons_of_mem _ (List.mem_append_left _ (List.mem_append_right _ h))) (by decide +kernel))) (goodIn_sub (fun _ h => List.mem_cons_of_mem _ (List.mem_append_right _ h)) (by decide +kernel))) (goodIn_sub (fun _ h => List.mem_cons_of_mem _ (List.mem_append_left _ (List.mem_append_left _ (List.mem_append_right _ h)))) (by decide +kernel))
set_option maxRecDepth 20000 in
theorem gL_remove_X7_remove : GoodIn wsL_remove (wsV RL 54 RX7 yX7_remove wsX7_remove) := goodIn_app (goodIn_of _ (by decide +kernel)) ggL_remove_X7_remove
theorem dL_remove_0 : decode cL_remove 0 = .ok (.aload_n 2, 1) := by decide +kernel
theorem dL_remove_1 : decode cL_remove 1 = .ok (.iconst 0, 1) := by decide +kernel
theorem dL_remove_2 : decode cL_remove 2 = .ok (.aload_n 0, 1) := by decide +kernel
theorem dL_remove_3 : decode cL_remove 3 = .ok (.iload_n 1, 1) := by decide +kernel
theorem dL_remove_4 : decode cL_remove 4 = .ok (.invokevirtual 54, 3) := by decide +kernel
theorem dL_remove_7 : decode cL_remove 7 = .ok (.i2l, 1) := by decide +kernel
theorem dL_remove_8 : decode cL_remove 8 = .ok (.lastore, 1) := by decide +kernel
theorem dL_remove_9 : decode cL_remove 9 = .ok (.goto 9, 3) := by decide +kernel
theorem dL_remove_12 : decode cL_remove 12 = .ok (.astore_n 3, 1) := by decide +kernel
theorem dL_remove_13 : decode cL_remove 13 = .ok (.iconst 1, 1) := by decide +kernel
theorem dL_remove_14 : decode cL_remove 14 = .ok (.ireturn, 1) := by decide +kernel
theorem dL_remove_15 : decode cL_remove 15 = .ok (.astore_n 3, 1) := by decide +kernel
theorem dL_remove_16 : decode cL_remove 16 = .ok (.iconst 2, 1) := by decide +kernel
theorem dL_remove_17 : decode cL_remove 17 = .ok (.ireturn, 1) := by decide +kernel
theorem dL_remove_18 : decode cL_remove 18 = .ok (.iconst 0, 1) := by decide +kernel
theorem dL_remove_19 : decode cL_remove 19 = .ok (.ireturn, 1) := by decide +kernel
set_option maxRecDepth 20000 in
theorem ggL_renumber_X7_renumber : GoodIn wsL_renumber wsX7_renumber := goodIn_ca (goodIn_ca (goodIn_ca (goodIn_r _ [7, 8, 9, 10, 11, 12, 13, 14, 15, 16, 6, 17, 18, 19, 20, 21, 22, 23, 24, 25, 26, 27, 28, 29, 30, 31, 32, 33, 34, 35, 36, 37, 38, 39, 40, 41, 42, 43, 44, 45, 46, 47, 48, 49, 50, 51, 52, 53, 54, 55, 56, 57, 58, 59, 60, 61, 62, 63, 64, 65, 66, 67, 68, 69, 70, 71, 72, 73, 74, 75, 76, 77, 78, 79, 80, 81, 82, 83, 84, 85, 86, 87, 88, 89, 90, 91, 92, 93, 94, 95, 96, 97, 98, 99, 100, 101, 102, 103, 104, 105, 106, 107, 108, 109, 110, 111, 112, 113, 114, 115, 116, 117, 118, 119, 120, 121, 122, 123, 124, 125, 126, 127, 128, 129, 130, 131, 132, 133, 134, 135, 136, 137, 138, 139, 140, 141, 142, 143, 144, 145, 146, 147, 148, 149, 150, 151, 152, 153, 154, 155, 156, 157, 158, 159, 160, 161, 162, 163, 164, 165, 166, 167, 168, 169, 170, 171, 172, 173, 174, 175, 176, 177, 178, 179, 180, 181, 182, 183, 184, 185, 186, 187, 188, 189, 190, 191, 192, 193, 194, 195, 196, 197, 198, 199, 200, 201, 202, 203, 204, 205, 206, 207, 208, 209, 210, 211, 212, 213, 214, 215, 216, 217, 218, 219, 220, 221, 222, 223, 224, 225, 226, 227, 228, 229, 230, 231] (by decide +kernel) (by decide +kernel)) (goodIn_sub (fun _ h => List.mem_cons_of_mem _ (List.mem_append_left _ (List.mem_append_right _ h))) (by decide +kernel))) (goodIn_sub (fun _ h => List.mem_cons_of_mem _ (List.mem_append_right _ h)) (by decide +kernel))) (goodIn_sub (fun _ h => List.mem_cons_of_mem _ (List.mem_append_left _ (List.mem_append_left _ (List.mem_append_right _ h)))) (by decide +kernel))
set_option maxRecDepth 20000 in
theorem gL_renumber_X7_renumber : GoodIn wsL_renumber (wsV RL 57 RX7 yX7_renumber wsX7_renumber) := goodIn_app (goodIn_of _ (by decide +kernel)) ggL_renumber_X7_renumber
theorem dL_renumber_0 : decode cL_renumber 0 = .ok (.aload_n 2, 1) := by decide +kernel
theorem dL_renumber_1 : decode cL_renumber 1 = .ok (.iconst 0, 1) := by decide +kernel
theorem dL_renumber_2 : decode cL_renumber 2 = .ok (.aload_n 0, 1) := by decide +kernel
theorem dL_renumber_3 : decode cL_renumber 3 = .ok (.iload_n 1, 1) := by decide +kernel
theorem dL_renumber_4 : decode cL_renumber 4 = .ok (.invokevirtual 57, 3) := by decide +kernel
theorem dL_renumber_7 : decode cL_renumber 7 = .ok (.i2l, 1) := by decide +kernel
theorem dL_renumber_8 : decode cL_renumber 8 = .ok (.lastore, 1) := by decide +kernel
theorem dL_renumber_9 : decode cL_renumber 9 = .ok (.goto 9, 3) := by decide +kernel
theorem dL_renumber_12 : decode cL_renumber 12 = .ok (.astore_n 3, 1) := by decide +kernel
theorem dL_renumber_13 : decode cL_renumber 13 = .ok (.iconst 1, 1) := by decide +kernel
theorem dL_renumber_14 : decode cL_renumber 14 = .ok (.ireturn, 1) := by decide +kernel
theorem dL_renumber_15 : decode cL_renumber 15 = .ok (.astore_n 3, 1) := by decide +kernel
theorem dL_renumber_16 : decode cL_renumber 16 = .ok (.iconst 2, 1) := by decide +kernel
theorem dL_renumber_17 : decode cL_renumber 17 = .ok (.ireturn, 1) := by decide +kernel
theorem dL_renumber_18 : decode cL_renumber 18 = .ok (.iconst 0, 1) := by decide +kernel
theorem dL_renumber_19 : decode cL_renumber 19 = .ok (.ireturn, 1) := by decide +kernel
set_option maxRecDepth 20000 in
theorem ggL_join_X7_join : GoodIn wsL_join wsX7_join := goodIn_ca (goodIn_ca (goodIn_ca (goodIn_ca (goodIn_r _ [8, 9, 10, 11, 12, 13, 14, 15, 16, 17, 18, 19, 20, 7, 21, 22, 23, 24, 25, 26, 27, 28, 29, 30, 31, 32, 33, 34, 35, 36, 37, 38, 39, 40, 41, 42, 43, 44, 45, 46, 47, 48, 49, 50, 51, 52, 53, 54, 55, 56, 57, 58, 59, 60, 61, 62, 63, 64, 65, 66, 67, 68, 69, 70, 71, 72, 73, 74, 75, 76, 77, 78, 79, 80, 81, 82, 83, 84, 85, 86, 87, 88, 89, 90, 91, 92, 93, 94, 95, 96, 97, 98, 99, 100, 101, 102, 103, 104, 105, 106, 107, 108, 109, 110, 111, 112, 113, 114, 115, 116, 117, 118, 119, 120, 121, 122, 123, 124, 125, 126, 127, 128, 129, 130, 131, 132, 133, 134, 135, 136, 137, 138, 139, 140, 141, 142, 143, 144, 145, 146, 147, 148, 149, 150, 151, 152, 153, 154, 155, 156, 157, 158, 159, 160, 161, 162, 163, 164, 165, 166, 167, 168, 169, 170, 171, 172, 173, 174, 175, 176, 177, 178, 179, 180, 181, 182, 183, 184, 185, 186, 187, 188, 189, 190, 191, 192, 193, 194, 195, 196, 197, 198, 199, 200, 201, 202, 203, 204, 205, 206, 207, 208, 209, 210, 211, 212, 213, 214, 215, 216, 217, 218, 219, 220, 221, 222, 223, 224, 225, 226, 227, 228, 229, 230, 231, 232, 233, 234, 235, 236, 237, 238, 239, 240, 241, 242, 243, 244, 245] (by decide +kernel) (by decide +kernel)) (goodIn_sub (fun _ h => List.mem_cons_of_mem _ (List.mem_append_left _ (List.mem_append_left _ (List.mem_append_right _ h)))) (by decide +kernel))) (goodIn_sub (fun _ h => List.mem_cons_of_mem _ (List.mem_append_left _ (List.mem_append_right _ h))) (by decide +kernel))) (goodIn_sub (fun _ h => List.mem_cons_of_mem _ (List.mem_append_right _ h)) (by decide +kernel))) (goodIn_sub (fun _ h => List.mem_cons_of_mem _ (List.mem_append_left _ (List.mem_append_left _ (List.mem_append_left _ (List.mem_append_right _ h))))) (by decide +kernel))
set_option maxRecDepth 20000 in
theorem gL_join_X7_join : GoodIn wsL_join (wsV RL 60 RX7 yX7_join wsX7_join) := goodIn_app (goodIn_of _ (by decide +kernel)) ggL_join_X7_join
theorem dL_join_0 : decode cL_join 0 = .ok (.aload_n 3, 1) := by decide +kernel
theorem dL_join_1 : decode cL_join 1 = .ok (.iconst 0, 1) := by decide +kernel
theorem dL_join_2 : decode cL_join 2 = .ok (.aload_n 0, 1) := by decide +kernel
theorem dL_join_3 : decode cL_join 3 = .ok (.iload_n 1, 1) := by decide +kernel
theorem dL_join_4 : decode cL_join 4 = .ok (.iload_n 2, 1) := by decide +kernel
theorem dL_join_5 : decode cL_join 5 = .ok (.invokevirtual 60, 3) := by decide +kernel
theorem dL_join_8 : decode cL_join 8 = .ok (.i2l, 1) := by decide +kernel
theorem dL_join_9 : decode cL_join 9 = .ok (.lastore, 1) := by decide +kernel
theorem dL_join_10 : decode cL_join 10 = .ok (.goto 15, 3) := by decide +kernel
theorem dL_join_13 : decode cL_join 13 = .ok (.astore 4, 2) := by decide +kernel
theorem dL_join_15 : decode cL_join 15 = .ok (.iconst 1, 1) := by decide +kernel
theorem dL_join_16 : decode cL_join 16 = .ok (.ireturn, 1) := by decide +kernel
theorem dL_join_17 : decode cL_join 17 = .ok (.astore 4, 2) := by decide +kernel
theorem dL_join_19 : decode cL_join 19 = .ok (.iconst 2, 1) := by decide +kernel
theorem dL_join_20 : decode cL_join 20 = .ok (.ireturn, 1) := by decide +kernel
theorem dL_join_21 : decode cL_join 21 = .ok (.astore 4, 2) := by decide +kernel
theorem dL_join_23 : decode cL_join 23 = .ok (.iconst 3, 1) := by decide +kernel
theorem dL_join_24 : decode cL_join 24 = .ok (.ireturn, 1) := by decide +kernel
theorem dL_join_25 : decode cL_join 25 = .ok (.iconst 0, 1) := by decide +kernel
theorem dL_join_26 : decode cL_join 26 = .ok (.ireturn, 1) := by decide +kernel
set_option maxRecDepth 20000 in
theorem ggL_day_X7_day : GoodIn wsL_day wsX7_day := goodIn_ca (goodIn_r _ [6, 7, 8, 9, 10, 11, 12, 13, 14, 15, 16, 17, 18] (by decide +kernel) (by decide +kernel)) (goodIn_sub (fun _ h => List.mem_cons_of_mem _ (List.mem_append_right _ h)) (by decide +kernel))
set_option maxRecDepth 20000 in
theorem gL_day_X7_day : GoodIn wsL_day (wsV RL 63 RX7 yX7_day wsX7_day) := goodIn_app (goodIn_of _ (by decide +kernel)) ggL_day_X7_day
theorem dL_day_0 : decode cL_day 0 = .ok (.aload_n 2, 1) := by decide +kernel
theorem dL_day_1 : decode cL_day 1 = .ok (.iconst 0, 1) := by decide +kernel
theorem dL_day_2 : decode cL_day 2 = .ok (.aload_n 0, 1) := by decide +kernel
theorem dL_day_3 : decode cL_day 3 = .ok (.iload_n 1, 1) := by decide +kernel
theorem dL_day_4 : decode cL_day 4 = .ok (.invokevirtual 63, 3) := by decide +kernel
theorem dL_day_7 : decode cL_day 7 = .ok (.i2l, 1) := by decide +kernel
theorem dL_day_8 : decode cL_day 8 = .ok (.lastore, 1) := by decide +kernel
theorem dL_day_9 : decode cL_day 9 = .ok (.goto 6, 3) := by decide +kernel
theorem dL_day_12 : decode cL_day 12 = .ok (.astore_n 3, 1) := by decide +kernel
theorem dL_day_13 : decode cL_day 13 = .ok (.iconst 1, 1) := by decide +kernel
theorem dL_day_14 : decode cL_day 14 = .ok (.ireturn, 1) := by decide +kernel
theorem dL_day_15 : decode cL_day 15 = .ok (.iconst 0, 1) := by decide +kernel
theorem dL_day_16 : decode cL_day 16 = .ok (.ireturn, 1) := by decide +kernel
set_option maxRecDepth 20000 in
theorem ggL_address_X7_address : GoodIn wsL_address wsX7_address := goodIn_ca (goodIn_ca (goodIn_r _ [7, 8, 9, 10, 11, 12, 13, 14, 15, 6, 16, 17, 18, 19, 20, 21, 22, 23, 24, 25, 26, 27, 28, 29, 30, 31, 32, 33, 34, 35, 36, 37, 38, 39, 40, 41, 42] (by decide +kernel) (by decide +kernel)) (goodIn_sub (fun _ h => List.mem_cons_of_mem _ (List.mem_append_left _ (List.mem_append_right _ h))) (by decide +kernel))) (goodIn_sub (fun _ h => List.mem_cons_of_mem _ (List.mem_append_right _ h)) (by decide +kernel))
set_option maxRecDepth 20000 in
theorem gL_address_X7_address : GoodIn wsL_address (wsV RL 66 RX7 yX7_address wsX7_address) := goodIn_app (goodIn_of _ (by decide +kernel)) ggL_address_X7_address
theorem dL_address_0 : decode cL_address 0 = .ok (.aload_n 3, 1) := by decide +kernel
theorem dL_address_1 : decode cL_address 1 = .ok (.iconst 0, 1) := by decide +kernel
theorem dL_address_2 : decode cL_address 2 = .ok (.aload_n 0, 1) := by decide +kernel
theorem dL_address_3 : decode cL_address 3 = .ok (.iload_n 1, 1) := by decide +kernel
theorem dL_address_4 : decode cL_address 4 = .ok (.iload_n 2, 1) := by decide +kernel
theorem dL_address_5 : decode cL_address 5 = .ok (.invokevirtual 66, 3) := by decide +kernel
theorem dL_address_8 : decode cL_address 8 = .ok (.i2l, 1) := by decide +kernel
theorem dL_address_9 : decode cL_address 9 = .ok (.lastore, 1) := by decide +kernel
theorem dL_address_10 : decode cL_address 10 = .ok (.goto 11, 3) := by decide +kernel
theorem dL_address_13 : decode cL_address 13 = .ok (.astore 4, 2) := by decide +kernel
theorem dL_address_15 : decode cL_address 15 = .ok (.iconst 1, 1) := by decide +kernel
theorem dL_address_16 : decode cL_address 16 = .ok (.ireturn, 1) := by decide +kernel
theorem dL_address_17 : decode cL_address 17 = .ok (.astore 4, 2) := by decide +kernel
theorem dL_address_19 : decode cL_address 19 = .ok (.iconst 2, 1) := by decide +kernel
theorem dL_address_20 : decode cL_address 20 = .ok (.ireturn, 1) := by decide +kernel
theorem dL_address_21 : decode cL_address 21 = .ok (.iconst 0, 1) := by decide +kernel
theorem dL_address_22 : decode cL_address 22 = .ok (.ireturn, 1) := by decide +kernel
set_option maxRecDepth 20000 in
theorem ggL_streetOf_X7_streetOf : GoodIn wsL_streetOf wsX7_streetOf := goodIn_ca (goodIn_ca (goodIn_r _ [7, 8, 9, 10, 11, 12, 13, 14, 15, 16, 6, 17, 18, 19, 20, 21, 22, 23, 24, 25, 26, 27, 28, 29, 30, 31, 32, 33, 34, 35, 36, 37, 38, 39, 40, 41, 42, 43, 44, 45, 46, 47, 48, 49, 50, 51] (by decide +kernel) (by decide +kernel)) (goodIn_sub (fun _ h => List.mem_cons_of_mem _ (List.mem_append_left _ (List.mem_append_right _ h))) (by decide +kernel))) (goodIn_sub (fun _ h => List.mem_cons_of_mem _ (List.mem_append_right _ h)) (by decide +kernel))
set_option maxRecDepth 20000 in
theorem gL_streetOf_X7_streetOf : GoodIn wsL_streetOf (wsV RL 70 RX7 yX7_streetOf wsX7_streetOf) := goodIn_app (goodIn_of _ (by decide +kernel)) ggL_streetOf_X7_streetOf
theorem dL_streetOf_0 : decode cL_streetOf 0 = .ok (.aload_n 3, 1) := by decide +kernel
theorem dL_streetOf_1 : decode cL_streetOf 1 = .ok (.iconst 0, 1) := by decide +kernel
theorem dL_streetOf_2 : decode cL_streetOf 2 = .ok (.aload_n 0, 1) := by decide +kernel
theorem dL_streetOf_3 : decode cL_streetOf 3 = .ok (.iload_n 1, 1) := by decide +kernel
theorem dL_streetOf_4 : decode cL_streetOf 4 = .ok (.iload_n 2, 1) := by decide +kernel
theorem dL_streetOf_5 : decode cL_streetOf 5 = .ok (.invokevirtual 70, 3) := by decide +kernel
theorem dL_streetOf_8 : decode cL_streetOf 8 = .ok (.i2l, 1) := by decide +kernel
theorem dL_streetOf_9 : decode cL_streetOf 9 = .ok (.lastore, 1) := by decide +kernel
theorem dL_streetOf_10 : decode cL_streetOf 10 = .ok (.goto 11, 3) := by decide +kernel
theorem dL_streetOf_13 : decode cL_streetOf 13 = .ok (.astore 4, 2) := by decide +kernel
theorem dL_streetOf_15 : decode cL_streetOf 15 = .ok (.iconst 1, 1) := by decide +kernel
theorem dL_streetOf_16 : decode cL_streetOf 16 = .ok (.ireturn, 1) := by decide +kernel
theorem dL_streetOf_17 : decode cL_streetOf 17 = .ok (.astore 4, 2) := by decide +kernel
theorem dL_streetOf_19 : decode cL_streetOf 19 = .ok (.iconst 2, 1) := by decide +kernel
theorem dL_streetOf_20 : decode cL_streetOf 20 = .ok (.ireturn, 1) := by decide +kernel
theorem dL_streetOf_21 : decode cL_streetOf 21 = .ok (.iconst 0, 1) := by decide +kernel
theorem dL_streetOf_22 : decode cL_streetOf 22 = .ok (.ireturn, 1) := by decide +kernel
set_option maxRecDepth 20000 in
theorem ggL_isGone_X7_isGone : GoodIn wsL_isGone wsX7_isGone := goodIn_ca (goodIn_r _ [6, 7, 8, 9, 10, 5, 11, 12, 13, 14, 15, 16, 17, 18, 19, 20, 21, 22, 23, 24, 25, 26, 27, 28, 29, 30, 31, 32] (by decide +kernel) (by decide +kernel)) (goodIn_sub (fun _ h => List.mem_cons_of_mem _ (List.mem_append_right _ h)) (by decide +kernel))
set_option maxRecDepth 20000 in
theorem gL_isGone_X7_isGone : GoodIn wsL_isGone (wsV RL 73 RX7 yX7_isGone wsX7_isGone) := goodIn_app (goodIn_of _ (by decide +kernel)) ggL_isGone_X7_isGone
theorem dL_isGone_0 : decode cL_isGone 0 = .ok (.aload_n 2, 1) := by decide +kernel
theorem dL_isGone_1 : decode cL_isGone 1 = .ok (.iconst 0, 1) := by decide +kernel
theorem dL_isGone_2 : decode cL_isGone 2 = .ok (.aload_n 0, 1) := by decide +kernel
theorem dL_isGone_3 : decode cL_isGone 3 = .ok (.iload_n 1, 1) := by decide +kernel
theorem dL_isGone_4 : decode cL_isGone 4 = .ok (.invokevirtual 73, 3) := by decide +kernel
theorem dL_isGone_7 : decode cL_isGone 7 = .ok (.ifCond .eq 7, 3) := by decide +kernel
theorem dL_isGone_10 : decode cL_isGone 10 = .ok (.lconst 1, 1) := by decide +kernel
theorem dL_isGone_11 : decode cL_isGone 11 = .ok (.goto 4, 3) := by decide +kernel
theorem dL_isGone_14 : decode cL_isGone 14 = .ok (.lconst 0, 1) := by decide +kernel
theorem dL_isGone_15 : decode cL_isGone 15 = .ok (.lastore, 1) := by decide +kernel
theorem dL_isGone_16 : decode cL_isGone 16 = .ok (.goto 6, 3) := by decide +kernel
theorem dL_isGone_19 : decode cL_isGone 19 = .ok (.astore_n 3, 1) := by decide +kernel
theorem dL_isGone_20 : decode cL_isGone 20 = .ok (.iconst 1, 1) := by decide +kernel
theorem dL_isGone_21 : decode cL_isGone 21 = .ok (.ireturn, 1) := by decide +kernel
theorem dL_isGone_22 : decode cL_isGone 22 = .ok (.iconst 0, 1) := by decide +kernel
theorem dL_isGone_23 : decode cL_isGone 23 = .ok (.ireturn, 1) := by decide +kernel
set_option maxRecDepth 20000 in
theorem ggL_find_X7_find : GoodIn wsL_find wsX7_find := goodIn_ca (goodIn_r _ [6, 7, 8, 9, 10, 11, 12, 13, 5, 14, 15, 16, 17, 18, 19, 20, 21, 22, 23, 24, 25, 26, 27, 28, 29, 30, 31, 32, 33, 34, 35, 36, 37, 38, 39, 40, 41, 42, 43, 44, 45, 46, 47, 48, 49, 50, 51, 52, 53, 54, 55, 56, 57, 58, 59, 60, 61, 62, 63] (by decide +kernel) (by decide +kernel)) (goodIn_sub (fun _ h => List.mem_cons_of_mem _ (List.mem_append_right _ h)) (by decide +kernel))
set_option maxRecDepth 20000 in
theorem gL_find_X7_find : GoodIn wsL_find (wsV RL 77 RX7 yX7_find wsX7_find) := goodIn_app (goodIn_of _ (by decide +kernel)) ggL_find_X7_find
theorem dL_find_0 : decode cL_find 0 = .ok (.aload_n 2, 1) := by decide +kernel
theorem dL_find_1 : decode cL_find 1 = .ok (.iconst 0, 1) := by decide +kernel
theorem dL_find_2 : decode cL_find 2 = .ok (.aload_n 0, 1) := by decide +kernel
theorem dL_find_3 : decode cL_find 3 = .ok (.iload_n 1, 1) := by decide +kernel
theorem dL_find_4 : decode cL_find 4 = .ok (.invokevirtual 77, 3) := by decide +kernel
theorem dL_find_7 : decode cL_find 7 = .ok (.i2l, 1) := by decide +kernel
theorem dL_find_8 : decode cL_find 8 = .ok (.lastore, 1) := by decide +kernel
theorem dL_find_9 : decode cL_find 9 = .ok (.goto 6, 3) := by decide +kernel
theorem dL_find_12 : decode cL_find 12 = .ok (.astore_n 3, 1) := by decide +kernel
theorem dL_find_13 : decode cL_find 13 = .ok (.iconst 1, 1) := by decide +kernel
theorem dL_find_14 : decode cL_find 14 = .ok (.ireturn, 1) := by decide +kernel
theorem dL_find_15 : decode cL_find 15 = .ok (.iconst 0, 1) := by decide +kernel
theorem dL_find_16 : decode cL_find 16 = .ok (.ireturn, 1) := by decide +kernel
set_option maxRecDepth 20000 in
theorem ggL_send_X7_send : GoodIn wsL_send wsX7_send := goodIn_ca (goodIn_ca (goodIn_ca (goodIn_r _ [7, 8, 9, 10, 11, 12, 13, 14, 15, 16, 17, 6, 18, 19, 20, 21, 22, 23, 24, 25, 26, 27, 28, 29, 30, 31, 32, 33, 34, 35, 36, 37, 38, 39, 40, 41, 42, 43, 44, 45, 46, 47, 48, 49, 50, 51, 52, 53, 54, 55, 56, 57, 58, 59, 60, 61, 62, 63, 64, 65, 66, 67, 68, 69, 70, 71, 72, 73, 74, 75, 76, 77, 78, 79, 80, 81, 82, 83, 84, 85, 86, 87, 88, 89, 90, 91, 92, 93, 94, 95, 96, 97, 98, 99] (by decide +kernel) (by decide +kernel)) (goodIn_sub (fun _ h => List.mem_cons_of_mem _ (List.mem_append_left _ (List.mem_append_right _ h))) (by decide +kernel))) (goodIn_sub (fun _ h => List.mem_cons_of_mem _ (List.mem_append_right _ h)) (by decide +kernel))) (goodIn_sub (fun _ h => List.mem_cons_of_mem _ (List.mem_append_left _ (List.mem_append_left _ (List.mem_append_right _ h)))) (by decide +kernel))
set_option maxRecDepth 20000 in
theorem gL_send_X7_send : GoodIn wsL_send (wsV RL 80 RX7 yX7_send wsX7_send) := goodIn_app (goodIn_of _ (by decide +kernel)) ggL_send_X7_send
theorem dL_send_0 : decode cL_send 0 = .ok (.aload_n 2, 1) := by decide +kernel
theorem dL_send_1 : decode cL_send 1 = .ok (.iconst 0, 1) := by decide +kernel
theorem dL_send_2 : decode cL_send 2 = .ok (.aload_n 0, 1) := by decide +kernel
theorem dL_send_3 : decode cL_send 3 = .ok (.iload_n 1, 1) := by decide +kernel
theorem dL_send_4 : decode cL_send 4 = .ok (.invokevirtual 80, 3) := by decide +kernel
theorem dL_send_7 : decode cL_send 7 = .ok (.i2l, 1) := by decide +kernel
theorem dL_send_8 : decode cL_send 8 = .ok (.lastore, 1) := by decide +kernel
theorem dL_send_9 : decode cL_send 9 = .ok (.goto 9, 3) := by decide +kernel
theorem dL_send_12 : decode cL_send 12 = .ok (.astore_n 3, 1) := by decide +kernel
theorem dL_send_13 : decode cL_send 13 = .ok (.iconst 1, 1) := by decide +kernel
theorem dL_send_14 : decode cL_send 14 = .ok (.ireturn, 1) := by decide +kernel
theorem dL_send_15 : decode cL_send 15 = .ok (.astore_n 3, 1) := by decide +kernel
theorem dL_send_16 : decode cL_send 16 = .ok (.iconst 2, 1) := by decide +kernel
theorem dL_send_17 : decode cL_send 17 = .ok (.ireturn, 1) := by decide +kernel
theorem dL_send_18 : decode cL_send 18 = .ok (.iconst 0, 1) := by decide +kernel
theorem dL_send_19 : decode cL_send 19 = .ok (.ireturn, 1) := by decide +kernel
set_option maxRecDepth 20000 in
theorem ggL_until_X7_until : GoodIn wsL_until wsX7_until := goodIn_ca (goodIn_ca (goodIn_r _ [6, 7, 8, 9, 10, 11, 12, 13, 14, 15, 16, 17, 18, 19, 20, 21, 22, 23, 24, 25, 26, 27, 28, 29, 30, 31, 32, 33, 34, 35, 36, 37, 38, 39, 40, 41, 42] (by decide +kernel) (by decide +kernel)) (goodIn_sub (fun _ h => List.mem_cons_of_mem _ (List.mem_append_right _ h)) (by decide +kernel))) (goodIn_sub (fun _ h => List.mem_cons_of_mem _ (List.mem_append_left _ (List.mem_append_right _ h))) (by decide +kernel))
set_option maxRecDepth 20000 in
theorem gL_until_X7_until : GoodIn wsL_until (wsV RL 83 RX7 yX7_until wsX7_until) := goodIn_app (goodIn_of _ (by decide +kernel)) ggL_until_X7_until
theorem dL_until_0 : decode cL_until 0 = .ok (.aload_n 2, 1) := by decide +kernel
theorem dL_until_1 : decode cL_until 1 = .ok (.iconst 0, 1) := by decide +kernel
theorem dL_until_2 : decode cL_until 2 = .ok (.aload_n 0, 1) := by decide +kernel
theorem dL_until_3 : decode cL_until 3 = .ok (.iload_n 1, 1) := by decide +kernel
theorem dL_until_4 : decode cL_until 4 = .ok (.invokevirtual 83, 3) := by decide +kernel
theorem dL_until_7 : decode cL_until 7 = .ok (.i2l, 1) := by decide +kernel
theorem dL_until_8 : decode cL_until 8 = .ok (.lastore, 1) := by decide +kernel
theorem dL_until_9 : decode cL_until 9 = .ok (.goto 6, 3) := by decide +kernel
theorem dL_until_12 : decode cL_until 12 = .ok (.astore_n 3, 1) := by decide +kernel
theorem dL_until_13 : decode cL_until 13 = .ok (.iconst 1, 1) := by decide +kernel
theorem dL_until_14 : decode cL_until 14 = .ok (.ireturn, 1) := by decide +kernel
theorem dL_until_15 : decode cL_until 15 = .ok (.iconst 0, 1) := by decide +kernel
theorem dL_until_16 : decode cL_until 16 = .ok (.ireturn, 1) := by decide +kernel
set_option maxRecDepth 20000 in
theorem ggL_doors_X7_doors : GoodIn wsL_doors wsX7_doors := goodIn_ca (goodIn_r _ [6, 7, 8, 9, 5, 10, 11, 12, 13, 14, 15, 16, 17, 18, 19, 20, 21, 22, 23, 24, 25, 26, 27, 28, 29, 30, 31, 32, 33, 34, 35, 36, 37, 38, 39, 40, 41, 42, 43, 44, 45, 46, 47, 48, 49, 50, 51, 52, 53, 54, 55, 56, 57, 58, 59, 60] (by decide +kernel) (by decide +kernel)) (goodIn_sub (fun _ h => List.mem_cons_of_mem _ (List.mem_append_right _ h)) (by decide +kernel))
set_option maxRecDepth 20000 in
theorem gL_doors_X7_doors : GoodIn wsL_doors (wsV RL 86 RX7 yX7_doors wsX7_doors) := goodIn_app (goodIn_of _ (by decide +kernel)) ggL_doors_X7_doors
theorem dL_doors_0 : decode cL_doors 0 = .ok (.aload_n 2, 1) := by decide +kernel
theorem dL_doors_1 : decode cL_doors 1 = .ok (.iconst 0, 1) := by decide +kernel
theorem dL_doors_2 : decode cL_doors 2 = .ok (.aload_n 0, 1) := by decide +kernel
theorem dL_doors_3 : decode cL_doors 3 = .ok (.iload_n 1, 1) := by decide +kernel
theorem dL_doors_4 : decode cL_doors 4 = .ok (.invokevirtual 86, 3) := by decide +kernel
theorem dL_doors_7 : decode cL_doors 7 = .ok (.i2l, 1) := by decide +kernel
theorem dL_doors_8 : decode cL_doors 8 = .ok (.lastore, 1) := by decide +kernel
theorem dL_doors_9 : decode cL_doors 9 = .ok (.goto 6, 3) := by decide +kernel
theorem dL_doors_12 : decode cL_doors 12 = .ok (.astore_n 3, 1) := by decide +kernel
theorem dL_doors_13 : decode cL_doors 13 = .ok (.iconst 1, 1) := by decide +kernel
theorem dL_doors_14 : decode cL_doors 14 = .ok (.ireturn, 1) := by decide +kernel
theorem dL_doors_15 : decode cL_doors 15 = .ok (.iconst 0, 1) := by decide +kernel
theorem dL_doors_16 : decode cL_doors 16 = .ok (.ireturn, 1) := by decide +kernel
set_option maxRecDepth 20000 in
theorem ggL_walk_X7_walk : GoodIn wsL_walk wsX7_walk := goodIn_ca (goodIn_ca (goodIn_ca (goodIn_r _ [7, 8, 9, 10, 11, 12, 13, 14, 6, 15, 16, 17, 18, 19, 20, 21, 22, 23, 24, 25, 26, 27, 28, 29, 30, 31, 32, 33, 34, 35, 36, 37, 38, 39, 40, 41, 42, 43, 44, 45, 46, 47, 48, 49, 50, 51, 52, 53, 54, 55, 56, 57, 58, 59, 60, 61, 62, 63, 64, 65, 66, 67, 68, 69, 70, 71, 72, 73, 74, 75, 76, 77, 78, 79, 80, 81, 82, 83, 84, 85] (by decide +kernel) (by decide +kernel)) (goodIn_sub (fun _ h => List.mem_cons_of_mem _ (List.mem_append_left _ (List.mem_append_right _ h))) (by decide +kernel))) (goodIn_sub (fun _ h => List.mem_cons_of_mem _ (List.mem_append_right _ h)) (by decide +kernel))) (goodIn_sub (fun _ h => List.mem_cons_of_mem _ (List.mem_append_left _ (List.mem_append_left _ (List.mem_append_right _ h)))) (by decide +kernel))
set_option maxRecDepth 20000 in
theorem gL_walk_X7_walk : GoodIn wsL_walk (wsV RL 89 RX7 yX7_walk wsX7_walk) := goodIn_app (goodIn_of _ (by decide +kernel)) ggL_walk_X7_walk
theorem dL_walk_0 : decode cL_walk 0 = .ok (.aload_n 3, 1) := by decide +kernel
theorem dL_walk_1 : decode cL_walk 1 = .ok (.iconst 0, 1) := by decide +kernel
theorem dL_walk_2 : decode cL_walk 2 = .ok (.aload_n 0, 1) := by decide +kernel
theorem dL_walk_3 : decode cL_walk 3 = .ok (.iload_n 1, 1) := by decide +kernel
theorem dL_walk_4 : decode cL_walk 4 = .ok (.iload_n 2, 1) := by decide +kernel
theorem dL_walk_5 : decode cL_walk 5 = .ok (.invokevirtual 89, 3) := by decide +kernel
theorem dL_walk_8 : decode cL_walk 8 = .ok (.i2l, 1) := by decide +kernel
theorem dL_walk_9 : decode cL_walk 9 = .ok (.lastore, 1) := by decide +kernel
theorem dL_walk_10 : decode cL_walk 10 = .ok (.goto 11, 3) := by decide +kernel
theorem dL_walk_13 : decode cL_walk 13 = .ok (.astore 4, 2) := by decide +kernel
theorem dL_walk_15 : decode cL_walk 15 = .ok (.iconst 1, 1) := by decide +kernel
theorem dL_walk_16 : decode cL_walk 16 = .ok (.ireturn, 1) := by decide +kernel
theorem dL_walk_17 : decode cL_walk 17 = .ok (.astore 4, 2) := by decide +kernel
theorem dL_walk_19 : decode cL_walk 19 = .ok (.iconst 2, 1) := by decide +kernel
theorem dL_walk_20 : decode cL_walk 20 = .ok (.ireturn, 1) := by decide +kernel
theorem dL_walk_21 : decode cL_walk 21 = .ok (.iconst 0, 1) := by decide +kernel
theorem dL_walk_22 : decode cL_walk 22 = .ok (.ireturn, 1) := by decide +kernel
set_option maxRecDepth 20000 in
theorem ggL_steps_X7_steps : GoodIn wsL_steps wsX7_steps := goodIn_ca (goodIn_ca (goodIn_r _ [6, 7, 8, 9, 10, 11, 12, 13, 14, 15, 16, 17, 5, 18, 19, 20, 21, 22, 23, 24, 25, 26, 27, 28, 29, 30, 31, 32, 33, 34, 35, 36, 37, 38, 39, 40, 41, 42, 43, 44, 45, 46, 47, 48, 49, 50, 51, 52, 53, 54, 55, 56, 57, 58, 59, 60, 61, 62, 63, 64, 65, 66, 67, 68, 69, 70, 71, 72, 73, 74, 75, 76, 77, 78, 79, 80, 81, 82, 83, 84, 85, 86, 87, 88, 89, 90] (by decide +kernel) (by decide +kernel)) (goodIn_sub (fun _ h => List.mem_cons_of_mem _ (List.mem_append_right _ h)) (by decide +kernel))) (goodIn_sub (fun _ h => List.mem_cons_of_mem _ (List.mem_append_left _ (List.mem_append_right _ h))) (by decide +kernel))
set_option maxRecDepth 20000 in
theorem gL_steps_X7_steps : GoodIn wsL_steps (wsV RL 92 RX7 yX7_steps wsX7_steps) := goodIn_app (goodIn_of _ (by decide +kernel)) ggL_steps_X7_steps
theorem dL_steps_0 : decode cL_steps 0 = .ok (.aload_n 2, 1) := by decide +kernel
theorem dL_steps_1 : decode cL_steps 1 = .ok (.iconst 0, 1) := by decide +kernel
theorem dL_steps_2 : decode cL_steps 2 = .ok (.aload_n 0, 1) := by decide +kernel
theorem dL_steps_3 : decode cL_steps 3 = .ok (.iload_n 1, 1) := by decide +kernel
theorem dL_steps_4 : decode cL_steps 4 = .ok (.invokevirtual 92, 3) := by decide +kernel
theorem dL_steps_7 : decode cL_steps 7 = .ok (.i2l, 1) := by decide +kernel
theorem dL_steps_8 : decode cL_steps 8 = .ok (.lastore, 1) := by decide +kernel
