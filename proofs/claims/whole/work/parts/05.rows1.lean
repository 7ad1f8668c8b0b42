theorem dX7_way_31 : decode cX7_way 31 = .ok (.aload 4, 2) := by decide +kernel
theorem dX7_way_33 : decode cX7_way 33 = .ok (.iload_n 2, 1) := by decide +kernel
theorem dX7_way_34 : decode cX7_way 34 = .ok (.putfield 128, 3) := by decide +kernel
theorem dX7_way_37 : decode cX7_way 37 = .ok (.aload 4, 2) := by decide +kernel
theorem dX7_way_39 : decode cX7_way 39 = .ok (.iload_n 3, 1) := by decide +kernel
theorem dX7_way_40 : decode cX7_way 40 = .ok (.putfield 132, 3) := by decide +kernel
theorem dX7_way_43 : decode cX7_way 43 = .ok (.iload 5, 2) := by decide +kernel
theorem dX7_way_45 : decode cX7_way 45 = .ok (.ireturn, 1) := by decide +kernel
set_option maxRecDepth 20000 in
theorem ggX7_renumber_X7_standing : GoodIn wsX7_renumber wsX7_standing := goodIn_ca (goodIn_r _ [11, 12, 13, 14, 15, 16, 10, 17, 18, 184, 185, 186, 187, 188, 189, 190, 191, 192, 193, 194, 195, 196, 197, 198, 199, 200] (by decide +kernel) (by decide +kernel)) (goodIn_sub (fun _ h => List.mem_cons_of_mem _ (List.mem_append_left _ (List.mem_append_right _ h))) (by decide +kernel))
set_option maxRecDepth 20000 in
theorem gX7_renumber_X7_standing : GoodIn wsX7_renumber (wsV RX7 78 RX7 yX7_standing wsX7_standing) := goodIn_app (goodIn_of _ (by decide +kernel)) ggX7_renumber_X7_standing
set_option maxRecDepth 20000 in
theorem ggX7_renumber_X1_open : GoodIn wsX7_renumber wsX1_open := goodIn_r _ [23, 24, 25, 26, 27, 28, 29, 30, 31, 32, 33, 34, 201, 202, 203, 204, 205, 206, 207, 193, 194, 195, 196, 197, 198, 199, 200] (by decide +kernel) (by decide +kernel)
set_option maxRecDepth 20000 in
theorem gX7_renumber_X1_open : GoodIn wsX7_renumber (wsV RX7 139 RX1 yX1_open wsX1_open) := goodIn_app (goodIn_of _ (by decide +kernel)) ggX7_renumber_X1_open
set_option maxRecDepth 20000 in
theorem ggX7_renumber_X7_orderForRenumbering : GoodIn wsX7_renumber wsX7_orderForRenumbering := goodIn_ca (goodIn_r _ [38, 39, 40, 41, 42, 43, 44, 45, 46, 47, 48, 49, 50, 51, 10, 52, 53, 54, 55, 56, 57, 58, 59, 60, 61, 62, 63, 64, 65, 66, 67, 68, 69, 70, 71, 72, 184, 185, 186, 187, 188, 189, 190, 191, 192, 193, 194, 195, 196, 197, 198, 199, 200, 208, 209, 210, 211, 212, 213, 214, 215, 216, 217, 218, 219] (by decide +kernel) (by decide +kernel)) (goodIn_sub (fun _ h => List.mem_cons_of_mem _ (List.mem_append_right _ h)) (by decide +kernel))
set_option maxRecDepth 20000 in
theorem gX7_renumber_X7_orderForRenumbering : GoodIn wsX7_renumber (wsV RX7 143 RX7 yX7_orderForRenumbering wsX7_orderForRenumbering) := goodIn_app (goodIn_of _ (by decide +kernel)) ggX7_renumber_X7_orderForRenumbering
set_option maxRecDepth 20000 in
theorem ggX7_renumber_X7_enterInOrder : GoodIn wsX7_renumber wsX7_enterInOrder := goodIn_ca (goodIn_r _ [76, 39, 77, 42, 3, 43, 78, 79, 80, 81, 47, 82, 49, 72, 83, 84, 85, 10, 86, 40, 50, 51, 52, 53, 54, 55, 56, 57, 58, 59, 60, 87, 88, 89, 22, 90, 26, 30, 91, 92, 93, 94, 28, 29, 95, 96, 97, 98, 99, 100, 101, 102, 24, 103, 104, 105, 106, 107, 108, 109, 110, 111, 112, 113, 114, 115, 116, 117, 118, 119, 120, 121, 122, 123, 124, 125, 126, 127, 128, 129, 130, 131, 132, 133, 134, 135, 136, 137, 138, 139, 140, 141, 142, 143, 144, 184, 185, 186, 187, 188, 189, 190, 191, 192, 213, 214, 208, 209, 210, 211, 212, 215, 216, 217, 218, 219, 201, 202, 203, 204, 205, 206, 207] (by decide +kernel) (by decide +kernel)) (goodIn_sub (fun _ h => List.mem_cons_of_mem _ (List.mem_append_right _ h)) (by decide +kernel))
set_option maxRecDepth 20000 in
theorem gX7_renumber_X7_enterInOrder : GoodIn wsX7_renumber (wsV RX7 147 RX7 yX7_enterInOrder wsX7_enterInOrder) := goodIn_app (goodIn_of _ (by decide +kernel)) ggX7_renumber_X7_enterInOrder
set_option maxRecDepth 20000 in
theorem ggX7_renumber_X7_takeNewCodes : GoodIn wsX7_renumber wsX7_takeNewCodes := goodIn_ca (goodIn_r _ [148, 40, 149, 3, 43, 50, 51, 10, 52, 53, 54, 55, 56, 57, 58, 59, 60, 150, 151, 152, 22, 153, 24, 142, 143, 144, 154, 155, 156, 157, 158, 159, 160, 161, 162, 163, 164, 165, 166, 167, 168, 169, 170, 171, 172, 173, 174, 175, 176, 177, 178, 179, 140, 180, 181, 182, 183, 184, 185, 186, 187, 188, 189, 190, 191, 192, 208, 209, 210, 211, 212, 215, 216, 217, 218, 219, 201, 202, 203, 204, 205, 206, 207, 193, 194, 195, 196, 197, 198, 199, 200, 220, 221, 222, 223, 224, 225] (by decide +kernel) (by decide +kernel)) (goodIn_sub (fun _ h => List.mem_cons_of_mem _ (List.mem_append_right _ h)) (by decide +kernel))
set_option maxRecDepth 20000 in
theorem gX7_renumber_X7_takeNewCodes : GoodIn wsX7_renumber (wsV RX7 157 RX7 yX7_takeNewCodes wsX7_takeNewCodes) := goodIn_app (goodIn_of _ (by decide +kernel)) ggX7_renumber_X7_takeNewCodes
theorem dX7_renumber_0 : decode cX7_renumber 0 = .ok (.aload_n 0, 1) := by decide +kernel
theorem dX7_renumber_1 : decode cX7_renumber 1 = .ok (.iload_n 1, 1) := by decide +kernel
theorem dX7_renumber_2 : decode cX7_renumber 2 = .ok (.invokevirtual 78, 3) := by decide +kernel
theorem dX7_renumber_5 : decode cX7_renumber 5 = .ok (.astore_n 2, 1) := by decide +kernel
theorem dX7_renumber_6 : decode cX7_renumber 6 = .ok (.aload_n 0, 1) := by decide +kernel
theorem dX7_renumber_7 : decode cX7_renumber 7 = .ok (.getfield 31, 3) := by decide +kernel
theorem dX7_renumber_10 : decode cX7_renumber 10 = .ok (.aload_n 2, 1) := by decide +kernel
theorem dX7_renumber_11 : decode cX7_renumber 11 = .ok (.aload_n 2, 1) := by decide +kernel
theorem dX7_renumber_12 : decode cX7_renumber 12 = .ok (.getfield 136, 3) := by decide +kernel
theorem dX7_renumber_15 : decode cX7_renumber 15 = .ok (.iconst 0, 1) := by decide +kernel
theorem dX7_renumber_16 : decode cX7_renumber 16 = .ok (.invokevirtual 139, 3) := by decide +kernel
theorem dX7_renumber_19 : decode cX7_renumber 19 = .ok (.aload_n 0, 1) := by decide +kernel
theorem dX7_renumber_20 : decode cX7_renumber 20 = .ok (.aload_n 2, 1) := by decide +kernel
theorem dX7_renumber_21 : decode cX7_renumber 21 = .ok (.invokevirtual 143, 3) := by decide +kernel
theorem dX7_renumber_24 : decode cX7_renumber 24 = .ok (.aload_n 0, 1) := by decide +kernel
theorem dX7_renumber_25 : decode cX7_renumber 25 = .ok (.aload_n 2, 1) := by decide +kernel
theorem dX7_renumber_26 : decode cX7_renumber 26 = .ok (.iconst 0, 1) := by decide +kernel
theorem dX7_renumber_27 : decode cX7_renumber 27 = .ok (.invokevirtual 147, 3) := by decide +kernel
theorem dX7_renumber_30 : decode cX7_renumber 30 = .ok (.ifCond .ne 13, 3) := by decide +kernel
theorem dX7_renumber_33 : decode cX7_renumber 33 = .ok (.new 86, 3) := by decide +kernel
theorem dX7_renumber_36 : decode cX7_renumber 36 = .ok (.dup, 1) := by decide +kernel
theorem dX7_renumber_37 : decode cX7_renumber 37 = .ok (.ldc 151, 2) := by decide +kernel
theorem dX7_renumber_39 : decode cX7_renumber 39 = .ok (.invokespecial 90, 3) := by decide +kernel
theorem dX7_renumber_42 : decode cX7_renumber 42 = .ok (.athrow, 1) := by decide +kernel
theorem dX7_renumber_43 : decode cX7_renumber 43 = .ok (.aload_n 2, 1) := by decide +kernel
theorem dX7_renumber_44 : decode cX7_renumber 44 = .ok (.aload_n 0, 1) := by decide +kernel
theorem dX7_renumber_45 : decode cX7_renumber 45 = .ok (.getfield 31, 3) := by decide +kernel
theorem dX7_renumber_48 : decode cX7_renumber 48 = .ok (.getfield 153, 3) := by decide +kernel
theorem dX7_renumber_51 : decode cX7_renumber 51 = .ok (.putfield 156, 3) := by decide +kernel
theorem dX7_renumber_54 : decode cX7_renumber 54 = .ok (.aload_n 0, 1) := by decide +kernel
theorem dX7_renumber_55 : decode cX7_renumber 55 = .ok (.aload_n 2, 1) := by decide +kernel
theorem dX7_renumber_56 : decode cX7_renumber 56 = .ok (.invokevirtual 157, 3) := by decide +kernel
theorem dX7_renumber_59 : decode cX7_renumber 59 = .ok (.ireturn, 1) := by decide +kernel
set_option maxRecDepth 20000 in
theorem ggX7_join_X7_standing : GoodIn wsX7_join wsX7_standing := goodIn_ca (goodIn_r _ [14, 15, 16, 17, 18, 19, 13, 20, 9, 205, 206, 207, 208, 209, 210, 211, 212, 213, 197, 198, 199, 200, 201, 202, 203, 204] (by decide +kernel) (by decide +kernel)) (goodIn_sub (fun _ h => List.mem_cons_of_mem _ (List.mem_append_left _ (List.mem_append_right _ h))) (by decide +kernel))
set_option maxRecDepth 20000 in
theorem gX7_join_X7_standing : GoodIn wsX7_join (wsV RX7 78 RX7 yX7_standing wsX7_standing) := goodIn_app (goodIn_of _ (by decide +kernel)) ggX7_join_X7_standing
set_option maxRecDepth 20000 in
theorem ggX7_join_X7_openLedger : GoodIn wsX7_join wsX7_openLedger := goodIn_ca (goodIn_r _ [24, 6, 8, 25, 26, 27, 28, 29, 30, 31, 32, 33, 34, 35, 36, 37, 38, 39, 40, 41, 42, 43, 44, 45, 46, 47, 13, 48, 49, 50, 51, 52, 53, 54, 55, 56, 57, 58, 59, 60, 61, 62, 63, 64, 65, 66, 67, 68, 69, 70, 71, 72, 73, 74, 75, 76, 77, 205, 206, 207, 208, 209, 210, 211, 212, 213, 197, 198, 199, 200, 201, 202, 203, 204, 221, 222, 223, 224, 225, 214, 215, 216, 217, 218, 219, 220, 226, 227, 228, 229, 230] (by decide +kernel) (by decide +kernel)) (goodIn_sub (fun _ h => List.mem_cons_of_mem _ (List.mem_append_right _ h)) (by decide +kernel))
set_option maxRecDepth 20000 in
theorem gX7_join_X7_openLedger : GoodIn wsX7_join (wsV RX7 163 RX7 yX7_openLedger wsX7_openLedger) := goodIn_app (goodIn_of _ (by decide +kernel)) ggX7_join_X7_openLedger
set_option maxRecDepth 20000 in
theorem ggX7_join_X7_orderForJoining : GoodIn wsX7_join wsX7_orderForJoining := goodIn_ca (goodIn_r _ [81, 82, 25, 27, 26, 83, 84, 85, 86, 87, 88, 46, 47, 13, 48, 49, 50, 51, 52, 53, 54, 55, 56, 89, 90, 91, 92, 93, 94, 95, 96, 97, 98, 99, 100, 205, 206, 207, 208, 209, 210, 211, 212, 213, 221, 222, 223, 224, 225, 231, 232, 226, 227, 228, 229, 230, 197, 198, 199, 200, 201, 202, 203, 204] (by decide +kernel) (by decide +kernel)) (goodIn_sub (fun _ h => List.mem_cons_of_mem _ (List.mem_append_right _ h)) (by decide +kernel))
set_option maxRecDepth 20000 in
theorem gX7_join_X7_orderForJoining : GoodIn wsX7_join (wsV RX7 167 RX7 yX7_orderForJoining wsX7_orderForJoining) := goodIn_app (goodIn_of _ (by decide +kernel)) ggX7_join_X7_orderForJoining
set_option maxRecDepth 20000 in
theorem ggX7_join_X7_enterInOrder : GoodIn wsX7_join wsX7_enterInOrder := goodIn_ca (goodIn_r _ [104, 82, 105, 27, 6, 26, 28, 106, 107, 108, 86, 109, 88, 100, 110, 111, 112, 13, 113, 25, 46, 47, 48, 49, 50, 51, 52, 53, 54, 55, 56, 114, 115, 116, 33, 117, 37, 41, 74, 75, 76, 77, 39, 40, 118, 119, 120, 121, 122, 123, 124, 125, 35, 126, 127, 128, 129, 70, 71, 72, 73, 130, 131, 132, 133, 134, 135, 136, 137, 62, 61, 138, 139, 140, 141, 142, 143, 144, 145, 146, 147, 148, 149, 150, 57, 58, 59, 60, 63, 64, 65, 66, 67, 68, 69, 205, 206, 207, 208, 209, 210, 211, 212, 213, 231, 232, 221, 222, 223, 224, 225, 226, 227, 228, 229, 230, 214, 215, 216, 217, 218, 219, 220] (by decide +kernel) (by decide +kernel)) (goodIn_sub (fun _ h => List.mem_cons_of_mem _ (List.mem_append_right _ h)) (by decide +kernel))
set_option maxRecDepth 20000 in
theorem gX7_join_X7_enterInOrder : GoodIn wsX7_join (wsV RX7 147 RX7 yX7_enterInOrder wsX7_enterInOrder) := goodIn_app (goodIn_of _ (by decide +kernel)) ggX7_join_X7_enterInOrder
set_option maxRecDepth 20000 in
theorem ggX7_join_X7_rememberAll_ : GoodIn wsX7_join wsX7_rememberAll_ := goodIn_ca (goodIn_r _ [154, 25, 46, 47, 13, 48, 49, 50, 51, 52, 53, 54, 55, 56, 155, 156, 157, 158, 159, 160, 161, 162, 163, 164, 165, 166, 29, 26, 167, 168, 169, 170, 171, 172, 173, 174, 175, 176, 177, 178, 179, 180, 65, 181, 182, 183, 184, 205, 206, 207, 208, 209, 210, 211, 212, 213, 226, 227, 228, 229, 230, 221, 222, 223, 224, 225, 197, 198, 199, 200, 201, 202, 203, 204, 233, 234, 235, 236, 237, 238] (by decide +kernel) (by decide +kernel)) (goodIn_sub (fun _ h => List.mem_cons_of_mem _ (List.mem_append_right _ h)) (by decide +kernel))
set_option maxRecDepth 20000 in
theorem gX7_join_X7_rememberAll_ : GoodIn wsX7_join (wsV RX7 171 RX7 yX7_rememberAll_ wsX7_rememberAll_) := goodIn_app (goodIn_of _ (by decide +kernel)) ggX7_join_X7_rememberAll_
set_option maxRecDepth 20000 in
theorem ggX7_join_X7_moveDoors : GoodIn wsX7_join wsX7_moveDoors := goodIn_ca (goodIn_r _ [188, 25, 159, 27, 5, 6, 26, 29, 46, 47, 13, 48, 49, 50, 51, 52, 53, 54, 55, 56, 189, 190, 191, 192, 193, 194, 195, 33, 196, 35, 67, 68, 69, 205, 206, 207, 208, 209, 210, 211, 212, 213, 221, 222, 223, 224, 225, 197, 198, 199, 200, 201, 202, 203, 204, 226, 227, 228, 229, 230, 214, 215, 216, 217, 218, 219, 220] (by decide +kernel) (by decide +kernel)) (goodIn_sub (fun _ h => List.mem_cons_of_mem _ (List.mem_append_right _ h)) (by decide +kernel))
set_option maxRecDepth 20000 in
theorem gX7_join_X7_moveDoors : GoodIn wsX7_join (wsV RX7 173 RX7 yX7_moveDoors wsX7_moveDoors) := goodIn_app (goodIn_of _ (by decide +kernel)) ggX7_join_X7_moveDoors
theorem dX7_join_0 : decode cX7_join 0 = .ok (.aload_n 0, 1) := by decide +kernel
theorem dX7_join_1 : decode cX7_join 1 = .ok (.iload_n 1, 1) := by decide +kernel
theorem dX7_join_2 : decode cX7_join 2 = .ok (.invokevirtual 78, 3) := by decide +kernel
theorem dX7_join_5 : decode cX7_join 5 = .ok (.astore_n 3, 1) := by decide +kernel
theorem dX7_join_6 : decode cX7_join 6 = .ok (.aload_n 0, 1) := by decide +kernel
theorem dX7_join_7 : decode cX7_join 7 = .ok (.iload_n 2, 1) := by decide +kernel
theorem dX7_join_8 : decode cX7_join 8 = .ok (.invokevirtual 78, 3) := by decide +kernel
theorem dX7_join_11 : decode cX7_join 11 = .ok (.astore 4, 2) := by decide +kernel
theorem dX7_join_13 : decode cX7_join 13 = .ok (.aload_n 3, 1) := by decide +kernel
theorem dX7_join_14 : decode cX7_join 14 = .ok (.getfield 136, 3) := by decide +kernel
theorem dX7_join_17 : decode cX7_join 17 = .ok (.aload 4, 2) := by decide +kernel
theorem dX7_join_19 : decode cX7_join 19 = .ok (.getfield 136, 3) := by decide +kernel
theorem dX7_join_22 : decode cX7_join 22 = .ok (.iadd, 1) := by decide +kernel
theorem dX7_join_23 : decode cX7_join 23 = .ok (.istore 5, 2) := by decide +kernel
theorem dX7_join_25 : decode cX7_join 25 = .ok (.aload_n 3, 1) := by decide +kernel
theorem dX7_join_26 : decode cX7_join 26 = .ok (.aload 4, 2) := by decide +kernel
theorem dX7_join_28 : decode cX7_join 28 = .ok (.if_acmp .eq 11, 3) := by decide +kernel
theorem dX7_join_31 : decode cX7_join 31 = .ok (.iload 5, 2) := by decide +kernel
theorem dX7_join_33 : decode cX7_join 33 = .ok (.sipush 999, 3) := by decide +kernel
theorem dX7_join_36 : decode cX7_join 36 = .ok (.if_icmp .le 13, 3) := by decide +kernel
theorem dX7_join_39 : decode cX7_join 39 = .ok (.new 58, 3) := by decide +kernel
theorem dX7_join_42 : decode cX7_join 42 = .ok (.dup, 1) := by decide +kernel
theorem dX7_join_43 : decode cX7_join 43 = .ok (.ldc 161, 2) := by decide +kernel
theorem dX7_join_45 : decode cX7_join 45 = .ok (.invokespecial 62, 3) := by decide +kernel
theorem dX7_join_48 : decode cX7_join 48 = .ok (.athrow, 1) := by decide +kernel
theorem dX7_join_49 : decode cX7_join 49 = .ok (.aload_n 0, 1) := by decide +kernel
theorem dX7_join_50 : decode cX7_join 50 = .ok (.aload_n 3, 1) := by decide +kernel
theorem dX7_join_51 : decode cX7_join 51 = .ok (.iload 5, 2) := by decide +kernel
theorem dX7_join_53 : decode cX7_join 53 = .ok (.invokevirtual 163, 3) := by decide +kernel
theorem dX7_join_56 : decode cX7_join 56 = .ok (.aload_n 0, 1) := by decide +kernel
theorem dX7_join_57 : decode cX7_join 57 = .ok (.aload_n 3, 1) := by decide +kernel
theorem dX7_join_58 : decode cX7_join 58 = .ok (.aload 4, 2) := by decide +kernel
theorem dX7_join_60 : decode cX7_join 60 = .ok (.invokevirtual 167, 3) := by decide +kernel
theorem dX7_join_63 : decode cX7_join 63 = .ok (.aload_n 0, 1) := by decide +kernel
theorem dX7_join_64 : decode cX7_join 64 = .ok (.aload 4, 2) := by decide +kernel
theorem dX7_join_66 : decode cX7_join 66 = .ok (.aload_n 3, 1) := by decide +kernel
theorem dX7_join_67 : decode cX7_join 67 = .ok (.getfield 136, 3) := by decide +kernel
theorem dX7_join_70 : decode cX7_join 70 = .ok (.invokevirtual 147, 3) := by decide +kernel
theorem dX7_join_73 : decode cX7_join 73 = .ok (.ifCond .ne 13, 3) := by decide +kernel
theorem dX7_join_76 : decode cX7_join 76 = .ok (.new 86, 3) := by decide +kernel
theorem dX7_join_79 : decode cX7_join 79 = .ok (.dup, 1) := by decide +kernel
theorem dX7_join_80 : decode cX7_join 80 = .ok (.ldc 151, 2) := by decide +kernel
theorem dX7_join_82 : decode cX7_join 82 = .ok (.invokespecial 90, 3) := by decide +kernel
theorem dX7_join_85 : decode cX7_join 85 = .ok (.athrow, 1) := by decide +kernel
theorem dX7_join_86 : decode cX7_join 86 = .ok (.aload_n 0, 1) := by decide +kernel
theorem dX7_join_87 : decode cX7_join 87 = .ok (.aload 4, 2) := by decide +kernel
theorem dX7_join_89 : decode cX7_join 89 = .ok (.invokevirtual 171, 3) := by decide +kernel
theorem dX7_join_92 : decode cX7_join 92 = .ok (.aload_n 0, 1) := by decide +kernel
theorem dX7_join_93 : decode cX7_join 93 = .ok (.aload_n 3, 1) := by decide +kernel
theorem dX7_join_94 : decode cX7_join 94 = .ok (.aload 4, 2) := by decide +kernel
theorem dX7_join_96 : decode cX7_join 96 = .ok (.invokevirtual 173, 3) := by decide +kernel
theorem dX7_join_99 : decode cX7_join 99 = .ok (.aload_n 3, 1) := by decide +kernel
theorem dX7_join_100 : decode cX7_join 100 = .ok (.aload_n 0, 1) := by decide +kernel
theorem dX7_join_101 : decode cX7_join 101 = .ok (.getfield 31, 3) := by decide +kernel
theorem dX7_join_104 : decode cX7_join 104 = .ok (.getfield 153, 3) := by decide +kernel
theorem dX7_join_107 : decode cX7_join 107 = .ok (.putfield 156, 3) := by decide +kernel
theorem dX7_join_110 : decode cX7_join 110 = .ok (.aload_n 3, 1) := by decide +kernel
theorem dX7_join_111 : decode cX7_join 111 = .ok (.iload 5, 2) := by decide +kernel
theorem dX7_join_113 : decode cX7_join 113 = .ok (.putfield 136, 3) := by decide +kernel
theorem dX7_join_116 : decode cX7_join 116 = .ok (.aload 4, 2) := by decide +kernel
theorem dX7_join_118 : decode cX7_join 118 = .ok (.iconst 1, 1) := by decide +kernel
theorem dX7_join_119 : decode cX7_join 119 = .ok (.putfield 176, 3) := by decide +kernel
theorem dX7_join_122 : decode cX7_join 122 = .ok (.iload 5, 2) := by decide +kernel
theorem dX7_join_124 : decode cX7_join 124 = .ok (.ireturn, 1) := by decide +kernel
set_option maxRecDepth 20000 in
theorem ggX7_streets_X7_isStanding : GoodIn wsX7_streets wsX7_isStanding := goodIn_r _ [5, 6, 16, 17, 18, 19, 20, 21, 22, 23] (by decide +kernel) (by decide +kernel)
set_option maxRecDepth 20000 in
theorem gX7_streets_X7_isStanding : GoodIn wsX7_streets (va_wsS RX7 179 yX7_isStanding wsX7_isStanding) := goodIn_app (goodIn_of _ (by decide +kernel)) ggX7_streets_X7_isStanding
theorem dX7_streets_0 : decode cX7_streets 0 = .ok (.iconst 0, 1) := by decide +kernel
theorem dX7_streets_1 : decode cX7_streets 1 = .ok (.istore_n 1, 1) := by decide +kernel
theorem dX7_streets_2 : decode cX7_streets 2 = .ok (.aload_n 0, 1) := by decide +kernel
theorem dX7_streets_3 : decode cX7_streets 3 = .ok (.getfield 11, 3) := by decide +kernel
theorem dX7_streets_6 : decode cX7_streets 6 = .ok (.astore_n 2, 1) := by decide +kernel
theorem dX7_streets_7 : decode cX7_streets 7 = .ok (.aload_n 2, 1) := by decide +kernel
theorem dX7_streets_8 : decode cX7_streets 8 = .ok (.arraylength, 1) := by decide +kernel
theorem dX7_streets_9 : decode cX7_streets 9 = .ok (.istore_n 3, 1) := by decide +kernel
theorem dX7_streets_10 : decode cX7_streets 10 = .ok (.iconst 0, 1) := by decide +kernel
theorem dX7_streets_11 : decode cX7_streets 11 = .ok (.istore 4, 2) := by decide +kernel
theorem dX7_streets_13 : decode cX7_streets 13 = .ok (.iload 4, 2) := by decide +kernel
theorem dX7_streets_15 : decode cX7_streets 15 = .ok (.iload_n 3, 1) := by decide +kernel
theorem dX7_streets_16 : decode cX7_streets 16 = .ok (.if_icmp .ge 26, 3) := by decide +kernel
theorem dX7_streets_19 : decode cX7_streets 19 = .ok (.aload_n 2, 1) := by decide +kernel
theorem dX7_streets_20 : decode cX7_streets 20 = .ok (.iload 4, 2) := by decide +kernel
theorem dX7_streets_22 : decode cX7_streets 22 = .ok (.aaload, 1) := by decide +kernel
theorem dX7_streets_23 : decode cX7_streets 23 = .ok (.astore 5, 2) := by decide +kernel
theorem dX7_streets_25 : decode cX7_streets 25 = .ok (.aload 5, 2) := by decide +kernel
theorem dX7_streets_27 : decode cX7_streets 27 = .ok (.invokestatic 179, 3) := by decide +kernel
theorem dX7_streets_30 : decode cX7_streets 30 = .ok (.ifCond .eq 6, 3) := by decide +kernel
theorem dX7_streets_33 : decode cX7_streets 33 = .ok (.iinc 1 1, 3) := by decide +kernel
theorem dX7_streets_36 : decode cX7_streets 36 = .ok (.iinc 4 1, 3) := by decide +kernel
theorem dX7_streets_39 : decode cX7_streets 39 = .ok (.goto (-26), 3) := by decide +kernel
theorem dX7_streets_42 : decode cX7_streets 42 = .ok (.iload_n 1, 1) := by decide +kernel
theorem dX7_streets_43 : decode cX7_streets 43 = .ok (.ireturn, 1) := by decide +kernel
set_option maxRecDepth 20000 in
theorem ggX7_door_X7_standing : GoodIn wsX7_door wsX7_standing := goodIn_ca (goodIn_r _ [17, 18, 19, 20, 21, 22, 16, 23, 24, 154, 155, 156, 157, 158, 159, 160, 161, 162, 173, 174, 175, 176, 177, 178, 179, 180] (by decide +kernel) (by decide +kernel)) (goodIn_sub (fun _ h => List.mem_cons_of_mem _ (List.mem_append_left _ (List.mem_append_right _ h))) (by decide +kernel))
set_option maxRecDepth 20000 in
theorem gX7_door_X7_standing : GoodIn wsX7_door (wsV RX7 78 RX7 yX7_standing wsX7_standing) := goodIn_app (goodIn_of _ (by decide +kernel)) ggX7_door_X7_standing
set_option maxRecDepth 20000 in
theorem ggX7_door_X7_isPlace : GoodIn wsX7_door wsX7_isPlace := goodIn_r _ [27, 28, 173, 174, 175, 176, 177, 178, 179, 180] (by decide +kernel) (by decide +kernel)
set_option maxRecDepth 20000 in
theorem gX7_door_X7_isPlace : GoodIn wsX7_door (va_wsS RX7 183 yX7_isPlace wsX7_isPlace) := goodIn_app (goodIn_of _ (by decide +kernel)) ggX7_door_X7_isPlace
set_option maxRecDepth 20000 in
theorem ggX7_door_X7_arrival : GoodIn wsX7_door wsX7_arrival := goodIn_ca (goodIn_r _ [32, 28, 33, 34, 35, 36, 37, 38, 39, 16, 40, 41, 8, 42, 43, 44, 12, 45, 46, 47, 48, 49, 50, 51, 52, 53, 54, 55, 56, 57, 58, 59, 60, 61, 62, 63, 64, 65, 66, 11, 67, 68, 69, 70, 71, 72, 73, 74, 75, 76, 77, 78, 79, 80, 81, 82, 83, 84, 85, 86, 87, 88, 89, 90, 91, 92, 93, 94, 95, 96, 97, 98, 99, 100, 101, 102, 103, 104, 105, 106, 107, 108, 109, 110, 111, 112, 113, 114, 115, 116, 117, 118, 119, 120, 121, 122, 123, 124, 125, 126, 127, 128, 129, 130, 131, 132, 133, 134, 135, 136, 137, 138, 139, 173, 174, 175, 176, 177, 178, 179, 180, 154, 155, 156, 157, 158, 159, 160, 161, 162, 168, 169, 170, 171, 172, 181, 182, 183, 184, 185, 186, 187, 163, 164, 165, 166, 167] (by decide +kernel) (by decide +kernel)) (goodIn_sub (fun _ h => List.mem_cons_of_mem _ (List.mem_append_right _ h)) (by decide +kernel))
set_option maxRecDepth 20000 in
theorem gX7_door_X7_arrival : GoodIn wsX7_door (wsV RX7 189 RX7 yX7_arrival wsX7_arrival) := goodIn_app (goodIn_of _ (by decide +kernel)) ggX7_door_X7_arrival
set_option maxRecDepth 20000 in
theorem ggX7_door_X0_init : GoodIn wsX7_door wsX0_init := goodIn_r _ [142, 143, 133, 134, 144, 68, 70, 145, 146, 163, 164, 165, 166, 167] (by decide +kernel) (by decide +kernel)
set_option maxRecDepth 20000 in
theorem gX7_door_X0_init : GoodIn wsX7_door (wsX0_init) := ggX7_door_X0_init
set_option maxRecDepth 20000 in
theorem ggX7_door_X6_notice : GoodIn wsX7_door wsX6_notice := goodIn_r _ [151, 152, 153, 78, 79, 80, 173, 174, 175, 176, 177, 178, 179, 180] (by decide +kernel) (by decide +kernel)
set_option maxRecDepth 20000 in
theorem gX7_door_X6_notice : GoodIn wsX7_door (wsV RX7 205 RX6 yX6_notice wsX6_notice) := goodIn_app (goodIn_of _ (by decide +kernel)) ggX7_door_X6_notice
theorem dX7_door_0 : decode cX7_door 0 = .ok (.aload_n 0, 1) := by decide +kernel
theorem dX7_door_1 : decode cX7_door 1 = .ok (.iload_n 1, 1) := by decide +kernel
theorem dX7_door_2 : decode cX7_door 2 = .ok (.invokevirtual 78, 3) := by decide +kernel
theorem dX7_door_5 : decode cX7_door 5 = .ok (.astore 4, 2) := by decide +kernel
theorem dX7_door_7 : decode cX7_door 7 = .ok (.aload 4, 2) := by decide +kernel
theorem dX7_door_9 : decode cX7_door 9 = .ok (.iload_n 2, 1) := by decide +kernel
theorem dX7_door_10 : decode cX7_door 10 = .ok (.iload_n 3, 1) := by decide +kernel
theorem dX7_door_11 : decode cX7_door 11 = .ok (.invokestatic 183, 3) := by decide +kernel
theorem dX7_door_14 : decode cX7_door 14 = .ok (.ifCond .ne 13, 3) := by decide +kernel
theorem dX7_door_17 : decode cX7_door 17 = .ok (.new 58, 3) := by decide +kernel
theorem dX7_door_20 : decode cX7_door 20 = .ok (.dup, 1) := by decide +kernel
theorem dX7_door_21 : decode cX7_door 21 = .ok (.ldc 187, 2) := by decide +kernel
theorem dX7_door_23 : decode cX7_door 23 = .ok (.invokespecial 62, 3) := by decide +kernel
theorem dX7_door_26 : decode cX7_door 26 = .ok (.athrow, 1) := by decide +kernel
theorem dX7_door_27 : decode cX7_door 27 = .ok (.aload_n 0, 1) := by decide +kernel
theorem dX7_door_28 : decode cX7_door 28 = .ok (.getfield 46, 3) := by decide +kernel
theorem dX7_door_31 : decode cX7_door 31 = .ok (.istore 5, 2) := by decide +kernel
theorem dX7_door_33 : decode cX7_door 33 = .ok (.aload_n 0, 1) := by decide +kernel
theorem dX7_door_34 : decode cX7_door 34 = .ok (.iload 5, 2) := by decide +kernel
theorem dX7_door_36 : decode cX7_door 36 = .ok (.aload 4, 2) := by decide +kernel
theorem dX7_door_38 : decode cX7_door 38 = .ok (.iload_n 2, 1) := by decide +kernel
theorem dX7_door_39 : decode cX7_door 39 = .ok (.iload_n 3, 1) := by decide +kernel
theorem dX7_door_40 : decode cX7_door 40 = .ok (.invokevirtual 189, 3) := by decide +kernel
theorem dX7_door_43 : decode cX7_door 43 = .ok (.astore 6, 2) := by decide +kernel
theorem dX7_door_45 : decode cX7_door 45 = .ok (.aload 6, 2) := by decide +kernel
theorem dX7_door_47 : decode cX7_door 47 = .ok (.ifnonnull 13, 3) := by decide +kernel
theorem dX7_door_50 : decode cX7_door 50 = .ok (.new 86, 3) := by decide +kernel
theorem dX7_door_53 : decode cX7_door 53 = .ok (.dup, 1) := by decide +kernel
theorem dX7_door_54 : decode cX7_door 54 = .ok (.ldc 193, 2) := by decide +kernel
theorem dX7_door_56 : decode cX7_door 56 = .ok (.invokespecial 90, 3) := by decide +kernel
theorem dX7_door_59 : decode cX7_door 59 = .ok (.athrow, 1) := by decide +kernel
theorem dX7_door_60 : decode cX7_door 60 = .ok (.iload 5, 2) := by decide +kernel
theorem dX7_door_62 : decode cX7_door 62 = .ok (.ifCond .lt 13, 3) := by decide +kernel
theorem dX7_door_65 : decode cX7_door 65 = .ok (.iload 5, 2) := by decide +kernel
theorem dX7_door_67 : decode cX7_door 67 = .ok (.aload_n 0, 1) := by decide +kernel
theorem dX7_door_68 : decode cX7_door 68 = .ok (.getfield 17, 3) := by decide +kernel
theorem dX7_door_71 : decode cX7_door 71 = .ok (.arraylength, 1) := by decide +kernel
theorem dX7_door_72 : decode cX7_door 72 = .ok (.if_icmp .lt 13, 3) := by decide +kernel
theorem dX7_door_75 : decode cX7_door 75 = .ok (.new 69, 3) := by decide +kernel
theorem dX7_door_78 : decode cX7_door 78 = .ok (.dup, 1) := by decide +kernel
theorem dX7_door_79 : decode cX7_door 79 = .ok (.ldc 195, 2) := by decide +kernel
theorem dX7_door_81 : decode cX7_door 81 = .ok (.invokespecial 73, 3) := by decide +kernel
theorem dX7_door_84 : decode cX7_door 84 = .ok (.athrow, 1) := by decide +kernel
theorem dX7_door_85 : decode cX7_door 85 = .ok (.aload_n 0, 1) := by decide +kernel
theorem dX7_door_86 : decode cX7_door 86 = .ok (.getfield 17, 3) := by decide +kernel
theorem dX7_door_89 : decode cX7_door 89 = .ok (.iload 5, 2) := by decide +kernel
theorem dX7_door_91 : decode cX7_door 91 = .ok (.new 15, 3) := by decide +kernel
theorem dX7_door_94 : decode cX7_door 94 = .ok (.dup, 1) := by decide +kernel
theorem dX7_door_95 : decode cX7_door 95 = .ok (.iload 5, 2) := by decide +kernel
theorem dX7_door_97 : decode cX7_door 97 = .ok (.aload 6, 2) := by decide +kernel
theorem dX7_door_99 : decode cX7_door 99 = .ok (.invokespecial 197, 3) := by decide +kernel
theorem dX7_door_102 : decode cX7_door 102 = .ok (.aastore, 1) := by decide +kernel
theorem dX7_door_103 : decode cX7_door 103 = .ok (.aload_n 0, 1) := by decide +kernel
theorem dX7_door_104 : decode cX7_door 104 = .ok (.iload 5, 2) := by decide +kernel
theorem dX7_door_106 : decode cX7_door 106 = .ok (.iconst 1, 1) := by decide +kernel
theorem dX7_door_107 : decode cX7_door 107 = .ok (.iadd, 1) := by decide +kernel
theorem dX7_door_108 : decode cX7_door 108 = .ok (.putfield 46, 3) := by decide +kernel
theorem dX7_door_111 : decode cX7_door 111 = .ok (.aload 4, 2) := by decide +kernel
theorem dX7_door_113 : decode cX7_door 113 = .ok (.aload 6, 2) := by decide +kernel
theorem dX7_door_115 : decode cX7_door 115 = .ok (.getfield 200, 3) := by decide +kernel
theorem dX7_door_118 : decode cX7_door 118 = .ok (.invokevirtual 205, 3) := by decide +kernel
theorem dX7_door_121 : decode cX7_door 121 = .ok (.iload 5, 2) := by decide +kernel
theorem dX7_door_123 : decode cX7_door 123 = .ok (.ireturn, 1) := by decide +kernel
set_option maxRecDepth 20000 in
theorem ggX7_corner_X7_known : GoodIn wsX7_corner wsX7_known := goodIn_ca (goodIn_r _ [12, 13, 14, 15, 16, 17, 11, 18, 19, 162, 163, 164, 165, 166, 167, 168, 169, 170] (by decide +kernel) (by decide +kernel)) (goodIn_sub (fun _ h => List.mem_cons_of_mem _ (List.mem_append_left _ (List.mem_append_right _ h))) (by decide +kernel))
set_option maxRecDepth 20000 in
theorem gX7_corner_X7_known : GoodIn wsX7_corner (wsV RX7 209 RX7 yX7_known wsX7_known) := goodIn_app (goodIn_of _ (by decide +kernel)) ggX7_corner_X7_known
set_option maxRecDepth 20000 in
theorem ggX7_corner_X7_standing : GoodIn wsX7_corner wsX7_standing := goodIn_ca (goodIn_r _ [23, 13, 14, 24, 25, 26, 11, 27, 28, 162, 163, 164, 165, 166, 167, 168, 169, 170, 171, 172, 173, 174, 175, 176, 177, 178] (by decide +kernel) (by decide +kernel)) (goodIn_sub (fun _ h => List.mem_cons_of_mem _ (List.mem_append_left _ (List.mem_append_right _ h))) (by decide +kernel))
set_option maxRecDepth 20000 in
theorem gX7_corner_X7_standing : GoodIn wsX7_corner (wsV RX7 78 RX7 yX7_standing wsX7_standing) := goodIn_app (goodIn_of _ (by decide +kernel)) ggX7_corner_X7_standing
set_option maxRecDepth 20000 in
theorem ggX7_corner_X7_isPlace : GoodIn wsX7_corner wsX7_isPlace := goodIn_r _ [31, 32, 171, 172, 173, 174, 175, 176, 177, 178] (by decide +kernel) (by decide +kernel)
set_option maxRecDepth 20000 in
theorem gX7_corner_X7_isPlace : GoodIn wsX7_corner (va_wsS RX7 183 yX7_isPlace wsX7_isPlace) := goodIn_app (goodIn_of _ (by decide +kernel)) ggX7_corner_X7_isPlace
set_option maxRecDepth 20000 in
theorem ggX7_corner_X0_placeOn : GoodIn wsX7_corner wsX0_placeOn := goodIn_r _ [37, 38, 39, 40, 152, 153, 154, 155, 156, 157, 158, 159, 160, 161] (by decide +kernel) (by decide +kernel)
set_option maxRecDepth 20000 in
theorem gX7_corner_X0_placeOn : GoodIn wsX7_corner (wsV RX7 218 RX0 yX0_placeOn wsX0_placeOn) := goodIn_app (goodIn_of _ (by decide +kernel)) ggX7_corner_X0_placeOn
set_option maxRecDepth 20000 in
theorem ggX7_corner_X7_arrival : GoodIn wsX7_corner wsX7_arrival := goodIn_ca (goodIn_r _ [44, 32, 45, 46, 47, 48, 49, 50, 51, 11, 52, 53, 19, 54, 55, 56, 7, 57, 58, 59, 60, 61, 62, 63, 64, 65, 66, 67, 68, 69, 70, 71, 72, 73, 74, 75, 33, 34, 35, 36, 37, 38, 39, 40, 76, 77, 78, 79, 80, 81, 82, 83, 84, 85, 86, 87, 88, 89, 90, 91, 92, 93, 94, 95, 96, 97, 98, 99, 100, 101, 102, 103, 104, 105, 106, 107, 108, 109, 110, 111, 112, 113, 114, 115, 116, 117, 118, 119, 120, 121, 122, 123, 124, 125, 126, 127, 128, 129, 130, 131, 132, 133, 134, 135, 136, 137, 138, 139, 140, 141, 142, 143, 144, 171, 172, 173, 174, 175, 176, 177, 178, 162, 163, 164, 165, 166, 167, 168, 169, 170, 157, 158, 159, 160, 161, 179, 180, 181, 182, 183, 184, 185, 152, 153, 154, 155, 156] (by decide +kernel) (by decide +kernel)) (goodIn_sub (fun _ h => List.mem_cons_of_mem _ (List.mem_append_right _ h)) (by decide +kernel))
set_option maxRecDepth 20000 in
theorem gX7_corner_X7_arrival : GoodIn wsX7_corner (wsV RX7 189 RX7 yX7_arrival wsX7_arrival) := goodIn_app (goodIn_of _ (by decide +kernel)) ggX7_corner_X7_arrival
set_option maxRecDepth 20000 in
theorem ggX7_corner_X6_notice : GoodIn wsX7_corner wsX6_notice := goodIn_r _ [149, 150, 151, 83, 84, 85, 171, 172, 173, 174, 175, 176, 177, 178] (by decide +kernel) (by decide +kernel)
set_option maxRecDepth 20000 in
theorem gX7_corner_X6_notice : GoodIn wsX7_corner (wsV RX7 205 RX6 yX6_notice wsX6_notice) := goodIn_app (goodIn_of _ (by decide +kernel)) ggX7_corner_X6_notice
theorem dX7_corner_0 : decode cX7_corner 0 = .ok (.aload_n 0, 1) := by decide +kernel
theorem dX7_corner_1 : decode cX7_corner 1 = .ok (.iload_n 1, 1) := by decide +kernel
theorem dX7_corner_2 : decode cX7_corner 2 = .ok (.invokevirtual 209, 3) := by decide +kernel
theorem dX7_corner_5 : decode cX7_corner 5 = .ok (.astore 5, 2) := by decide +kernel
theorem dX7_corner_7 : decode cX7_corner 7 = .ok (.aload_n 0, 1) := by decide +kernel
theorem dX7_corner_8 : decode cX7_corner 8 = .ok (.iload_n 2, 1) := by decide +kernel
theorem dX7_corner_9 : decode cX7_corner 9 = .ok (.invokevirtual 78, 3) := by decide +kernel
theorem dX7_corner_12 : decode cX7_corner 12 = .ok (.astore 6, 2) := by decide +kernel
theorem dX7_corner_14 : decode cX7_corner 14 = .ok (.aload 6, 2) := by decide +kernel
theorem dX7_corner_16 : decode cX7_corner 16 = .ok (.iload_n 3, 1) := by decide +kernel
theorem dX7_corner_17 : decode cX7_corner 17 = .ok (.iload 4, 2) := by decide +kernel
theorem dX7_corner_19 : decode cX7_corner 19 = .ok (.invokestatic 183, 3) := by decide +kernel
theorem dX7_corner_22 : decode cX7_corner 22 = .ok (.ifCond .ne 13, 3) := by decide +kernel
theorem dX7_corner_25 : decode cX7_corner 25 = .ok (.new 58, 3) := by decide +kernel
theorem dX7_corner_28 : decode cX7_corner 28 = .ok (.dup, 1) := by decide +kernel
theorem dX7_corner_29 : decode cX7_corner 29 = .ok (.ldc 187, 2) := by decide +kernel
theorem dX7_corner_31 : decode cX7_corner 31 = .ok (.invokespecial 62, 3) := by decide +kernel
theorem dX7_corner_34 : decode cX7_corner 34 = .ok (.athrow, 1) := by decide +kernel
theorem dX7_corner_35 : decode cX7_corner 35 = .ok (.aload 5, 2) := by decide +kernel
theorem dX7_corner_37 : decode cX7_corner 37 = .ok (.getfield 213, 3) := by decide +kernel
theorem dX7_corner_40 : decode cX7_corner 40 = .ok (.ifCond .ne 21, 3) := by decide +kernel
theorem dX7_corner_43 : decode cX7_corner 43 = .ok (.aload 5, 2) := by decide +kernel
theorem dX7_corner_45 : decode cX7_corner 45 = .ok (.getfield 214, 3) := by decide +kernel
theorem dX7_corner_48 : decode cX7_corner 48 = .ok (.ifnonnull 13, 3) := by decide +kernel
theorem dX7_corner_51 : decode cX7_corner 51 = .ok (.aload 5, 2) := by decide +kernel
theorem dX7_corner_53 : decode cX7_corner 53 = .ok (.aload 6, 2) := by decide +kernel
theorem dX7_corner_55 : decode cX7_corner 55 = .ok (.invokevirtual 218, 3) := by decide +kernel
theorem dX7_corner_58 : decode cX7_corner 58 = .ok (.ifnull 13, 3) := by decide +kernel
theorem dX7_corner_61 : decode cX7_corner 61 = .ok (.new 86, 3) := by decide +kernel
theorem dX7_corner_64 : decode cX7_corner 64 = .ok (.dup, 1) := by decide +kernel
theorem dX7_corner_65 : decode cX7_corner 65 = .ok (.ldc 222, 2) := by decide +kernel
theorem dX7_corner_67 : decode cX7_corner 67 = .ok (.invokespecial 90, 3) := by decide +kernel
theorem dX7_corner_70 : decode cX7_corner 70 = .ok (.athrow, 1) := by decide +kernel
theorem dX7_corner_71 : decode cX7_corner 71 = .ok (.aload_n 0, 1) := by decide +kernel
theorem dX7_corner_72 : decode cX7_corner 72 = .ok (.iload_n 1, 1) := by decide +kernel
theorem dX7_corner_73 : decode cX7_corner 73 = .ok (.aload 6, 2) := by decide +kernel
theorem dX7_corner_75 : decode cX7_corner 75 = .ok (.iload_n 3, 1) := by decide +kernel
theorem dX7_corner_76 : decode cX7_corner 76 = .ok (.iload 4, 2) := by decide +kernel
theorem dX7_corner_78 : decode cX7_corner 78 = .ok (.invokevirtual 189, 3) := by decide +kernel
theorem dX7_corner_81 : decode cX7_corner 81 = .ok (.astore 7, 2) := by decide +kernel
theorem dX7_corner_83 : decode cX7_corner 83 = .ok (.aload 7, 2) := by decide +kernel
theorem dX7_corner_85 : decode cX7_corner 85 = .ok (.ifnonnull 13, 3) := by decide +kernel
theorem dX7_corner_88 : decode cX7_corner 88 = .ok (.new 86, 3) := by decide +kernel
theorem dX7_corner_91 : decode cX7_corner 91 = .ok (.dup, 1) := by decide +kernel
theorem dX7_corner_92 : decode cX7_corner 92 = .ok (.ldc 193, 2) := by decide +kernel
theorem dX7_corner_94 : decode cX7_corner 94 = .ok (.invokespecial 90, 3) := by decide +kernel
theorem dX7_corner_97 : decode cX7_corner 97 = .ok (.athrow, 1) := by decide +kernel
theorem dX7_corner_98 : decode cX7_corner 98 = .ok (.aload 5, 2) := by decide +kernel
theorem dX7_corner_100 : decode cX7_corner 100 = .ok (.aload 7, 2) := by decide +kernel
theorem dX7_corner_102 : decode cX7_corner 102 = .ok (.putfield 214, 3) := by decide +kernel
theorem dX7_corner_105 : decode cX7_corner 105 = .ok (.aload 6, 2) := by decide +kernel
theorem dX7_corner_107 : decode cX7_corner 107 = .ok (.aload 7, 2) := by decide +kernel
theorem dX7_corner_109 : decode cX7_corner 109 = .ok (.getfield 200, 3) := by decide +kernel
theorem dX7_corner_112 : decode cX7_corner 112 = .ok (.invokevirtual 205, 3) := by decide +kernel
theorem dX7_corner_115 : decode cX7_corner 115 = .ok (.aload 7, 2) := by decide +kernel
theorem dX7_corner_117 : decode cX7_corner 117 = .ok (.getfield 200, 3) := by decide +kernel
theorem dX7_corner_120 : decode cX7_corner 120 = .ok (.ireturn, 1) := by decide +kernel
set_option maxRecDepth 20000 in
theorem ggX7_merge_X7_known : GoodIn wsX7_merge wsX7_known := goodIn_ca (goodIn_r _ [11, 12, 13, 14, 15, 16, 10, 17, 18, 70, 71, 72, 73, 74, 75, 76, 77, 78] (by decide +kernel) (by decide +kernel)) (goodIn_sub (fun _ h => List.mem_cons_of_mem _ (List.mem_append_left _ (List.mem_append_right _ h))) (by decide +kernel))
set_option maxRecDepth 20000 in
theorem gX7_merge_X7_known : GoodIn wsX7_merge (wsV RX7 209 RX7 yX7_known wsX7_known) := goodIn_app (goodIn_of _ (by decide +kernel)) ggX7_merge_X7_known
set_option maxRecDepth 20000 in
theorem ggX7_merge_X7_letGo : GoodIn wsX7_merge wsX7_letGo := goodIn_ca (goodIn_r _ [22, 23, 24, 5, 25, 26, 27, 10, 28, 29, 30, 31, 32, 33, 34, 35, 36, 37, 38, 39, 40, 41, 42, 43, 44, 45, 46, 47, 48, 49, 50, 51, 52, 53, 54, 55, 56, 57, 65, 66, 67, 68, 69, 79, 80, 81, 82, 83, 84, 85, 86, 87, 88, 89, 90, 91, 70, 71, 72, 73, 74, 75, 76, 77, 78, 92, 93, 94, 95, 96, 97] (by decide +kernel) (by decide +kernel)) (goodIn_sub (fun _ h => List.mem_cons_of_mem _ (List.mem_append_right _ h)) (by decide +kernel))
set_option maxRecDepth 20000 in
theorem gX7_merge_X7_letGo : GoodIn wsX7_merge (wsV RX7 228 RX7 yX7_letGo wsX7_letGo) := goodIn_app (goodIn_of _ (by decide +kernel)) ggX7_merge_X7_letGo
set_option maxRecDepth 20000 in
theorem ggX7_merge_X7_leadingTo : GoodIn wsX7_merge wsX7_leadingTo := goodIn_r _ [61, 18, 62, 63, 10, 64, 5, 6, 70, 71, 72, 73, 74, 75, 76, 77, 78, 65, 66, 67, 68, 69] (by decide +kernel) (by decide +kernel)
set_option maxRecDepth 20000 in
theorem gX7_merge_X7_leadingTo : GoodIn wsX7_merge (wsV RX7 236 RX7 yX7_leadingTo wsX7_leadingTo) := goodIn_app (goodIn_of _ (by decide +kernel)) ggX7_merge_X7_leadingTo
theorem dX7_merge_0 : decode cX7_merge 0 = .ok (.aload_n 0, 1) := by decide +kernel
theorem dX7_merge_1 : decode cX7_merge 1 = .ok (.iload_n 1, 1) := by decide +kernel
theorem dX7_merge_2 : decode cX7_merge 2 = .ok (.invokevirtual 209, 3) := by decide +kernel
theorem dX7_merge_5 : decode cX7_merge 5 = .ok (.astore_n 3, 1) := by decide +kernel
theorem dX7_merge_6 : decode cX7_merge 6 = .ok (.aload_n 0, 1) := by decide +kernel
theorem dX7_merge_7 : decode cX7_merge 7 = .ok (.iload_n 2, 1) := by decide +kernel
theorem dX7_merge_8 : decode cX7_merge 8 = .ok (.invokevirtual 209, 3) := by decide +kernel
theorem dX7_merge_11 : decode cX7_merge 11 = .ok (.astore 4, 2) := by decide +kernel
theorem dX7_merge_13 : decode cX7_merge 13 = .ok (.aload_n 3, 1) := by decide +kernel
theorem dX7_merge_14 : decode cX7_merge 14 = .ok (.aload 4, 2) := by decide +kernel
theorem dX7_merge_16 : decode cX7_merge 16 = .ok (.if_acmp .ne 13, 3) := by decide +kernel
theorem dX7_merge_19 : decode cX7_merge 19 = .ok (.new 58, 3) := by decide +kernel
theorem dX7_merge_22 : decode cX7_merge 22 = .ok (.dup, 1) := by decide +kernel
theorem dX7_merge_23 : decode cX7_merge 23 = .ok (.ldc 224, 2) := by decide +kernel
theorem dX7_merge_25 : decode cX7_merge 25 = .ok (.invokespecial 62, 3) := by decide +kernel
theorem dX7_merge_28 : decode cX7_merge 28 = .ok (.athrow, 1) := by decide +kernel
theorem dX7_merge_29 : decode cX7_merge 29 = .ok (.aload_n 3, 1) := by decide +kernel
theorem dX7_merge_30 : decode cX7_merge 30 = .ok (.getfield 213, 3) := by decide +kernel
theorem dX7_merge_33 : decode cX7_merge 33 = .ok (.ifCond .ne 11, 3) := by decide +kernel
theorem dX7_merge_36 : decode cX7_merge 36 = .ok (.aload 4, 2) := by decide +kernel
theorem dX7_merge_38 : decode cX7_merge 38 = .ok (.getfield 213, 3) := by decide +kernel
theorem dX7_merge_41 : decode cX7_merge 41 = .ok (.ifCond .eq 13, 3) := by decide +kernel
theorem dX7_merge_44 : decode cX7_merge 44 = .ok (.new 86, 3) := by decide +kernel
theorem dX7_merge_47 : decode cX7_merge 47 = .ok (.dup, 1) := by decide +kernel
theorem dX7_merge_48 : decode cX7_merge 48 = .ok (.ldc 226, 2) := by decide +kernel
theorem dX7_merge_50 : decode cX7_merge 50 = .ok (.invokespecial 90, 3) := by decide +kernel
theorem dX7_merge_53 : decode cX7_merge 53 = .ok (.athrow, 1) := by decide +kernel
theorem dX7_merge_54 : decode cX7_merge 54 = .ok (.aload_n 0, 1) := by decide +kernel
theorem dX7_merge_55 : decode cX7_merge 55 = .ok (.aload_n 3, 1) := by decide +kernel
theorem dX7_merge_56 : decode cX7_merge 56 = .ok (.invokevirtual 228, 3) := by decide +kernel
theorem dX7_merge_59 : decode cX7_merge 59 = .ok (.aload_n 3, 1) := by decide +kernel
theorem dX7_merge_60 : decode cX7_merge 60 = .ok (.aload 4, 2) := by decide +kernel
theorem dX7_merge_62 : decode cX7_merge 62 = .ok (.putfield 232, 3) := by decide +kernel
theorem dX7_merge_65 : decode cX7_merge 65 = .ok (.aload_n 0, 1) := by decide +kernel
theorem dX7_merge_66 : decode cX7_merge 66 = .ok (.aload 4, 2) := by decide +kernel
theorem dX7_merge_68 : decode cX7_merge 68 = .ok (.invokevirtual 236, 3) := by decide +kernel
theorem dX7_merge_71 : decode cX7_merge 71 = .ok (.ireturn, 1) := by decide +kernel
set_option maxRecDepth 20000 in
theorem ggX7_remove_X7_known : GoodIn wsX7_remove wsX7_known := goodIn_ca (goodIn_r _ [10, 11, 12, 13, 14, 15, 9, 16, 17, 61, 62, 63, 64, 65, 66, 67, 68, 69] (by decide +kernel) (by decide +kernel)) (goodIn_sub (fun _ h => List.mem_cons_of_mem _ (List.mem_append_left _ (List.mem_append_right _ h))) (by decide +kernel))
set_option maxRecDepth 20000 in
theorem gX7_remove_X7_known : GoodIn wsX7_remove (wsV RX7 209 RX7 yX7_known wsX7_known) := goodIn_app (goodIn_of _ (by decide +kernel)) ggX7_remove_X7_known
set_option maxRecDepth 20000 in
theorem ggX7_remove_X7_letGo : GoodIn wsX7_remove wsX7_letGo := goodIn_ca (goodIn_r _ [21, 22, 23, 3, 24, 25, 26, 9, 27, 28, 29, 30, 31, 32, 33, 34, 4, 35, 36, 37, 38, 39, 40, 41, 42, 43, 44, 45, 46, 47, 48, 49, 50, 51, 52, 53, 54, 55, 56, 57, 58, 59, 60, 76, 77, 78, 79, 80, 81, 82, 83, 84, 85, 86, 87, 88, 61, 62, 63, 64, 65, 66, 67, 68, 69, 70, 71, 72, 73, 74, 75] (by decide +kernel) (by decide +kernel)) (goodIn_sub (fun _ h => List.mem_cons_of_mem _ (List.mem_append_right _ h)) (by decide +kernel))
set_option maxRecDepth 20000 in
theorem gX7_remove_X7_letGo : GoodIn wsX7_remove (wsV RX7 228 RX7 yX7_letGo wsX7_letGo) := goodIn_app (goodIn_of _ (by decide +kernel)) ggX7_remove_X7_letGo
theorem dX7_remove_0 : decode cX7_remove 0 = .ok (.aload_n 0, 1) := by decide +kernel
theorem dX7_remove_1 : decode cX7_remove 1 = .ok (.iload_n 1, 1) := by decide +kernel
theorem dX7_remove_2 : decode cX7_remove 2 = .ok (.invokevirtual 209, 3) := by decide +kernel
theorem dX7_remove_5 : decode cX7_remove 5 = .ok (.astore_n 2, 1) := by decide +kernel
theorem dX7_remove_6 : decode cX7_remove 6 = .ok (.aload_n 2, 1) := by decide +kernel
theorem dX7_remove_7 : decode cX7_remove 7 = .ok (.getfield 213, 3) := by decide +kernel
theorem dX7_remove_10 : decode cX7_remove 10 = .ok (.ifCond .eq 13, 3) := by decide +kernel
theorem dX7_remove_13 : decode cX7_remove 13 = .ok (.new 86, 3) := by decide +kernel
theorem dX7_remove_16 : decode cX7_remove 16 = .ok (.dup, 1) := by decide +kernel
theorem dX7_remove_17 : decode cX7_remove 17 = .ok (.ldc 240, 2) := by decide +kernel
theorem dX7_remove_19 : decode cX7_remove 19 = .ok (.invokespecial 90, 3) := by decide +kernel
theorem dX7_remove_22 : decode cX7_remove 22 = .ok (.athrow, 1) := by decide +kernel
theorem dX7_remove_23 : decode cX7_remove 23 = .ok (.aload_n 0, 1) := by decide +kernel
theorem dX7_remove_24 : decode cX7_remove 24 = .ok (.aload_n 2, 1) := by decide +kernel
theorem dX7_remove_25 : decode cX7_remove 25 = .ok (.invokevirtual 228, 3) := by decide +kernel
theorem dX7_remove_28 : decode cX7_remove 28 = .ok (.aload_n 0, 1) := by decide +kernel
theorem dX7_remove_29 : decode cX7_remove 29 = .ok (.getfield 24, 3) := by decide +kernel
theorem dX7_remove_32 : decode cX7_remove 32 = .ok (.getfield 98, 3) := by decide +kernel
theorem dX7_remove_35 : decode cX7_remove 35 = .ok (.ireturn, 1) := by decide +kernel
set_option maxRecDepth 20000 in
theorem ggX7_address_X7_known : GoodIn wsX7_address wsX7_known := goodIn_ca (goodIn_r _ [10, 11, 12, 13, 14, 15, 9, 16, 17, 28, 29, 30, 31, 32, 33, 34, 35, 36] (by decide +kernel) (by decide +kernel)) (goodIn_sub (fun _ h => List.mem_cons_of_mem _ (List.mem_append_right _ h)) (by decide +kernel))
set_option maxRecDepth 20000 in
theorem gX7_address_X7_known : GoodIn wsX7_address (wsV RX7 209 RX7 yX7_known wsX7_known) := goodIn_app (goodIn_of _ (by decide +kernel)) ggX7_address_X7_known
theorem dX7_address_0 : decode cX7_address 0 = .ok (.aload_n 0, 1) := by decide +kernel
theorem dX7_address_1 : decode cX7_address 1 = .ok (.iload_n 1, 1) := by decide +kernel
theorem dX7_address_2 : decode cX7_address 2 = .ok (.invokevirtual 209, 3) := by decide +kernel
theorem dX7_address_5 : decode cX7_address 5 = .ok (.astore_n 3, 1) := by decide +kernel
theorem dX7_address_6 : decode cX7_address 6 = .ok (.iload_n 2, 1) := by decide +kernel
theorem dX7_address_7 : decode cX7_address 7 = .ok (.ifCond .eq 10, 3) := by decide +kernel
theorem dX7_address_10 : decode cX7_address 10 = .ok (.aload_n 3, 1) := by decide +kernel
theorem dX7_address_11 : decode cX7_address 11 = .ok (.getfield 214, 3) := by decide +kernel
theorem dX7_address_14 : decode cX7_address 14 = .ok (.goto 7, 3) := by decide +kernel
theorem dX7_address_17 : decode cX7_address 17 = .ok (.aload_n 3, 1) := by decide +kernel
theorem dX7_address_18 : decode cX7_address 18 = .ok (.getfield 242, 3) := by decide +kernel
theorem dX7_address_21 : decode cX7_address 21 = .ok (.astore 4, 2) := by decide +kernel
theorem dX7_address_23 : decode cX7_address 23 = .ok (.aload 4, 2) := by decide +kernel
theorem dX7_address_25 : decode cX7_address 25 = .ok (.ifnonnull 13, 3) := by decide +kernel
theorem dX7_address_28 : decode cX7_address 28 = .ok (.new 106, 3) := by decide +kernel
theorem dX7_address_31 : decode cX7_address 31 = .ok (.dup, 1) := by decide +kernel
theorem dX7_address_32 : decode cX7_address 32 = .ok (.ldc 245, 2) := by decide +kernel
theorem dX7_address_34 : decode cX7_address 34 = .ok (.invokespecial 110, 3) := by decide +kernel
theorem dX7_address_37 : decode cX7_address 37 = .ok (.athrow, 1) := by decide +kernel
theorem dX7_address_38 : decode cX7_address 38 = .ok (.aload 4, 2) := by decide +kernel
theorem dX7_address_40 : decode cX7_address 40 = .ok (.getfield 200, 3) := by decide +kernel
theorem dX7_address_43 : decode cX7_address 43 = .ok (.ireturn, 1) := by decide +kernel
set_option maxRecDepth 20000 in
theorem ggX7_streetOf_X7_known : GoodIn wsX7_streetOf wsX7_known := goodIn_ca (goodIn_r _ [11, 12, 13, 14, 15, 16, 10, 17, 18, 37, 38, 39, 40, 41, 42, 43, 44, 45] (by decide +kernel) (by decide +kernel)) (goodIn_sub (fun _ h => List.mem_cons_of_mem _ (List.mem_append_right _ h)) (by decide +kernel))
set_option maxRecDepth 20000 in
theorem gX7_streetOf_X7_known : GoodIn wsX7_streetOf (wsV RX7 209 RX7 yX7_known wsX7_known) := goodIn_app (goodIn_of _ (by decide +kernel)) ggX7_streetOf_X7_known
theorem dX7_streetOf_0 : decode cX7_streetOf 0 = .ok (.aload_n 0, 1) := by decide +kernel
theorem dX7_streetOf_1 : decode cX7_streetOf 1 = .ok (.iload_n 1, 1) := by decide +kernel
theorem dX7_streetOf_2 : decode cX7_streetOf 2 = .ok (.invokevirtual 209, 3) := by decide +kernel
theorem dX7_streetOf_5 : decode cX7_streetOf 5 = .ok (.astore_n 3, 1) := by decide +kernel
theorem dX7_streetOf_6 : decode cX7_streetOf 6 = .ok (.iload_n 2, 1) := by decide +kernel
theorem dX7_streetOf_7 : decode cX7_streetOf 7 = .ok (.ifCond .eq 10, 3) := by decide +kernel
theorem dX7_streetOf_10 : decode cX7_streetOf 10 = .ok (.aload_n 3, 1) := by decide +kernel
theorem dX7_streetOf_11 : decode cX7_streetOf 11 = .ok (.getfield 214, 3) := by decide +kernel
theorem dX7_streetOf_14 : decode cX7_streetOf 14 = .ok (.goto 7, 3) := by decide +kernel
theorem dX7_streetOf_17 : decode cX7_streetOf 17 = .ok (.aload_n 3, 1) := by decide +kernel
theorem dX7_streetOf_18 : decode cX7_streetOf 18 = .ok (.getfield 242, 3) := by decide +kernel
theorem dX7_streetOf_21 : decode cX7_streetOf 21 = .ok (.astore 4, 2) := by decide +kernel
theorem dX7_streetOf_23 : decode cX7_streetOf 23 = .ok (.aload 4, 2) := by decide +kernel
theorem dX7_streetOf_25 : decode cX7_streetOf 25 = .ok (.ifnull 11, 3) := by decide +kernel
theorem dX7_streetOf_28 : decode cX7_streetOf 28 = .ok (.aload 4, 2) := by decide +kernel
theorem dX7_streetOf_30 : decode cX7_streetOf 30 = .ok (.getfield 247, 3) := by decide +kernel
theorem dX7_streetOf_33 : decode cX7_streetOf 33 = .ok (.ifnonnull 13, 3) := by decide +kernel
theorem dX7_streetOf_36 : decode cX7_streetOf 36 = .ok (.new 106, 3) := by decide +kernel
theorem dX7_streetOf_39 : decode cX7_streetOf 39 = .ok (.dup, 1) := by decide +kernel
theorem dX7_streetOf_40 : decode cX7_streetOf 40 = .ok (.ldc 251, 2) := by decide +kernel
theorem dX7_streetOf_42 : decode cX7_streetOf 42 = .ok (.invokespecial 110, 3) := by decide +kernel
theorem dX7_streetOf_45 : decode cX7_streetOf 45 = .ok (.athrow, 1) := by decide +kernel
theorem dX7_streetOf_46 : decode cX7_streetOf 46 = .ok (.aload 4, 2) := by decide +kernel
theorem dX7_streetOf_48 : decode cX7_streetOf 48 = .ok (.getfield 247, 3) := by decide +kernel
theorem dX7_streetOf_51 : decode cX7_streetOf 51 = .ok (.getfield 253, 3) := by decide +kernel
theorem dX7_streetOf_54 : decode cX7_streetOf 54 = .ok (.ireturn, 1) := by decide +kernel
set_option maxRecDepth 20000 in
theorem ggX7_isGone_X7_known : GoodIn wsX7_isGone wsX7_known := goodIn_ca (goodIn_r _ [6, 7, 8, 9, 10, 11, 5, 12, 13, 19, 20, 21, 22, 23, 24, 25, 26, 27] (by decide +kernel) (by decide +kernel)) (goodIn_sub (fun _ h => List.mem_cons_of_mem _ (List.mem_append_right _ h)) (by decide +kernel))
set_option maxRecDepth 20000 in
theorem gX7_isGone_X7_known : GoodIn wsX7_isGone (wsV RX7 209 RX7 yX7_known wsX7_known) := goodIn_app (goodIn_of _ (by decide +kernel)) ggX7_isGone_X7_known
theorem dX7_isGone_0 : decode cX7_isGone 0 = .ok (.aload_n 0, 1) := by decide +kernel
theorem dX7_isGone_1 : decode cX7_isGone 1 = .ok (.iload_n 1, 1) := by decide +kernel
theorem dX7_isGone_2 : decode cX7_isGone 2 = .ok (.invokevirtual 209, 3) := by decide +kernel
theorem dX7_isGone_5 : decode cX7_isGone 5 = .ok (.getfield 213, 3) := by decide +kernel
theorem dX7_isGone_8 : decode cX7_isGone 8 = .ok (.ireturn, 1) := by decide +kernel
set_option maxRecDepth 20000 in
theorem ggX7_doors_X7_standing : GoodIn wsX7_doors wsX7_standing := goodIn_ca (goodIn_r _ [5, 6, 7, 8, 9, 10, 4, 11, 12, 29, 30, 31, 32, 33, 34, 35, 36, 37, 38, 39, 40, 41, 42, 43, 44, 45] (by decide +kernel) (by decide +kernel)) (goodIn_sub (fun _ h => List.mem_cons_of_mem _ (List.mem_append_right _ h)) (by decide +kernel))
set_option maxRecDepth 20000 in
theorem gX7_doors_X7_standing : GoodIn wsX7_doors (wsV RX7 78 RX7 yX7_standing wsX7_standing) := goodIn_app (goodIn_of _ (by decide +kernel)) ggX7_doors_X7_standing
set_option maxRecDepth 20000 in
theorem ggX7_doors_X7_doorsOn : GoodIn wsX7_doors wsX7_doorsOn := goodIn_r _ [16, 17, 18, 19, 4, 20, 21, 22, 23, 24, 25, 26, 27, 28, 29, 30, 31, 32, 33, 34, 35, 36, 37, 46, 47, 48, 49, 50, 51, 52, 53, 54, 55] (by decide +kernel) (by decide +kernel)
set_option maxRecDepth 20000 in
theorem gX7_doors_X7_doorsOn : GoodIn wsX7_doors (wsV RX7 256 RX7 yX7_doorsOn wsX7_doorsOn) := goodIn_app (goodIn_of _ (by decide +kernel)) ggX7_doors_X7_doorsOn
theorem dX7_doors_0 : decode cX7_doors 0 = .ok (.aload_n 0, 1) := by decide +kernel
theorem dX7_doors_1 : decode cX7_doors 1 = .ok (.aload_n 0, 1) := by decide +kernel
theorem dX7_doors_2 : decode cX7_doors 2 = .ok (.iload_n 1, 1) := by decide +kernel
theorem dX7_doors_3 : decode cX7_doors 3 = .ok (.invokevirtual 78, 3) := by decide +kernel
theorem dX7_doors_6 : decode cX7_doors 6 = .ok (.invokevirtual 256, 3) := by decide +kernel
theorem dX7_doors_9 : decode cX7_doors 9 = .ok (.ireturn, 1) := by decide +kernel
theorem dX7_day_0 : decode cX7_day 0 = .ok (.iload_n 1, 1) := by decide +kernel
theorem dX7_day_1 : decode cX7_day 1 = .ok (.iconst 1, 1) := by decide +kernel
theorem dX7_day_2 : decode cX7_day 2 = .ok (.if_icmp .lt 10, 3) := by decide +kernel
theorem dX7_day_5 : decode cX7_day 5 = .ok (.iload_n 1, 1) := by decide +kernel
theorem dX7_day_6 : decode cX7_day 6 = .ok (.sipush 9999, 3) := by decide +kernel
theorem dX7_day_9 : decode cX7_day 9 = .ok (.if_icmp .le 14, 3) := by decide +kernel
theorem dX7_day_12 : decode cX7_day 12 = .ok (.new 58, 3) := by decide +kernel
theorem dX7_day_15 : decode cX7_day 15 = .ok (.dup, 1) := by decide +kernel
theorem dX7_day_16 : decode cX7_day 16 = .ok (.ldc_w 259, 3) := by decide +kernel
theorem dX7_day_19 : decode cX7_day 19 = .ok (.invokespecial 62, 3) := by decide +kernel
theorem dX7_day_22 : decode cX7_day 22 = .ok (.athrow, 1) := by decide +kernel
theorem dX7_day_23 : decode cX7_day 23 = .ok (.aload_n 0, 1) := by decide +kernel
theorem dX7_day_24 : decode cX7_day 24 = .ok (.aload_n 0, 1) := by decide +kernel
theorem dX7_day_25 : decode cX7_day 25 = .ok (.getfield 55, 3) := by decide +kernel
theorem dX7_day_28 : decode cX7_day 28 = .ok (.iload_n 1, 1) := by decide +kernel
theorem dX7_day_29 : decode cX7_day 29 = .ok (.iadd, 1) := by decide +kernel
theorem dX7_day_30 : decode cX7_day 30 = .ok (.putfield 55, 3) := by decide +kernel
theorem dX7_day_33 : decode cX7_day 33 = .ok (.aload_n 0, 1) := by decide +kernel
theorem dX7_day_34 : decode cX7_day 34 = .ok (.getfield 55, 3) := by decide +kernel
theorem dX7_day_37 : decode cX7_day 37 = .ok (.ireturn, 1) := by decide +kernel
set_option maxRecDepth 20000 in
theorem ggX7_find_X7_doorNow : GoodIn wsX7_find wsX7_doorNow := goodIn_r _ [9, 10, 11, 12, 13, 14, 15, 16, 17, 18, 19, 20, 21, 22, 23, 24, 25, 26, 27, 28, 29, 30, 31, 32, 33, 34, 35, 36, 37, 38, 39, 40, 41, 42, 43, 44, 45, 46, 47, 48, 49, 50, 51, 52, 53, 54, 55, 56, 57, 58] (by decide +kernel) (by decide +kernel)
set_option maxRecDepth 20000 in
theorem gX7_find_X7_doorNow : GoodIn wsX7_find (wsV RX7 261 RX7 yX7_doorNow wsX7_doorNow) := goodIn_app (goodIn_of _ (by decide +kernel)) ggX7_find_X7_doorNow
theorem dX7_find_0 : decode cX7_find 0 = .ok (.aload_n 0, 1) := by decide +kernel
theorem dX7_find_1 : decode cX7_find 1 = .ok (.aload_n 0, 1) := by decide +kernel
theorem dX7_find_2 : decode cX7_find 2 = .ok (.getfield 51, 3) := by decide +kernel
theorem dX7_find_5 : decode cX7_find 5 = .ok (.iload_n 1, 1) := by decide +kernel
theorem dX7_find_6 : decode cX7_find 6 = .ok (.invokevirtual 261, 3) := by decide +kernel
theorem dX7_find_9 : decode cX7_find 9 = .ok (.astore_n 2, 1) := by decide +kernel
theorem dX7_find_10 : decode cX7_find 10 = .ok (.aload_n 2, 1) := by decide +kernel
theorem dX7_find_11 : decode cX7_find 11 = .ok (.ifnonnull 14, 3) := by decide +kernel
theorem dX7_find_14 : decode cX7_find 14 = .ok (.new 106, 3) := by decide +kernel
theorem dX7_find_17 : decode cX7_find 17 = .ok (.dup, 1) := by decide +kernel
theorem dX7_find_18 : decode cX7_find 18 = .ok (.ldc_w 265, 3) := by decide +kernel
theorem dX7_find_21 : decode cX7_find 21 = .ok (.invokespecial 110, 3) := by decide +kernel
theorem dX7_find_24 : decode cX7_find 24 = .ok (.athrow, 1) := by decide +kernel
theorem dX7_find_25 : decode cX7_find 25 = .ok (.aload_n 2, 1) := by decide +kernel
theorem dX7_find_26 : decode cX7_find 26 = .ok (.getfield 267, 3) := by decide +kernel
theorem dX7_find_29 : decode cX7_find 29 = .ok (.ireturn, 1) := by decide +kernel
set_option maxRecDepth 20000 in
theorem ggX7_send_X7_doorNow : GoodIn wsX7_send wsX7_doorNow := goodIn_r _ [12, 13, 14, 15, 16, 17, 18, 19, 20, 21, 22, 23, 24, 25, 26, 27, 28, 29, 30, 31, 32, 33, 34, 61, 62, 63, 64, 65, 66, 67, 68, 69, 70, 71, 72, 73, 74, 75, 76, 77, 78, 79, 80, 81, 82, 83, 84, 85, 86, 87] (by decide +kernel) (by decide +kernel)
set_option maxRecDepth 20000 in
theorem gX7_send_X7_doorNow : GoodIn wsX7_send (wsV RX7 261 RX7 yX7_doorNow wsX7_doorNow) := goodIn_app (goodIn_of _ (by decide +kernel)) ggX7_send_X7_doorNow
set_option maxRecDepth 20000 in
theorem ggX7_send_X3_newest : GoodIn wsX7_send wsX3_newest := goodIn_ca (goodIn_r _ [39, 40, 41, 42, 43, 44, 45, 38, 46, 88, 89, 90, 91, 92, 93] (by decide +kernel) (by decide +kernel)) (goodIn_sub (fun _ h => List.mem_cons_of_mem _ (List.mem_append_right _ h)) (by decide +kernel))
set_option maxRecDepth 20000 in
theorem gX7_send_X3_newest : GoodIn wsX7_send (wsV RX7 268 RX3 yX3_newest wsX3_newest) := goodIn_app (goodIn_of _ (by decide +kernel)) ggX7_send_X3_newest
set_option maxRecDepth 20000 in
theorem ggX7_send_X3_doorIn : GoodIn wsX7_send wsX3_doorIn := goodIn_ca (goodIn_r _ [50, 51, 44, 45, 38, 46, 88, 89, 90, 91, 92, 93] (by decide +kernel) (by decide +kernel)) (goodIn_sub (fun _ h => List.mem_cons_of_mem _ (List.mem_append_right _ h)) (by decide +kernel))
set_option maxRecDepth 20000 in
theorem gX7_send_X3_doorIn : GoodIn wsX7_send (wsV RX7 274 RX3 yX3_doorIn wsX3_doorIn) := goodIn_app (goodIn_of _ (by decide +kernel)) ggX7_send_X3_doorIn
set_option maxRecDepth 20000 in
theorem ggX7_send_X7_doorAt : GoodIn wsX7_send wsX7_doorAt := goodIn_r _ [55, 13, 61, 62, 63, 64, 65, 66, 67, 68, 69] (by decide +kernel) (by decide +kernel)
set_option maxRecDepth 20000 in
theorem gX7_send_X7_doorAt : GoodIn wsX7_send (wsV RX7 278 RX7 yX7_doorAt wsX7_doorAt) := goodIn_app (goodIn_of _ (by decide +kernel)) ggX7_send_X7_doorAt
set_option maxRecDepth 20000 in
theorem ggX7_send_X7_endOf : GoodIn wsX7_send wsX7_endOf := goodIn_r _ [58, 59, 60, 70, 71, 72, 73, 74] (by decide +kernel) (by decide +kernel)
set_option maxRecDepth 20000 in
theorem gX7_send_X7_endOf : GoodIn wsX7_send (va_wsS RX7 281 yX7_endOf wsX7_endOf) := goodIn_app (goodIn_of _ (by decide +kernel)) ggX7_send_X7_endOf
theorem dX7_send_0 : decode cX7_send 0 = .ok (.aload_n 0, 1) := by decide +kernel
theorem dX7_send_1 : decode cX7_send 1 = .ok (.aload_n 0, 1) := by decide +kernel
theorem dX7_send_2 : decode cX7_send 2 = .ok (.getfield 51, 3) := by decide +kernel
theorem dX7_send_5 : decode cX7_send 5 = .ok (.iload_n 1, 1) := by decide +kernel
theorem dX7_send_6 : decode cX7_send 6 = .ok (.invokevirtual 261, 3) := by decide +kernel
theorem dX7_send_9 : decode cX7_send 9 = .ok (.astore_n 2, 1) := by decide +kernel
theorem dX7_send_10 : decode cX7_send 10 = .ok (.aload_n 2, 1) := by decide +kernel
theorem dX7_send_11 : decode cX7_send 11 = .ok (.ifnull 8, 3) := by decide +kernel
theorem dX7_send_14 : decode cX7_send 14 = .ok (.aload_n 2, 1) := by decide +kernel
theorem dX7_send_15 : decode cX7_send 15 = .ok (.getfield 267, 3) := by decide +kernel
theorem dX7_send_18 : decode cX7_send 18 = .ok (.ireturn, 1) := by decide +kernel
theorem dX7_send_19 : decode cX7_send 19 = .ok (.aload_n 0, 1) := by decide +kernel
theorem dX7_send_20 : decode cX7_send 20 = .ok (.getfield 24, 3) := by decide +kernel
theorem dX7_send_23 : decode cX7_send 23 = .ok (.aload_n 0, 1) := by decide +kernel
theorem dX7_send_24 : decode cX7_send 24 = .ok (.getfield 51, 3) := by decide +kernel
theorem dX7_send_27 : decode cX7_send 27 = .ok (.iload_n 1, 1) := by decide +kernel
theorem dX7_send_28 : decode cX7_send 28 = .ok (.invokevirtual 268, 3) := by decide +kernel
theorem dX7_send_31 : decode cX7_send 31 = .ok (.istore_n 3, 1) := by decide +kernel
theorem dX7_send_32 : decode cX7_send 32 = .ok (.iload_n 3, 1) := by decide +kernel
theorem dX7_send_33 : decode cX7_send 33 = .ok (.ifCond .ge 14, 3) := by decide +kernel
theorem dX7_send_36 : decode cX7_send 36 = .ok (.new 106, 3) := by decide +kernel
theorem dX7_send_39 : decode cX7_send 39 = .ok (.dup, 1) := by decide +kernel
theorem dX7_send_40 : decode cX7_send 40 = .ok (.ldc_w 272, 3) := by decide +kernel
theorem dX7_send_43 : decode cX7_send 43 = .ok (.invokespecial 110, 3) := by decide +kernel
theorem dX7_send_46 : decode cX7_send 46 = .ok (.athrow, 1) := by decide +kernel
theorem dX7_send_47 : decode cX7_send 47 = .ok (.aload_n 0, 1) := by decide +kernel
theorem dX7_send_48 : decode cX7_send 48 = .ok (.aload_n 0, 1) := by decide +kernel
theorem dX7_send_49 : decode cX7_send 49 = .ok (.getfield 24, 3) := by decide +kernel
theorem dX7_send_52 : decode cX7_send 52 = .ok (.iload_n 3, 1) := by decide +kernel
theorem dX7_send_53 : decode cX7_send 53 = .ok (.invokevirtual 274, 3) := by decide +kernel
theorem dX7_send_56 : decode cX7_send 56 = .ok (.invokevirtual 278, 3) := by decide +kernel
theorem dX7_send_59 : decode cX7_send 59 = .ok (.invokestatic 281, 3) := by decide +kernel
theorem dX7_send_62 : decode cX7_send 62 = .ok (.astore 4, 2) := by decide +kernel
theorem dX7_send_64 : decode cX7_send 64 = .ok (.aload 4, 2) := by decide +kernel
theorem dX7_send_66 : decode cX7_send 66 = .ok (.ifnonnull 14, 3) := by decide +kernel
theorem dX7_send_69 : decode cX7_send 69 = .ok (.new 86, 3) := by decide +kernel
theorem dX7_send_72 : decode cX7_send 72 = .ok (.dup, 1) := by decide +kernel
theorem dX7_send_73 : decode cX7_send 73 = .ok (.ldc_w 285, 3) := by decide +kernel
theorem dX7_send_76 : decode cX7_send 76 = .ok (.invokespecial 90, 3) := by decide +kernel
theorem dX7_send_79 : decode cX7_send 79 = .ok (.athrow, 1) := by decide +kernel
theorem dX7_send_80 : decode cX7_send 80 = .ok (.aload 4, 2) := by decide +kernel
theorem dX7_send_82 : decode cX7_send 82 = .ok (.getfield 267, 3) := by decide +kernel
theorem dX7_send_85 : decode cX7_send 85 = .ok (.ireturn, 1) := by decide +kernel
set_option maxRecDepth 20000 in
theorem ggX7_until_X3_newest : GoodIn wsX7_until wsX3_newest := goodIn_ca (goodIn_r _ [9, 10, 11, 12, 13, 14, 15, 8, 16, 31, 32, 33, 34, 35, 36] (by decide +kernel) (by decide +kernel)) (goodIn_sub (fun _ h => List.mem_cons_of_mem _ (List.mem_append_right _ h)) (by decide +kernel))
set_option maxRecDepth 20000 in
theorem gX7_until_X3_newest : GoodIn wsX7_until (wsV RX7 268 RX3 yX3_newest wsX3_newest) := goodIn_app (goodIn_of _ (by decide +kernel)) ggX7_until_X3_newest
set_option maxRecDepth 20000 in
theorem ggX7_until_X3_dayIn : GoodIn wsX7_until wsX3_dayIn := goodIn_ca (goodIn_r _ [20, 21, 14, 15, 8, 16, 31, 32, 33, 34, 35, 36] (by decide +kernel) (by decide +kernel)) (goodIn_sub (fun _ h => List.mem_cons_of_mem _ (List.mem_append_right _ h)) (by decide +kernel))
set_option maxRecDepth 20000 in
theorem gX7_until_X3_dayIn : GoodIn wsX7_until (wsV RX7 289 RX3 yX3_dayIn wsX3_dayIn) := goodIn_app (goodIn_of _ (by decide +kernel)) ggX7_until_X3_dayIn
theorem dX7_until_0 : decode cX7_until 0 = .ok (.aload_n 0, 1) := by decide +kernel
theorem dX7_until_1 : decode cX7_until 1 = .ok (.getfield 24, 3) := by decide +kernel
theorem dX7_until_4 : decode cX7_until 4 = .ok (.aload_n 0, 1) := by decide +kernel
theorem dX7_until_5 : decode cX7_until 5 = .ok (.getfield 51, 3) := by decide +kernel
theorem dX7_until_8 : decode cX7_until 8 = .ok (.iload_n 1, 1) := by decide +kernel
theorem dX7_until_9 : decode cX7_until 9 = .ok (.invokevirtual 268, 3) := by decide +kernel
theorem dX7_until_12 : decode cX7_until 12 = .ok (.istore_n 2, 1) := by decide +kernel
theorem dX7_until_13 : decode cX7_until 13 = .ok (.iload_n 2, 1) := by decide +kernel
theorem dX7_until_14 : decode cX7_until 14 = .ok (.ifCond .ge 14, 3) := by decide +kernel
theorem dX7_until_17 : decode cX7_until 17 = .ok (.new 106, 3) := by decide +kernel
theorem dX7_until_20 : decode cX7_until 20 = .ok (.dup, 1) := by decide +kernel
theorem dX7_until_21 : decode cX7_until 21 = .ok (.ldc_w 287, 3) := by decide +kernel
theorem dX7_until_24 : decode cX7_until 24 = .ok (.invokespecial 110, 3) := by decide +kernel
theorem dX7_until_27 : decode cX7_until 27 = .ok (.athrow, 1) := by decide +kernel
theorem dX7_until_28 : decode cX7_until 28 = .ok (.aload_n 0, 1) := by decide +kernel
theorem dX7_until_29 : decode cX7_until 29 = .ok (.getfield 24, 3) := by decide +kernel
theorem dX7_until_32 : decode cX7_until 32 = .ok (.iload_n 2, 1) := by decide +kernel
theorem dX7_until_33 : decode cX7_until 33 = .ok (.invokevirtual 289, 3) := by decide +kernel
theorem dX7_until_36 : decode cX7_until 36 = .ok (.ireturn, 1) := by decide +kernel
theorem dX7_olds_0 : decode cX7_olds 0 = .ok (.aload_n 0, 1) := by decide +kernel
theorem dX7_olds_1 : decode cX7_olds 1 = .ok (.getfield 24, 3) := by decide +kernel
theorem dX7_olds_4 : decode cX7_olds 4 = .ok (.getfield 98, 3) := by decide +kernel
theorem dX7_olds_7 : decode cX7_olds 7 = .ok (.ireturn, 1) := by decide +kernel
set_option maxRecDepth 20000 in
theorem ggX7_walk_X7_standing : GoodIn wsX7_walk wsX7_standing := goodIn_ca (goodIn_r _ [9, 10, 11, 12, 13, 14, 8, 15, 16, 51, 52, 53, 54, 55, 56, 57, 58, 59, 62, 63, 64, 65, 66, 67, 68, 69] (by decide +kernel) (by decide +kernel)) (goodIn_sub (fun _ h => List.mem_cons_of_mem _ (List.mem_append_left _ (List.mem_append_right _ h))) (by decide +kernel))
set_option maxRecDepth 20000 in
theorem gX7_walk_X7_standing : GoodIn wsX7_walk (wsV RX7 78 RX7 yX7_standing wsX7_standing) := goodIn_app (goodIn_of _ (by decide +kernel)) ggX7_walk_X7_standing
set_option maxRecDepth 20000 in
theorem ggX7_walk_X7_orderForWalking : GoodIn wsX7_walk wsX7_orderForWalking := goodIn_ca (goodIn_r _ [20, 3, 21, 22, 23, 24, 25, 26, 27, 28, 29, 30, 31, 32, 8, 33, 34, 35, 36, 37, 38, 39, 40, 41, 42, 43, 44, 45, 46, 51, 52, 53, 54, 55, 56, 57, 58, 59, 70, 71, 72, 73, 74, 60, 61, 75, 76, 77, 78, 79] (by decide +kernel) (by decide +kernel)) (goodIn_sub (fun _ h => List.mem_cons_of_mem _ (List.mem_append_right _ h)) (by decide +kernel))
set_option maxRecDepth 20000 in
theorem gX7_walk_X7_orderForWalking : GoodIn wsX7_walk (wsV RX7 292 RX7 yX7_orderForWalking wsX7_orderForWalking) := goodIn_app (goodIn_of _ (by decide +kernel)) ggX7_walk_X7_orderForWalking
set_option maxRecDepth 20000 in
theorem ggX7_walk_X4_doorIn : GoodIn wsX7_walk wsX4_doorIn := goodIn_ca (goodIn_r _ [50, 30, 46, 60, 61] (by decide +kernel) (by decide +kernel)) (goodIn_sub (fun _ h => List.mem_cons_of_mem _ (List.mem_append_right _ h)) (by decide +kernel))
set_option maxRecDepth 20000 in
theorem gX7_walk_X4_doorIn : GoodIn wsX7_walk (wsV RX7 298 RX4 yX4_doorIn wsX4_doorIn) := goodIn_app (goodIn_of _ (by decide +kernel)) ggX7_walk_X4_doorIn
theorem dX7_walk_0 : decode cX7_walk 0 = .ok (.aload_n 0, 1) := by decide +kernel
theorem dX7_walk_1 : decode cX7_walk 1 = .ok (.aload_n 0, 1) := by decide +kernel
theorem dX7_walk_2 : decode cX7_walk 2 = .ok (.iload_n 1, 1) := by decide +kernel
theorem dX7_walk_3 : decode cX7_walk 3 = .ok (.invokevirtual 78, 3) := by decide +kernel
theorem dX7_walk_6 : decode cX7_walk 6 = .ok (.invokevirtual 292, 3) := by decide +kernel
theorem dX7_walk_9 : decode cX7_walk 9 = .ok (.iload_n 2, 1) := by decide +kernel
theorem dX7_walk_10 : decode cX7_walk 10 = .ok (.ifCond .lt 14, 3) := by decide +kernel
theorem dX7_walk_13 : decode cX7_walk 13 = .ok (.iload_n 2, 1) := by decide +kernel
theorem dX7_walk_14 : decode cX7_walk 14 = .ok (.aload_n 0, 1) := by decide +kernel
theorem dX7_walk_15 : decode cX7_walk 15 = .ok (.getfield 38, 3) := by decide +kernel
theorem dX7_walk_18 : decode cX7_walk 18 = .ok (.getfield 295, 3) := by decide +kernel
theorem dX7_walk_21 : decode cX7_walk 21 = .ok (.if_icmp .lt 14, 3) := by decide +kernel
theorem dX7_walk_24 : decode cX7_walk 24 = .ok (.new 106, 3) := by decide +kernel
theorem dX7_walk_27 : decode cX7_walk 27 = .ok (.dup, 1) := by decide +kernel
theorem dX7_walk_28 : decode cX7_walk 28 = .ok (.ldc_w 296, 3) := by decide +kernel
theorem dX7_walk_31 : decode cX7_walk 31 = .ok (.invokespecial 110, 3) := by decide +kernel
theorem dX7_walk_34 : decode cX7_walk 34 = .ok (.athrow, 1) := by decide +kernel
theorem dX7_walk_35 : decode cX7_walk 35 = .ok (.aload_n 0, 1) := by decide +kernel
theorem dX7_walk_36 : decode cX7_walk 36 = .ok (.getfield 38, 3) := by decide +kernel
theorem dX7_walk_39 : decode cX7_walk 39 = .ok (.iload_n 2, 1) := by decide +kernel
theorem dX7_walk_40 : decode cX7_walk 40 = .ok (.invokevirtual 298, 3) := by decide +kernel
theorem dX7_walk_43 : decode cX7_walk 43 = .ok (.ireturn, 1) := by decide +kernel
set_option maxRecDepth 20000 in
theorem ggX7_steps_X7_standing : GoodIn wsX7_steps wsX7_standing := goodIn_ca (goodIn_r _ [13, 14, 15, 16, 17, 18, 12, 19, 20, 57, 58, 59, 60, 61, 62, 63, 64, 65, 73, 74, 75, 76, 77, 78, 79, 80] (by decide +kernel) (by decide +kernel)) (goodIn_sub (fun _ h => List.mem_cons_of_mem _ (List.mem_append_left _ (List.mem_append_right _ h))) (by decide +kernel))
set_option maxRecDepth 20000 in
theorem gX7_steps_X7_standing : GoodIn wsX7_steps (wsV RX7 78 RX7 yX7_standing wsX7_standing) := goodIn_app (goodIn_of _ (by decide +kernel)) ggX7_steps_X7_standing
set_option maxRecDepth 20000 in
theorem ggX7_steps_X7_orderForWalking : GoodIn wsX7_steps wsX7_orderForWalking := goodIn_ca (goodIn_r _ [24, 1, 25, 8, 3, 26, 27, 28, 29, 30, 31, 32, 33, 34, 12, 35, 36, 37, 38, 39, 40, 41, 42, 43, 44, 45, 46, 47, 48, 57, 58, 59, 60, 61, 62, 63, 64, 65, 68, 69, 70, 71, 72, 66, 67, 81, 82, 83, 84, 85] (by decide +kernel) (by decide +kernel)) (goodIn_sub (fun _ h => List.mem_cons_of_mem _ (List.mem_append_right _ h)) (by decide +kernel))
set_option maxRecDepth 20000 in
theorem gX7_steps_X7_orderForWalking : GoodIn wsX7_steps (wsV RX7 292 RX7 yX7_orderForWalking wsX7_orderForWalking) := goodIn_app (goodIn_of _ (by decide +kernel)) ggX7_steps_X7_orderForWalking
set_option maxRecDepth 20000 in
theorem ggX7_steps_X4_doorIn : GoodIn wsX7_steps wsX4_doorIn := goodIn_ca (goodIn_r _ [52, 32, 48, 66, 67] (by decide +kernel) (by decide +kernel)) (goodIn_sub (fun _ h => List.mem_cons_of_mem _ (List.mem_append_right _ h)) (by decide +kernel))
set_option maxRecDepth 20000 in
theorem gX7_steps_X4_doorIn : GoodIn wsX7_steps (wsV RX7 298 RX4 yX4_doorIn wsX4_doorIn) := goodIn_app (goodIn_of _ (by decide +kernel)) ggX7_steps_X4_doorIn
set_option maxRecDepth 20000 in
theorem ggX7_steps_X7_doorAt : GoodIn wsX7_steps wsX7_doorAt := goodIn_r _ [56, 25, 57, 58, 59, 60, 61, 62, 63, 64, 65] (by decide +kernel) (by decide +kernel)
set_option maxRecDepth 20000 in
theorem gX7_steps_X7_doorAt : GoodIn wsX7_steps (wsV RX7 278 RX7 yX7_doorAt wsX7_doorAt) := goodIn_app (goodIn_of _ (by decide +kernel)) ggX7_steps_X7_doorAt
set_option maxRecDepth 20000 in
theorem ggX7_steps_X7_placeOf : GoodIn wsX7_steps wsX7_placeOf := goodIn_r _ [35, 36, 37, 38, 39, 40, 41, 42, 43, 81, 82, 83, 84, 85, 68, 69, 70, 71, 72] (by decide +kernel) (by decide +kernel)
set_option maxRecDepth 20000 in
theorem gX7_steps_X7_placeOf : GoodIn wsX7_steps (va_wsS RX7 299 yX7_placeOf wsX7_placeOf) := goodIn_app (goodIn_of _ (by decide +kernel)) ggX7_steps_X7_placeOf
theorem dX7_steps_0 : decode cX7_steps 0 = .ok (.aload_n 0, 1) := by decide +kernel
theorem dX7_steps_1 : decode cX7_steps 1 = .ok (.iload_n 1, 1) := by decide +kernel
theorem dX7_steps_2 : decode cX7_steps 2 = .ok (.invokevirtual 78, 3) := by decide +kernel
theorem dX7_steps_5 : decode cX7_steps 5 = .ok (.astore_n 2, 1) := by decide +kernel
theorem dX7_steps_6 : decode cX7_steps 6 = .ok (.aload_n 0, 1) := by decide +kernel
theorem dX7_steps_7 : decode cX7_steps 7 = .ok (.aload_n 2, 1) := by decide +kernel
theorem dX7_steps_8 : decode cX7_steps 8 = .ok (.invokevirtual 292, 3) := by decide +kernel
theorem dX7_steps_11 : decode cX7_steps 11 = .ok (.iconst 0, 1) := by decide +kernel
theorem dX7_steps_12 : decode cX7_steps 12 = .ok (.istore_n 3, 1) := by decide +kernel
theorem dX7_steps_13 : decode cX7_steps 13 = .ok (.aconst_null, 1) := by decide +kernel
theorem dX7_steps_14 : decode cX7_steps 14 = .ok (.astore 4, 2) := by decide +kernel
theorem dX7_steps_16 : decode cX7_steps 16 = .ok (.iconst 0, 1) := by decide +kernel
theorem dX7_steps_17 : decode cX7_steps 17 = .ok (.istore 5, 2) := by decide +kernel
theorem dX7_steps_19 : decode cX7_steps 19 = .ok (.iload 5, 2) := by decide +kernel
theorem dX7_steps_21 : decode cX7_steps 21 = .ok (.aload_n 0, 1) := by decide +kernel
theorem dX7_steps_22 : decode cX7_steps 22 = .ok (.getfield 38, 3) := by decide +kernel
theorem dX7_steps_25 : decode cX7_steps 25 = .ok (.getfield 295, 3) := by decide +kernel
theorem dX7_steps_28 : decode cX7_steps 28 = .ok (.if_icmp .ge 80, 3) := by decide +kernel
theorem dX7_steps_31 : decode cX7_steps 31 = .ok (.aload_n 0, 1) := by decide +kernel
theorem dX7_steps_32 : decode cX7_steps 32 = .ok (.aload_n 0, 1) := by decide +kernel
theorem dX7_steps_33 : decode cX7_steps 33 = .ok (.getfield 38, 3) := by decide +kernel
theorem dX7_steps_36 : decode cX7_steps 36 = .ok (.iload 5, 2) := by decide +kernel
theorem dX7_steps_38 : decode cX7_steps 38 = .ok (.invokevirtual 298, 3) := by decide +kernel
theorem dX7_steps_41 : decode cX7_steps 41 = .ok (.invokevirtual 278, 3) := by decide +kernel
theorem dX7_steps_44 : decode cX7_steps 44 = .ok (.aload_n 2, 1) := by decide +kernel
theorem dX7_steps_45 : decode cX7_steps 45 = .ok (.invokestatic 299, 3) := by decide +kernel
theorem dX7_steps_48 : decode cX7_steps 48 = .ok (.astore 6, 2) := by decide +kernel
theorem dX7_steps_50 : decode cX7_steps 50 = .ok (.aload 4, 2) := by decide +kernel
theorem dX7_steps_52 : decode cX7_steps 52 = .ok (.ifnull 46, 3) := by decide +kernel
theorem dX7_steps_55 : decode cX7_steps 55 = .ok (.aload 6, 2) := by decide +kernel
theorem dX7_steps_57 : decode cX7_steps 57 = .ok (.ifnull 41, 3) := by decide +kernel
theorem dX7_steps_60 : decode cX7_steps 60 = .ok (.iload_n 3, 1) := by decide +kernel
theorem dX7_steps_61 : decode cX7_steps 61 = .ok (.aload 6, 2) := by decide +kernel
theorem dX7_steps_63 : decode cX7_steps 63 = .ok (.getfield 303, 3) := by decide +kernel
theorem dX7_steps_66 : decode cX7_steps 66 = .ok (.aload 4, 2) := by decide +kernel
theorem dX7_steps_68 : decode cX7_steps 68 = .ok (.getfield 303, 3) := by decide +kernel
theorem dX7_steps_71 : decode cX7_steps 71 = .ok (.isub, 1) := by decide +kernel
theorem dX7_steps_72 : decode cX7_steps 72 = .ok (.invokestatic 306, 3) := by decide +kernel
theorem dX7_steps_75 : decode cX7_steps 75 = .ok (.iadd, 1) := by decide +kernel
theorem dX7_steps_76 : decode cX7_steps 76 = .ok (.istore_n 3, 1) := by decide +kernel
theorem dX7_steps_77 : decode cX7_steps 77 = .ok (.iload_n 3, 1) := by decide +kernel
theorem dX7_steps_78 : decode cX7_steps 78 = .ok (.aload 6, 2) := by decide +kernel
theorem dX7_steps_80 : decode cX7_steps 80 = .ok (.getfield 311, 3) := by decide +kernel
theorem dX7_steps_83 : decode cX7_steps 83 = .ok (.aload 4, 2) := by decide +kernel
theorem dX7_steps_85 : decode cX7_steps 85 = .ok (.getfield 311, 3) := by decide +kernel
theorem dX7_steps_88 : decode cX7_steps 88 = .ok (.if_icmp .ne 7, 3) := by decide +kernel
theorem dX7_steps_91 : decode cX7_steps 91 = .ok (.iconst 0, 1) := by decide +kernel
theorem dX7_steps_92 : decode cX7_steps 92 = .ok (.goto 4, 3) := by decide +kernel
theorem dX7_steps_95 : decode cX7_steps 95 = .ok (.iconst 5, 1) := by decide +kernel
theorem dX7_steps_96 : decode cX7_steps 96 = .ok (.iadd, 1) := by decide +kernel
theorem dX7_steps_97 : decode cX7_steps 97 = .ok (.istore_n 3, 1) := by decide +kernel
theorem dX7_steps_98 : decode cX7_steps 98 = .ok (.aload 6, 2) := by decide +kernel
theorem dX7_steps_100 : decode cX7_steps 100 = .ok (.astore 4, 2) := by decide +kernel
theorem dX7_steps_102 : decode cX7_steps 102 = .ok (.iinc 5 1, 3) := by decide +kernel
theorem dX7_steps_105 : decode cX7_steps 105 = .ok (.goto (-86), 3) := by decide +kernel
theorem dX7_steps_108 : decode cX7_steps 108 = .ok (.iload_n 3, 1) := by decide +kernel
theorem dX7_steps_109 : decode cX7_steps 109 = .ok (.ireturn, 1) := by decide +kernel
set_option maxRecDepth 20000 in
theorem ggX7_clashes_X7_standing : GoodIn wsX7_clashes wsX7_standing := goodIn_ca (goodIn_r _ [7, 8, 9, 10, 11, 12, 6, 13, 14, 85, 86, 87, 88, 89, 90, 91, 92, 93, 77, 78, 79, 80, 81, 82, 83, 84] (by decide +kernel) (by decide +kernel)) (goodIn_sub (fun _ h => List.mem_cons_of_mem _ (List.mem_append_left _ (List.mem_append_right _ h))) (by decide +kernel))
set_option maxRecDepth 20000 in
theorem gX7_clashes_X7_standing : GoodIn wsX7_clashes (wsV RX7 78 RX7 yX7_standing wsX7_standing) := goodIn_app (goodIn_of _ (by decide +kernel)) ggX7_clashes_X7_standing
set_option maxRecDepth 20000 in
theorem ggX7_clashes_X7_openLedger : GoodIn wsX7_clashes wsX7_openLedger := goodIn_ca (goodIn_r _ [18, 2, 19, 20, 21, 22, 23, 24, 25, 26, 27, 28, 29, 30, 31, 32, 33, 34, 35, 36, 37, 38, 39, 40, 41, 42, 6, 43, 44, 45, 46, 47, 48, 49, 50, 51, 52, 53, 54, 55, 56, 57, 58, 59, 60, 61, 62, 63, 64, 65, 66, 67, 68, 69, 70, 71, 72, 85, 86, 87, 88, 89, 90, 91, 92, 93, 77, 78, 79, 80, 81, 82, 83, 84, 94, 95, 96, 97, 98, 99, 100, 101, 102, 103, 104, 105, 106, 107, 108, 109, 110] (by decide +kernel) (by decide +kernel)) (goodIn_sub (fun _ h => List.mem_cons_of_mem _ (List.mem_append_right _ h)) (by decide +kernel))
set_option maxRecDepth 20000 in
theorem gX7_clashes_X7_openLedger : GoodIn wsX7_clashes (wsV RX7 163 RX7 yX7_openLedger wsX7_openLedger) := goodIn_app (goodIn_of _ (by decide +kernel)) ggX7_clashes_X7_openLedger
set_option maxRecDepth 20000 in
theorem ggX7_clashes_X1_pairsAgainstOrder : GoodIn wsX7_clashes wsX1_pairsAgainstOrder := goodIn_ca (goodIn_r _ [76, 30, 57, 56, 99, 100, 101, 102, 103, 104, 105] (by decide +kernel) (by decide +kernel)) (goodIn_sub (fun _ h => List.mem_cons_of_mem _ (List.mem_append_right _ h)) (by decide +kernel))
set_option maxRecDepth 20000 in
theorem gX7_clashes_X1_pairsAgainstOrder : GoodIn wsX7_clashes (wsV RX7 314 RX1 yX1_pairsAgainstOrder wsX1_pairsAgainstOrder) := goodIn_app (goodIn_of _ (by decide +kernel)) ggX7_clashes_X1_pairsAgainstOrder
theorem dX7_clashes_0 : decode cX7_clashes 0 = .ok (.aload_n 0, 1) := by decide +kernel
theorem dX7_clashes_1 : decode cX7_clashes 1 = .ok (.iload_n 1, 1) := by decide +kernel
theorem dX7_clashes_2 : decode cX7_clashes 2 = .ok (.invokevirtual 78, 3) := by decide +kernel
theorem dX7_clashes_5 : decode cX7_clashes 5 = .ok (.astore_n 2, 1) := by decide +kernel
theorem dX7_clashes_6 : decode cX7_clashes 6 = .ok (.aload_n 0, 1) := by decide +kernel
theorem dX7_clashes_7 : decode cX7_clashes 7 = .ok (.aload_n 2, 1) := by decide +kernel
theorem dX7_clashes_8 : decode cX7_clashes 8 = .ok (.aload_n 2, 1) := by decide +kernel
theorem dX7_clashes_9 : decode cX7_clashes 9 = .ok (.getfield 136, 3) := by decide +kernel
theorem dX7_clashes_12 : decode cX7_clashes 12 = .ok (.invokevirtual 163, 3) := by decide +kernel
theorem dX7_clashes_15 : decode cX7_clashes 15 = .ok (.aload_n 0, 1) := by decide +kernel
theorem dX7_clashes_16 : decode cX7_clashes 16 = .ok (.getfield 31, 3) := by decide +kernel
theorem dX7_clashes_19 : decode cX7_clashes 19 = .ok (.invokevirtual 314, 3) := by decide +kernel
theorem dX7_clashes_22 : decode cX7_clashes 22 = .ok (.ireturn, 1) := by decide +kernel
theorem dX7_goneShare_0 : decode cX7_goneShare 0 = .ok (.aload_n 0, 1) := by decide +kernel
theorem dX7_goneShare_1 : decode cX7_goneShare 1 = .ok (.getfield 46, 3) := by decide +kernel
theorem dX7_goneShare_4 : decode cX7_goneShare 4 = .ok (.istore_n 1, 1) := by decide +kernel
theorem dX7_goneShare_5 : decode cX7_goneShare 5 = .ok (.iload_n 1, 1) := by decide +kernel
theorem dX7_goneShare_6 : decode cX7_goneShare 6 = .ok (.ifCond .ne 14, 3) := by decide +kernel
theorem dX7_goneShare_9 : decode cX7_goneShare 9 = .ok (.new 318, 3) := by decide +kernel
theorem dX7_goneShare_12 : decode cX7_goneShare 12 = .ok (.dup, 1) := by decide +kernel
theorem dX7_goneShare_13 : decode cX7_goneShare 13 = .ok (.ldc_w 320, 3) := by decide +kernel
theorem dX7_goneShare_16 : decode cX7_goneShare 16 = .ok (.invokespecial 322, 3) := by decide +kernel
theorem dX7_goneShare_19 : decode cX7_goneShare 19 = .ok (.athrow, 1) := by decide +kernel
theorem dX7_goneShare_20 : decode cX7_goneShare 20 = .ok (.iconst 0, 1) := by decide +kernel
theorem dX7_goneShare_21 : decode cX7_goneShare 21 = .ok (.istore_n 2, 1) := by decide +kernel
theorem dX7_goneShare_22 : decode cX7_goneShare 22 = .ok (.aload_n 0, 1) := by decide +kernel
theorem dX7_goneShare_23 : decode cX7_goneShare 23 = .ok (.getfield 17, 3) := by decide +kernel
theorem dX7_goneShare_26 : decode cX7_goneShare 26 = .ok (.astore_n 3, 1) := by decide +kernel
theorem dX7_goneShare_27 : decode cX7_goneShare 27 = .ok (.aload_n 3, 1) := by decide +kernel
theorem dX7_goneShare_28 : decode cX7_goneShare 28 = .ok (.arraylength, 1) := by decide +kernel
theorem dX7_goneShare_29 : decode cX7_goneShare 29 = .ok (.istore 4, 2) := by decide +kernel
theorem dX7_goneShare_31 : decode cX7_goneShare 31 = .ok (.iconst 0, 1) := by decide +kernel
theorem dX7_goneShare_32 : decode cX7_goneShare 32 = .ok (.istore 5, 2) := by decide +kernel
theorem dX7_goneShare_34 : decode cX7_goneShare 34 = .ok (.iload 5, 2) := by decide +kernel
theorem dX7_goneShare_36 : decode cX7_goneShare 36 = .ok (.iload 4, 2) := by decide +kernel
theorem dX7_goneShare_38 : decode cX7_goneShare 38 = .ok (.if_icmp .ge 31, 3) := by decide +kernel
theorem dX7_goneShare_41 : decode cX7_goneShare 41 = .ok (.aload_n 3, 1) := by decide +kernel
theorem dX7_goneShare_42 : decode cX7_goneShare 42 = .ok (.iload 5, 2) := by decide +kernel
theorem dX7_goneShare_44 : decode cX7_goneShare 44 = .ok (.aaload, 1) := by decide +kernel
theorem dX7_goneShare_45 : decode cX7_goneShare 45 = .ok (.astore 6, 2) := by decide +kernel
theorem dX7_goneShare_47 : decode cX7_goneShare 47 = .ok (.aload 6, 2) := by decide +kernel
theorem dX7_goneShare_49 : decode cX7_goneShare 49 = .ok (.ifnull 14, 3) := by decide +kernel
theorem dX7_goneShare_52 : decode cX7_goneShare 52 = .ok (.aload 6, 2) := by decide +kernel
theorem dX7_goneShare_54 : decode cX7_goneShare 54 = .ok (.getfield 213, 3) := by decide +kernel
theorem dX7_goneShare_57 : decode cX7_goneShare 57 = .ok (.ifCond .eq 6, 3) := by decide +kernel
theorem dX7_goneShare_60 : decode cX7_goneShare 60 = .ok (.iinc 2 1, 3) := by decide +kernel
theorem dX7_goneShare_63 : decode cX7_goneShare 63 = .ok (.iinc 5 1, 3) := by decide +kernel
theorem dX7_goneShare_66 : decode cX7_goneShare 66 = .ok (.goto (-32), 3) := by decide +kernel
theorem dX7_goneShare_69 : decode cX7_goneShare 69 = .ok (.iload_n 2, 1) := by decide +kernel
theorem dX7_goneShare_70 : decode cX7_goneShare 70 = .ok (.i2f, 1) := by decide +kernel
theorem dX7_goneShare_71 : decode cX7_goneShare 71 = .ok (.iload_n 1, 1) := by decide +kernel
theorem dX7_goneShare_72 : decode cX7_goneShare 72 = .ok (.i2f, 1) := by decide +kernel
theorem dX7_goneShare_73 : decode cX7_goneShare 73 = .ok (.fdiv, 1) := by decide +kernel
theorem dX7_goneShare_74 : decode cX7_goneShare 74 = .ok (.freturn, 1) := by decide +kernel
set_option maxRecDepth 20000 in
theorem ggX7_meanDoors_X7_isStanding : GoodIn wsX7_meanDoors wsX7_isStanding := goodIn_r _ [7, 8, 34, 35, 36, 37, 38, 39, 40, 41] (by decide +kernel) (by decide +kernel)
set_option maxRecDepth 20000 in
theorem gX7_meanDoors_X7_isStanding : GoodIn wsX7_meanDoors (va_wsS RX7 179 yX7_isStanding wsX7_isStanding) := goodIn_app (goodIn_of _ (by decide +kernel)) ggX7_meanDoors_X7_isStanding
set_option maxRecDepth 20000 in
theorem ggX7_meanDoors_X7_doorsOn : GoodIn wsX7_meanDoors wsX7_doorsOn := goodIn_r _ [12, 13, 14, 15, 6, 16, 17, 18, 19, 20, 21, 22, 23, 24, 25, 26, 27, 28, 29, 30, 31, 32, 33, 42, 43, 44, 45, 46, 47, 48, 49, 50, 51] (by decide +kernel) (by decide +kernel)
set_option maxRecDepth 20000 in
theorem gX7_meanDoors_X7_doorsOn : GoodIn wsX7_meanDoors (wsV RX7 256 RX7 yX7_doorsOn wsX7_doorsOn) := goodIn_app (goodIn_of _ (by decide +kernel)) ggX7_meanDoors_X7_doorsOn
theorem dX7_meanDoors_0 : decode cX7_meanDoors 0 = .ok (.iconst 0, 1) := by decide +kernel
theorem dX7_meanDoors_1 : decode cX7_meanDoors 1 = .ok (.istore_n 1, 1) := by decide +kernel
theorem dX7_meanDoors_2 : decode cX7_meanDoors 2 = .ok (.iconst 0, 1) := by decide +kernel
theorem dX7_meanDoors_3 : decode cX7_meanDoors 3 = .ok (.istore_n 2, 1) := by decide +kernel
theorem dX7_meanDoors_4 : decode cX7_meanDoors 4 = .ok (.aload_n 0, 1) := by decide +kernel
theorem dX7_meanDoors_5 : decode cX7_meanDoors 5 = .ok (.getfield 11, 3) := by decide +kernel
theorem dX7_meanDoors_8 : decode cX7_meanDoors 8 = .ok (.astore_n 3, 1) := by decide +kernel
theorem dX7_meanDoors_9 : decode cX7_meanDoors 9 = .ok (.aload_n 3, 1) := by decide +kernel
theorem dX7_meanDoors_10 : decode cX7_meanDoors 10 = .ok (.arraylength, 1) := by decide +kernel
theorem dX7_meanDoors_11 : decode cX7_meanDoors 11 = .ok (.istore 4, 2) := by decide +kernel
theorem dX7_meanDoors_13 : decode cX7_meanDoors 13 = .ok (.iconst 0, 1) := by decide +kernel
theorem dX7_meanDoors_14 : decode cX7_meanDoors 14 = .ok (.istore 5, 2) := by decide +kernel
theorem dX7_meanDoors_16 : decode cX7_meanDoors 16 = .ok (.iload 5, 2) := by decide +kernel
theorem dX7_meanDoors_18 : decode cX7_meanDoors 18 = .ok (.iload 4, 2) := by decide +kernel
theorem dX7_meanDoors_20 : decode cX7_meanDoors 20 = .ok (.if_icmp .ge 35, 3) := by decide +kernel
theorem dX7_meanDoors_23 : decode cX7_meanDoors 23 = .ok (.aload_n 3, 1) := by decide +kernel
theorem dX7_meanDoors_24 : decode cX7_meanDoors 24 = .ok (.iload 5, 2) := by decide +kernel
theorem dX7_meanDoors_26 : decode cX7_meanDoors 26 = .ok (.aaload, 1) := by decide +kernel
theorem dX7_meanDoors_27 : decode cX7_meanDoors 27 = .ok (.astore 6, 2) := by decide +kernel
theorem dX7_meanDoors_29 : decode cX7_meanDoors 29 = .ok (.aload 6, 2) := by decide +kernel
theorem dX7_meanDoors_31 : decode cX7_meanDoors 31 = .ok (.invokestatic 179, 3) := by decide +kernel
theorem dX7_meanDoors_34 : decode cX7_meanDoors 34 = .ok (.ifCond .eq 15, 3) := by decide +kernel
theorem dX7_meanDoors_37 : decode cX7_meanDoors 37 = .ok (.iinc 1 1, 3) := by decide +kernel
theorem dX7_meanDoors_40 : decode cX7_meanDoors 40 = .ok (.iload_n 2, 1) := by decide +kernel
theorem dX7_meanDoors_41 : decode cX7_meanDoors 41 = .ok (.aload_n 0, 1) := by decide +kernel
theorem dX7_meanDoors_42 : decode cX7_meanDoors 42 = .ok (.aload 6, 2) := by decide +kernel
theorem dX7_meanDoors_44 : decode cX7_meanDoors 44 = .ok (.invokevirtual 256, 3) := by decide +kernel
theorem dX7_meanDoors_47 : decode cX7_meanDoors 47 = .ok (.iadd, 1) := by decide +kernel
theorem dX7_meanDoors_48 : decode cX7_meanDoors 48 = .ok (.istore_n 2, 1) := by decide +kernel
theorem dX7_meanDoors_49 : decode cX7_meanDoors 49 = .ok (.iinc 5 1, 3) := by decide +kernel
theorem dX7_meanDoors_52 : decode cX7_meanDoors 52 = .ok (.goto (-36), 3) := by decide +kernel
theorem dX7_meanDoors_55 : decode cX7_meanDoors 55 = .ok (.iload_n 1, 1) := by decide +kernel
theorem dX7_meanDoors_56 : decode cX7_meanDoors 56 = .ok (.ifCond .ne 14, 3) := by decide +kernel
theorem dX7_meanDoors_59 : decode cX7_meanDoors 59 = .ok (.new 318, 3) := by decide +kernel
theorem dX7_meanDoors_62 : decode cX7_meanDoors 62 = .ok (.dup, 1) := by decide +kernel
theorem dX7_meanDoors_63 : decode cX7_meanDoors 63 = .ok (.ldc_w 323, 3) := by decide +kernel
theorem dX7_meanDoors_66 : decode cX7_meanDoors 66 = .ok (.invokespecial 322, 3) := by decide +kernel
theorem dX7_meanDoors_69 : decode cX7_meanDoors 69 = .ok (.athrow, 1) := by decide +kernel
theorem dX7_meanDoors_70 : decode cX7_meanDoors 70 = .ok (.iload_n 2, 1) := by decide +kernel
theorem dX7_meanDoors_71 : decode cX7_meanDoors 71 = .ok (.i2d, 1) := by decide +kernel
theorem dX7_meanDoors_72 : decode cX7_meanDoors 72 = .ok (.iload_n 1, 1) := by decide +kernel
theorem dX7_meanDoors_73 : decode cX7_meanDoors 73 = .ok (.i2d, 1) := by decide +kernel
theorem dX7_meanDoors_74 : decode cX7_meanDoors 74 = .ok (.ddiv, 1) := by decide +kernel
theorem dX7_meanDoors_75 : decode cX7_meanDoors 75 = .ok (.dreturn, 1) := by decide +kernel
set_option maxRecDepth 20000 in
theorem ggX7_checksum_X7_isStanding : GoodIn wsX7_checksum wsX7_isStanding := goodIn_r _ [14, 15, 40, 41, 42, 43, 44, 45, 46, 47] (by decide +kernel) (by decide +kernel)
set_option maxRecDepth 20000 in
theorem gX7_checksum_X7_isStanding : GoodIn wsX7_checksum (va_wsS RX7 179 yX7_isStanding wsX7_isStanding) := goodIn_app (goodIn_of _ (by decide +kernel)) ggX7_checksum_X7_isStanding
set_option maxRecDepth 20000 in
theorem ggX7_checksum_X7_doorsOn : GoodIn wsX7_checksum wsX7_doorsOn := goodIn_r _ [19, 5, 20, 21, 13, 22, 23, 24, 25, 26, 27, 28, 29, 30, 31, 32, 33, 34, 35, 36, 37, 38, 39, 48, 49, 50, 51, 52, 53, 54, 55, 56, 57] (by decide +kernel) (by decide +kernel)
set_option maxRecDepth 20000 in
theorem gX7_checksum_X7_doorsOn : GoodIn wsX7_checksum (wsV RX7 256 RX7 yX7_doorsOn wsX7_doorsOn) := goodIn_app (goodIn_of _ (by decide +kernel)) ggX7_checksum_X7_doorsOn
theorem dX7_checksum_0 : decode cX7_checksum 0 = .ok (.ldc2_w 325, 3) := by decide +kernel
theorem dX7_checksum_3 : decode cX7_checksum 3 = .ok (.lstore_n 1, 1) := by decide +kernel
theorem dX7_checksum_4 : decode cX7_checksum 4 = .ok (.aload_n 0, 1) := by decide +kernel
theorem dX7_checksum_5 : decode cX7_checksum 5 = .ok (.getfield 11, 3) := by decide +kernel
theorem dX7_checksum_8 : decode cX7_checksum 8 = .ok (.astore_n 3, 1) := by decide +kernel
theorem dX7_checksum_9 : decode cX7_checksum 9 = .ok (.aload_n 3, 1) := by decide +kernel
theorem dX7_checksum_10 : decode cX7_checksum 10 = .ok (.arraylength, 1) := by decide +kernel
theorem dX7_checksum_11 : decode cX7_checksum 11 = .ok (.istore 4, 2) := by decide +kernel
theorem dX7_checksum_13 : decode cX7_checksum 13 = .ok (.iconst 0, 1) := by decide +kernel
theorem dX7_checksum_14 : decode cX7_checksum 14 = .ok (.istore 5, 2) := by decide +kernel
theorem dX7_checksum_16 : decode cX7_checksum 16 = .ok (.iload 5, 2) := by decide +kernel
theorem dX7_checksum_18 : decode cX7_checksum 18 = .ok (.iload 4, 2) := by decide +kernel
theorem dX7_checksum_20 : decode cX7_checksum 20 = .ok (.if_icmp .ge 50, 3) := by decide +kernel
theorem dX7_checksum_23 : decode cX7_checksum 23 = .ok (.aload_n 3, 1) := by decide +kernel
theorem dX7_checksum_24 : decode cX7_checksum 24 = .ok (.iload 5, 2) := by decide +kernel
theorem dX7_checksum_26 : decode cX7_checksum 26 = .ok (.aaload, 1) := by decide +kernel
theorem dX7_checksum_27 : decode cX7_checksum 27 = .ok (.astore 6, 2) := by decide +kernel
theorem dX7_checksum_29 : decode cX7_checksum 29 = .ok (.aload 6, 2) := by decide +kernel
theorem dX7_checksum_31 : decode cX7_checksum 31 = .ok (.invokestatic 179, 3) := by decide +kernel
theorem dX7_checksum_34 : decode cX7_checksum 34 = .ok (.ifCond .eq 30, 3) := by decide +kernel
theorem dX7_checksum_37 : decode cX7_checksum 37 = .ok (.ldc2_w 327, 3) := by decide +kernel
theorem dX7_checksum_40 : decode cX7_checksum 40 = .ok (.lload_n 1, 1) := by decide +kernel
theorem dX7_checksum_41 : decode cX7_checksum 41 = .ok (.lmul, 1) := by decide +kernel
theorem dX7_checksum_42 : decode cX7_checksum 42 = .ok (.aload 6, 2) := by decide +kernel
theorem dX7_checksum_44 : decode cX7_checksum 44 = .ok (.getfield 136, 3) := by decide +kernel
theorem dX7_checksum_47 : decode cX7_checksum 47 = .ok (.i2l, 1) := by decide +kernel
theorem dX7_checksum_48 : decode cX7_checksum 48 = .ok (.ladd, 1) := by decide +kernel
theorem dX7_checksum_49 : decode cX7_checksum 49 = .ok (.lstore_n 1, 1) := by decide +kernel
theorem dX7_checksum_50 : decode cX7_checksum 50 = .ok (.ldc2_w 327, 3) := by decide +kernel
theorem dX7_checksum_53 : decode cX7_checksum 53 = .ok (.lload_n 1, 1) := by decide +kernel
theorem dX7_checksum_54 : decode cX7_checksum 54 = .ok (.lmul, 1) := by decide +kernel
theorem dX7_checksum_55 : decode cX7_checksum 55 = .ok (.aload_n 0, 1) := by decide +kernel
theorem dX7_checksum_56 : decode cX7_checksum 56 = .ok (.aload 6, 2) := by decide +kernel
theorem dX7_checksum_58 : decode cX7_checksum 58 = .ok (.invokevirtual 256, 3) := by decide +kernel
theorem dX7_checksum_61 : decode cX7_checksum 61 = .ok (.i2l, 1) := by decide +kernel
theorem dX7_checksum_62 : decode cX7_checksum 62 = .ok (.ladd, 1) := by decide +kernel
theorem dX7_checksum_63 : decode cX7_checksum 63 = .ok (.lstore_n 1, 1) := by decide +kernel
theorem dX7_checksum_64 : decode cX7_checksum 64 = .ok (.iinc 5 1, 3) := by decide +kernel
theorem dX7_checksum_67 : decode cX7_checksum 67 = .ok (.goto (-51), 3) := by decide +kernel
theorem dX7_checksum_70 : decode cX7_checksum 70 = .ok (.aload_n 0, 1) := by decide +kernel
theorem dX7_checksum_71 : decode cX7_checksum 71 = .ok (.getfield 17, 3) := by decide +kernel
theorem dX7_checksum_74 : decode cX7_checksum 74 = .ok (.astore_n 3, 1) := by decide +kernel
theorem dX7_checksum_75 : decode cX7_checksum 75 = .ok (.aload_n 3, 1) := by decide +kernel
theorem dX7_checksum_76 : decode cX7_checksum 76 = .ok (.arraylength, 1) := by decide +kernel
theorem dX7_checksum_77 : decode cX7_checksum 77 = .ok (.istore 4, 2) := by decide +kernel
theorem dX7_checksum_79 : decode cX7_checksum 79 = .ok (.iconst 0, 1) := by decide +kernel
theorem dX7_checksum_80 : decode cX7_checksum 80 = .ok (.istore 5, 2) := by decide +kernel
theorem dX7_checksum_82 : decode cX7_checksum 82 = .ok (.iload 5, 2) := by decide +kernel
theorem dX7_checksum_84 : decode cX7_checksum 84 = .ok (.iload 4, 2) := by decide +kernel
theorem dX7_checksum_86 : decode cX7_checksum 86 = .ok (.if_icmp .ge 76, 3) := by decide +kernel
theorem dX7_checksum_89 : decode cX7_checksum 89 = .ok (.aload_n 3, 1) := by decide +kernel
theorem dX7_checksum_90 : decode cX7_checksum 90 = .ok (.iload 5, 2) := by decide +kernel
theorem dX7_checksum_92 : decode cX7_checksum 92 = .ok (.aaload, 1) := by decide +kernel
theorem dX7_checksum_93 : decode cX7_checksum 93 = .ok (.astore 6, 2) := by decide +kernel
theorem dX7_checksum_95 : decode cX7_checksum 95 = .ok (.aload 6, 2) := by decide +kernel
theorem dX7_checksum_97 : decode cX7_checksum 97 = .ok (.ifnull 59, 3) := by decide +kernel
theorem dX7_checksum_100 : decode cX7_checksum 100 = .ok (.aload 6, 2) := by decide +kernel
theorem dX7_checksum_102 : decode cX7_checksum 102 = .ok (.getfield 242, 3) := by decide +kernel
theorem dX7_checksum_105 : decode cX7_checksum 105 = .ok (.ifnonnull 7, 3) := by decide +kernel
theorem dX7_checksum_108 : decode cX7_checksum 108 = .ok (.lload_n 1, 1) := by decide +kernel
theorem dX7_checksum_109 : decode cX7_checksum 109 = .ok (.goto 18, 3) := by decide +kernel
theorem dX7_checksum_112 : decode cX7_checksum 112 = .ok (.ldc2_w 327, 3) := by decide +kernel
theorem dX7_checksum_115 : decode cX7_checksum 115 = .ok (.lload_n 1, 1) := by decide +kernel
theorem dX7_checksum_116 : decode cX7_checksum 116 = .ok (.lmul, 1) := by decide +kernel
theorem dX7_checksum_117 : decode cX7_checksum 117 = .ok (.aload 6, 2) := by decide +kernel
theorem dX7_checksum_119 : decode cX7_checksum 119 = .ok (.getfield 242, 3) := by decide +kernel
theorem dX7_checksum_122 : decode cX7_checksum 122 = .ok (.getfield 200, 3) := by decide +kernel
theorem dX7_checksum_125 : decode cX7_checksum 125 = .ok (.i2l, 1) := by decide +kernel
theorem dX7_checksum_126 : decode cX7_checksum 126 = .ok (.ladd, 1) := by decide +kernel
theorem dX7_checksum_127 : decode cX7_checksum 127 = .ok (.lstore_n 1, 1) := by decide +kernel
theorem dX7_checksum_128 : decode cX7_checksum 128 = .ok (.aload 6, 2) := by decide +kernel
theorem dX7_checksum_130 : decode cX7_checksum 130 = .ok (.getfield 214, 3) := by decide +kernel
theorem dX7_checksum_133 : decode cX7_checksum 133 = .ok (.ifnonnull 7, 3) := by decide +kernel
theorem dX7_checksum_136 : decode cX7_checksum 136 = .ok (.lload_n 1, 1) := by decide +kernel
theorem dX7_checksum_137 : decode cX7_checksum 137 = .ok (.goto 18, 3) := by decide +kernel
theorem dX7_checksum_140 : decode cX7_checksum 140 = .ok (.ldc2_w 327, 3) := by decide +kernel
theorem dX7_checksum_143 : decode cX7_checksum 143 = .ok (.lload_n 1, 1) := by decide +kernel
theorem dX7_checksum_144 : decode cX7_checksum 144 = .ok (.lmul, 1) := by decide +kernel
theorem dX7_checksum_145 : decode cX7_checksum 145 = .ok (.aload 6, 2) := by decide +kernel
theorem dX7_checksum_147 : decode cX7_checksum 147 = .ok (.getfield 214, 3) := by decide +kernel
theorem dX7_checksum_150 : decode cX7_checksum 150 = .ok (.getfield 200, 3) := by decide +kernel
theorem dX7_checksum_153 : decode cX7_checksum 153 = .ok (.i2l, 1) := by decide +kernel
theorem dX7_checksum_154 : decode cX7_checksum 154 = .ok (.ladd, 1) := by decide +kernel
theorem dX7_checksum_155 : decode cX7_checksum 155 = .ok (.lstore_n 1, 1) := by decide +kernel
theorem dX7_checksum_156 : decode cX7_checksum 156 = .ok (.iinc 5 1, 3) := by decide +kernel
theorem dX7_checksum_159 : decode cX7_checksum 159 = .ok (.goto (-77), 3) := by decide +kernel
theorem dX7_checksum_162 : decode cX7_checksum 162 = .ok (.ldc2_w 327, 3) := by decide +kernel
theorem dX7_checksum_165 : decode cX7_checksum 165 = .ok (.lload_n 1, 1) := by decide +kernel
theorem dX7_checksum_166 : decode cX7_checksum 166 = .ok (.lmul, 1) := by decide +kernel
theorem dX7_checksum_167 : decode cX7_checksum 167 = .ok (.aload_n 0, 1) := by decide +kernel
theorem dX7_checksum_168 : decode cX7_checksum 168 = .ok (.getfield 24, 3) := by decide +kernel
theorem dX7_checksum_171 : decode cX7_checksum 171 = .ok (.getfield 98, 3) := by decide +kernel
theorem dX7_checksum_174 : decode cX7_checksum 174 = .ok (.i2l, 1) := by decide +kernel
theorem dX7_checksum_175 : decode cX7_checksum 175 = .ok (.ladd, 1) := by decide +kernel
theorem dX7_checksum_176 : decode cX7_checksum 176 = .ok (.lreturn, 1) := by decide +kernel
set_option maxRecDepth 20000 in
theorem ggX7_isTrue_X7_areAddressesSingle : GoodIn wsX7_isTrue wsX7_areAddressesSingle := goodIn_ca (goodIn_r _ [5, 6, 7, 8, 9, 10, 4, 11, 12, 13, 14, 15, 16, 17, 18, 19, 20, 21, 22, 23, 24, 25, 26, 27, 28, 29, 30, 31, 32, 33, 34, 35, 36, 37, 38, 39, 40, 41, 42, 43, 44, 45, 46, 47, 48, 49, 50, 51, 52, 53, 54, 55, 56, 57, 58, 59, 60, 61, 62, 63, 64, 65, 66, 67, 68, 69, 70, 71, 72, 73, 74, 110, 111, 112, 113, 114, 115, 116, 117, 118, 119, 120, 121, 122, 123, 124, 125, 126, 127, 128, 129, 130, 131, 132, 133, 134, 135, 136, 137, 138, 139, 140, 141, 142, 143] (by decide +kernel) (by decide +kernel)) (goodIn_sub (fun _ h => List.mem_cons_of_mem _ (List.mem_append_right _ h)) (by decide +kernel))
set_option maxRecDepth 20000 in
theorem gX7_isTrue_X7_areAddressesSingle : GoodIn wsX7_isTrue (wsV RX7 329 RX7 yX7_areAddressesSingle wsX7_areAddressesSingle) := goodIn_app (goodIn_of _ (by decide +kernel)) ggX7_isTrue_X7_areAddressesSingle
set_option maxRecDepth 20000 in
theorem ggX7_isTrue_X7_areAddressesThere : GoodIn wsX7_isTrue wsX7_areAddressesThere := goodIn_r _ [78, 18, 79, 80, 81, 82, 45, 83, 47, 84, 48, 49, 10, 4, 11, 12, 110, 111, 112, 113, 114, 115, 116, 117, 118, 139, 140, 141, 142, 143, 127, 128, 129, 130, 131, 119, 120, 121, 122, 123, 124, 125, 126] (by decide +kernel) (by decide +kernel)
set_option maxRecDepth 20000 in
theorem gX7_isTrue_X7_areAddressesThere : GoodIn wsX7_isTrue (wsV RX7 333 RX7 yX7_areAddressesThere wsX7_areAddressesThere) := goodIn_app (goodIn_of _ (by decide +kernel)) ggX7_isTrue_X7_areAddressesThere
set_option maxRecDepth 20000 in
theorem ggX7_isTrue_X7_areNamesSingle : GoodIn wsX7_isTrue wsX7_areNamesSingle := goodIn_r _ [88, 6, 89, 90, 9, 10, 4, 11, 12, 91, 92, 93, 94, 95, 96, 97, 98, 99, 100, 101, 110, 111, 112, 113, 114, 115, 116, 117, 118, 119, 120, 121, 122, 123, 124, 125, 126] (by decide +kernel) (by decide +kernel)
set_option maxRecDepth 20000 in
theorem gX7_isTrue_X7_areNamesSingle : GoodIn wsX7_isTrue (wsV RX7 336 RX7 yX7_areNamesSingle wsX7_areNamesSingle) := goodIn_app (goodIn_of _ (by decide +kernel)) ggX7_isTrue_X7_areNamesSingle
set_option maxRecDepth 20000 in
theorem ggX7_isTrue_X7_areLeadsEnding : GoodIn wsX7_isTrue wsX7_areLeadsEnding := goodIn_r _ [105, 18, 79, 106, 107, 4, 108, 109, 110, 111, 112, 113, 114, 115, 116, 117, 118, 139, 140, 141, 142, 143] (by decide +kernel) (by decide +kernel)
set_option maxRecDepth 20000 in
theorem gX7_isTrue_X7_areLeadsEnding : GoodIn wsX7_isTrue (wsV RX7 339 RX7 yX7_areLeadsEnding wsX7_areLeadsEnding) := goodIn_app (goodIn_of _ (by decide +kernel)) ggX7_isTrue_X7_areLeadsEnding
theorem dX7_isTrue_0 : decode cX7_isTrue 0 = .ok (.aload_n 0, 1) := by decide +kernel
theorem dX7_isTrue_1 : decode cX7_isTrue 1 = .ok (.invokevirtual 329, 3) := by decide +kernel
theorem dX7_isTrue_4 : decode cX7_isTrue 4 = .ok (.ifCond .eq 28, 3) := by decide +kernel
theorem dX7_isTrue_7 : decode cX7_isTrue 7 = .ok (.aload_n 0, 1) := by decide +kernel
theorem dX7_isTrue_8 : decode cX7_isTrue 8 = .ok (.invokevirtual 333, 3) := by decide +kernel
theorem dX7_isTrue_11 : decode cX7_isTrue 11 = .ok (.ifCond .eq 21, 3) := by decide +kernel
theorem dX7_isTrue_14 : decode cX7_isTrue 14 = .ok (.aload_n 0, 1) := by decide +kernel
theorem dX7_isTrue_15 : decode cX7_isTrue 15 = .ok (.invokevirtual 336, 3) := by decide +kernel
theorem dX7_isTrue_18 : decode cX7_isTrue 18 = .ok (.ifCond .eq 14, 3) := by decide +kernel
theorem dX7_isTrue_21 : decode cX7_isTrue 21 = .ok (.aload_n 0, 1) := by decide +kernel
theorem dX7_isTrue_22 : decode cX7_isTrue 22 = .ok (.invokevirtual 339, 3) := by decide +kernel
theorem dX7_isTrue_25 : decode cX7_isTrue 25 = .ok (.ifCond .eq 7, 3) := by decide +kernel
theorem dX7_isTrue_28 : decode cX7_isTrue 28 = .ok (.iconst 1, 1) := by decide +kernel
theorem dX7_isTrue_29 : decode cX7_isTrue 29 = .ok (.goto 4, 3) := by decide +kernel
theorem dX7_isTrue_32 : decode cX7_isTrue 32 = .ok (.iconst 0, 1) := by decide +kernel
theorem dX7_isTrue_33 : decode cX7_isTrue 33 = .ok (.ireturn, 1) := by decide +kernel
theorem dX7_isWay_0 : decode cX7_isWay 0 = .ok (.iload_n 0, 1) := by decide +kernel
theorem dX7_isWay_1 : decode cX7_isWay 1 = .ok (.bipush 115, 2) := by decide +kernel
theorem dX7_isWay_3 : decode cX7_isWay 3 = .ok (.if_icmp .eq 15, 3) := by decide +kernel
theorem dX7_isWay_6 : decode cX7_isWay 6 = .ok (.iload_n 0, 1) := by decide +kernel
theorem dX7_isWay_7 : decode cX7_isWay 7 = .ok (.bipush 109, 2) := by decide +kernel
theorem dX7_isWay_9 : decode cX7_isWay 9 = .ok (.if_icmp .eq 9, 3) := by decide +kernel
theorem dX7_isWay_12 : decode cX7_isWay 12 = .ok (.iload_n 0, 1) := by decide +kernel
theorem dX7_isWay_13 : decode cX7_isWay 13 = .ok (.bipush 121, 2) := by decide +kernel
theorem dX7_isWay_15 : decode cX7_isWay 15 = .ok (.if_icmp .ne 7, 3) := by decide +kernel
theorem dX7_isWay_18 : decode cX7_isWay 18 = .ok (.iconst 1, 1) := by decide +kernel
theorem dX7_isWay_19 : decode cX7_isWay 19 = .ok (.goto 4, 3) := by decide +kernel
theorem dX7_isWay_22 : decode cX7_isWay 22 = .ok (.iconst 0, 1) := by decide +kernel
theorem dX7_isWay_23 : decode cX7_isWay 23 = .ok (.ireturn, 1) := by decide +kernel
theorem dX7_isPlace_0 : decode cX7_isPlace 0 = .ok (.iload_n 1, 1) := by decide +kernel
theorem dX7_isPlace_1 : decode cX7_isPlace 1 = .ok (.ifCond .lt 27, 3) := by decide +kernel
theorem dX7_isPlace_4 : decode cX7_isPlace 4 = .ok (.iload_n 1, 1) := by decide +kernel
theorem dX7_isPlace_5 : decode cX7_isPlace 5 = .ok (.aload_n 0, 1) := by decide +kernel
theorem dX7_isPlace_6 : decode cX7_isPlace 6 = .ok (.getfield 136, 3) := by decide +kernel
theorem dX7_isPlace_9 : decode cX7_isPlace 9 = .ok (.if_icmp .gt 19, 3) := by decide +kernel
theorem dX7_isPlace_12 : decode cX7_isPlace 12 = .ok (.iload_n 2, 1) := by decide +kernel
theorem dX7_isPlace_13 : decode cX7_isPlace 13 = .ok (.bipush 108, 2) := by decide +kernel
theorem dX7_isPlace_15 : decode cX7_isPlace 15 = .ok (.if_icmp .eq 9, 3) := by decide +kernel
theorem dX7_isPlace_18 : decode cX7_isPlace 18 = .ok (.iload_n 2, 1) := by decide +kernel
theorem dX7_isPlace_19 : decode cX7_isPlace 19 = .ok (.bipush 114, 2) := by decide +kernel
theorem dX7_isPlace_21 : decode cX7_isPlace 21 = .ok (.if_icmp .ne 7, 3) := by decide +kernel
theorem dX7_isPlace_24 : decode cX7_isPlace 24 = .ok (.iconst 1, 1) := by decide +kernel
theorem dX7_isPlace_25 : decode cX7_isPlace 25 = .ok (.goto 4, 3) := by decide +kernel
theorem dX7_isPlace_28 : decode cX7_isPlace 28 = .ok (.iconst 0, 1) := by decide +kernel
theorem dX7_isPlace_29 : decode cX7_isPlace 29 = .ok (.ireturn, 1) := by decide +kernel
theorem dX7_isStanding_0 : decode cX7_isStanding 0 = .ok (.aload_n 0, 1) := by decide +kernel
theorem dX7_isStanding_1 : decode cX7_isStanding 1 = .ok (.ifnull 14, 3) := by decide +kernel
theorem dX7_isStanding_4 : decode cX7_isStanding 4 = .ok (.aload_n 0, 1) := by decide +kernel
theorem dX7_isStanding_5 : decode cX7_isStanding 5 = .ok (.getfield 176, 3) := by decide +kernel
theorem dX7_isStanding_8 : decode cX7_isStanding 8 = .ok (.ifCond .ne 7, 3) := by decide +kernel
theorem dX7_isStanding_11 : decode cX7_isStanding 11 = .ok (.iconst 1, 1) := by decide +kernel
theorem dX7_isStanding_12 : decode cX7_isStanding 12 = .ok (.goto 4, 3) := by decide +kernel
theorem dX7_isStanding_15 : decode cX7_isStanding 15 = .ok (.iconst 0, 1) := by decide +kernel
theorem dX7_isStanding_16 : decode cX7_isStanding 16 = .ok (.ireturn, 1) := by decide +kernel
set_option maxRecDepth 20000 in
theorem ggX7_standing_X7_isStanding : GoodIn wsX7_standing wsX7_isStanding := goodIn_r _ [7, 8, 18, 19, 20, 21, 22, 23, 24, 25] (by decide +kernel) (by decide +kernel)
set_option maxRecDepth 20000 in
theorem gX7_standing_X7_isStanding : GoodIn wsX7_standing (va_wsS RX7 179 yX7_isStanding wsX7_isStanding) := goodIn_app (goodIn_of _ (by decide +kernel)) ggX7_standing_X7_isStanding
theorem dX7_standing_0 : decode cX7_standing 0 = .ok (.iload_n 1, 1) := by decide +kernel
theorem dX7_standing_1 : decode cX7_standing 1 = .ok (.ifCond .lt 24, 3) := by decide +kernel
theorem dX7_standing_4 : decode cX7_standing 4 = .ok (.iload_n 1, 1) := by decide +kernel
theorem dX7_standing_5 : decode cX7_standing 5 = .ok (.aload_n 0, 1) := by decide +kernel
theorem dX7_standing_6 : decode cX7_standing 6 = .ok (.getfield 11, 3) := by decide +kernel
theorem dX7_standing_9 : decode cX7_standing 9 = .ok (.arraylength, 1) := by decide +kernel
theorem dX7_standing_10 : decode cX7_standing 10 = .ok (.if_icmp .ge 15, 3) := by decide +kernel
theorem dX7_standing_13 : decode cX7_standing 13 = .ok (.aload_n 0, 1) := by decide +kernel
theorem dX7_standing_14 : decode cX7_standing 14 = .ok (.getfield 11, 3) := by decide +kernel
theorem dX7_standing_17 : decode cX7_standing 17 = .ok (.iload_n 1, 1) := by decide +kernel
theorem dX7_standing_18 : decode cX7_standing 18 = .ok (.aaload, 1) := by decide +kernel
theorem dX7_standing_19 : decode cX7_standing 19 = .ok (.invokestatic 179, 3) := by decide +kernel
theorem dX7_standing_22 : decode cX7_standing 22 = .ok (.ifCond .ne 14, 3) := by decide +kernel
theorem dX7_standing_25 : decode cX7_standing 25 = .ok (.new 342, 3) := by decide +kernel
theorem dX7_standing_28 : decode cX7_standing 28 = .ok (.dup, 1) := by decide +kernel
theorem dX7_standing_29 : decode cX7_standing 29 = .ok (.ldc_w 344, 3) := by decide +kernel
theorem dX7_standing_32 : decode cX7_standing 32 = .ok (.invokespecial 346, 3) := by decide +kernel
theorem dX7_standing_35 : decode cX7_standing 35 = .ok (.athrow, 1) := by decide +kernel
theorem dX7_standing_36 : decode cX7_standing 36 = .ok (.aload_n 0, 1) := by decide +kernel
theorem dX7_standing_37 : decode cX7_standing 37 = .ok (.getfield 11, 3) := by decide +kernel
theorem dX7_standing_40 : decode cX7_standing 40 = .ok (.iload_n 1, 1) := by decide +kernel
theorem dX7_standing_41 : decode cX7_standing 41 = .ok (.aaload, 1) := by decide +kernel
theorem dX7_standing_42 : decode cX7_standing 42 = .ok (.areturn, 1) := by decide +kernel
theorem dX7_doorAt_0 : decode cX7_doorAt 0 = .ok (.iload_n 1, 1) := by decide +kernel
theorem dX7_doorAt_1 : decode cX7_doorAt 1 = .ok (.ifCond .lt 12, 3) := by decide +kernel
theorem dX7_doorAt_4 : decode cX7_doorAt 4 = .ok (.iload_n 1, 1) := by decide +kernel
theorem dX7_doorAt_5 : decode cX7_doorAt 5 = .ok (.aload_n 0, 1) := by decide +kernel
theorem dX7_doorAt_6 : decode cX7_doorAt 6 = .ok (.getfield 17, 3) := by decide +kernel
theorem dX7_doorAt_9 : decode cX7_doorAt 9 = .ok (.arraylength, 1) := by decide +kernel
theorem dX7_doorAt_10 : decode cX7_doorAt 10 = .ok (.if_icmp .lt 5, 3) := by decide +kernel
theorem dX7_doorAt_13 : decode cX7_doorAt 13 = .ok (.aconst_null, 1) := by decide +kernel
theorem dX7_doorAt_14 : decode cX7_doorAt 14 = .ok (.areturn, 1) := by decide +kernel
theorem dX7_doorAt_15 : decode cX7_doorAt 15 = .ok (.aload_n 0, 1) := by decide +kernel
theorem dX7_doorAt_16 : decode cX7_doorAt 16 = .ok (.getfield 17, 3) := by decide +kernel
theorem dX7_doorAt_19 : decode cX7_doorAt 19 = .ok (.iload_n 1, 1) := by decide +kernel
theorem dX7_doorAt_20 : decode cX7_doorAt 20 = .ok (.aaload, 1) := by decide +kernel
theorem dX7_doorAt_21 : decode cX7_doorAt 21 = .ok (.areturn, 1) := by decide +kernel
set_option maxRecDepth 20000 in
theorem ggX7_known_X7_doorAt : GoodIn wsX7_known wsX7_doorAt := goodIn_r _ [7, 8, 9, 10, 11, 12, 13, 14, 15, 16, 17] (by decide +kernel) (by decide +kernel)
set_option maxRecDepth 20000 in
theorem gX7_known_X7_doorAt : GoodIn wsX7_known (wsV RX7 278 RX7 yX7_doorAt wsX7_doorAt) := goodIn_app (goodIn_of _ (by decide +kernel)) ggX7_known_X7_doorAt
theorem dX7_known_0 : decode cX7_known 0 = .ok (.aload_n 0, 1) := by decide +kernel
theorem dX7_known_1 : decode cX7_known 1 = .ok (.iload_n 1, 1) := by decide +kernel
theorem dX7_known_2 : decode cX7_known 2 = .ok (.invokevirtual 278, 3) := by decide +kernel
theorem dX7_known_5 : decode cX7_known 5 = .ok (.astore_n 2, 1) := by decide +kernel
theorem dX7_known_6 : decode cX7_known 6 = .ok (.aload_n 2, 1) := by decide +kernel
theorem dX7_known_7 : decode cX7_known 7 = .ok (.ifnonnull 14, 3) := by decide +kernel
theorem dX7_known_10 : decode cX7_known 10 = .ok (.new 342, 3) := by decide +kernel
theorem dX7_known_13 : decode cX7_known 13 = .ok (.dup, 1) := by decide +kernel
theorem dX7_known_14 : decode cX7_known 14 = .ok (.ldc_w 347, 3) := by decide +kernel
theorem dX7_known_17 : decode cX7_known 17 = .ok (.invokespecial 346, 3) := by decide +kernel
theorem dX7_known_20 : decode cX7_known 20 = .ok (.athrow, 1) := by decide +kernel
theorem dX7_known_21 : decode cX7_known 21 = .ok (.aload_n 2, 1) := by decide +kernel
theorem dX7_known_22 : decode cX7_known 22 = .ok (.areturn, 1) := by decide +kernel
set_option maxRecDepth 20000 in
theorem ggX7_isInUse_X7_isStanding : GoodIn wsX7_isInUse wsX7_isStanding := goodIn_r _ [5, 6, 23, 24, 25, 26, 27, 28, 29, 30] (by decide +kernel) (by decide +kernel)
set_option maxRecDepth 20000 in
theorem gX7_isInUse_X7_isStanding : GoodIn wsX7_isInUse (va_wsS RX7 179 yX7_isStanding wsX7_isStanding) := goodIn_app (goodIn_of _ (by decide +kernel)) ggX7_isInUse_X7_isStanding
set_option maxRecDepth 20000 in
theorem ggX7_isInUse_X6_hasName : GoodIn wsX7_isInUse wsX6_hasName := goodIn_r _ [11, 12, 13, 23, 24, 25, 26, 27, 28, 29, 30] (by decide +kernel) (by decide +kernel)
set_option maxRecDepth 20000 in
theorem gX7_isInUse_X6_hasName : GoodIn wsX7_isInUse (wsV RX7 349 RX6 yX6_hasName wsX6_hasName) := goodIn_app (goodIn_of _ (by decide +kernel)) ggX7_isInUse_X6_hasName
theorem dX7_isInUse_0 : decode cX7_isInUse 0 = .ok (.aload_n 0, 1) := by decide +kernel
theorem dX7_isInUse_1 : decode cX7_isInUse 1 = .ok (.getfield 11, 3) := by decide +kernel
theorem dX7_isInUse_4 : decode cX7_isInUse 4 = .ok (.astore_n 3, 1) := by decide +kernel
theorem dX7_isInUse_5 : decode cX7_isInUse 5 = .ok (.aload_n 3, 1) := by decide +kernel
theorem dX7_isInUse_6 : decode cX7_isInUse 6 = .ok (.arraylength, 1) := by decide +kernel
theorem dX7_isInUse_7 : decode cX7_isInUse 7 = .ok (.istore 4, 2) := by decide +kernel
theorem dX7_isInUse_9 : decode cX7_isInUse 9 = .ok (.iconst 0, 1) := by decide +kernel
theorem dX7_isInUse_10 : decode cX7_isInUse 10 = .ok (.istore 5, 2) := by decide +kernel
theorem dX7_isInUse_12 : decode cX7_isInUse 12 = .ok (.iload 5, 2) := by decide +kernel
theorem dX7_isInUse_14 : decode cX7_isInUse 14 = .ok (.iload 4, 2) := by decide +kernel
theorem dX7_isInUse_16 : decode cX7_isInUse 16 = .ok (.if_icmp .ge 34, 3) := by decide +kernel
theorem dX7_isInUse_19 : decode cX7_isInUse 19 = .ok (.aload_n 3, 1) := by decide +kernel
theorem dX7_isInUse_20 : decode cX7_isInUse 20 = .ok (.iload 5, 2) := by decide +kernel
theorem dX7_isInUse_22 : decode cX7_isInUse 22 = .ok (.aaload, 1) := by decide +kernel
theorem dX7_isInUse_23 : decode cX7_isInUse 23 = .ok (.astore 6, 2) := by decide +kernel
theorem dX7_isInUse_25 : decode cX7_isInUse 25 = .ok (.aload 6, 2) := by decide +kernel
theorem dX7_isInUse_27 : decode cX7_isInUse 27 = .ok (.invokestatic 179, 3) := by decide +kernel
theorem dX7_isInUse_30 : decode cX7_isInUse 30 = .ok (.ifCond .eq 14, 3) := by decide +kernel
theorem dX7_isInUse_33 : decode cX7_isInUse 33 = .ok (.aload 6, 2) := by decide +kernel
theorem dX7_isInUse_35 : decode cX7_isInUse 35 = .ok (.lload_n 1, 1) := by decide +kernel
theorem dX7_isInUse_36 : decode cX7_isInUse 36 = .ok (.invokevirtual 349, 3) := by decide +kernel
theorem dX7_isInUse_39 : decode cX7_isInUse 39 = .ok (.ifCond .eq 5, 3) := by decide +kernel
theorem dX7_isInUse_42 : decode cX7_isInUse 42 = .ok (.iconst 1, 1) := by decide +kernel
theorem dX7_isInUse_43 : decode cX7_isInUse 43 = .ok (.ireturn, 1) := by decide +kernel
theorem dX7_isInUse_44 : decode cX7_isInUse 44 = .ok (.iinc 5 1, 3) := by decide +kernel
theorem dX7_isInUse_47 : decode cX7_isInUse 47 = .ok (.goto (-35), 3) := by decide +kernel
theorem dX7_isInUse_50 : decode cX7_isInUse 50 = .ok (.iconst 0, 1) := by decide +kernel
theorem dX7_isInUse_51 : decode cX7_isInUse 51 = .ok (.ireturn, 1) := by decide +kernel
set_option maxRecDepth 20000 in
theorem ggX7_placeOf_X0_placeOn : GoodIn wsX7_placeOf wsX0_placeOn := goodIn_r _ [5, 6, 7, 8, 9, 10, 11, 12, 13, 14, 15, 16, 17, 18] (by decide +kernel) (by decide +kernel)
set_option maxRecDepth 20000 in
theorem gX7_placeOf_X0_placeOn : GoodIn wsX7_placeOf (wsV RX7 218 RX0 yX0_placeOn wsX0_placeOn) := goodIn_app (goodIn_of _ (by decide +kernel)) ggX7_placeOf_X0_placeOn
theorem dX7_placeOf_0 : decode cX7_placeOf 0 = .ok (.aload_n 0, 1) := by decide +kernel
theorem dX7_placeOf_1 : decode cX7_placeOf 1 = .ok (.ifnonnull 7, 3) := by decide +kernel
theorem dX7_placeOf_4 : decode cX7_placeOf 4 = .ok (.aconst_null, 1) := by decide +kernel
theorem dX7_placeOf_5 : decode cX7_placeOf 5 = .ok (.goto 8, 3) := by decide +kernel
theorem dX7_placeOf_8 : decode cX7_placeOf 8 = .ok (.aload_n 0, 1) := by decide +kernel
theorem dX7_placeOf_9 : decode cX7_placeOf 9 = .ok (.aload_n 1, 1) := by decide +kernel
theorem dX7_placeOf_10 : decode cX7_placeOf 10 = .ok (.invokevirtual 218, 3) := by decide +kernel
theorem dX7_placeOf_13 : decode cX7_placeOf 13 = .ok (.areturn, 1) := by decide +kernel
set_option maxRecDepth 20000 in
theorem ggX7_doorsOn_X7_placeOf : GoodIn wsX7_doorsOn wsX7_placeOf := goodIn_r _ [5, 6, 7, 8, 9, 10, 11, 12, 13, 23, 24, 25, 26, 27, 28, 29, 30, 31, 32] (by decide +kernel) (by decide +kernel)
set_option maxRecDepth 20000 in
theorem gX7_doorsOn_X7_placeOf : GoodIn wsX7_doorsOn (va_wsS RX7 299 yX7_placeOf wsX7_placeOf) := goodIn_app (goodIn_of _ (by decide +kernel)) ggX7_doorsOn_X7_placeOf
theorem dX7_doorsOn_0 : decode cX7_doorsOn 0 = .ok (.iconst 0, 1) := by decide +kernel
theorem dX7_doorsOn_1 : decode cX7_doorsOn 1 = .ok (.istore_n 2, 1) := by decide +kernel
theorem dX7_doorsOn_2 : decode cX7_doorsOn 2 = .ok (.aload_n 0, 1) := by decide +kernel
theorem dX7_doorsOn_3 : decode cX7_doorsOn 3 = .ok (.getfield 17, 3) := by decide +kernel
theorem dX7_doorsOn_6 : decode cX7_doorsOn 6 = .ok (.astore_n 3, 1) := by decide +kernel
theorem dX7_doorsOn_7 : decode cX7_doorsOn 7 = .ok (.aload_n 3, 1) := by decide +kernel
theorem dX7_doorsOn_8 : decode cX7_doorsOn 8 = .ok (.arraylength, 1) := by decide +kernel
theorem dX7_doorsOn_9 : decode cX7_doorsOn 9 = .ok (.istore 4, 2) := by decide +kernel
theorem dX7_doorsOn_11 : decode cX7_doorsOn 11 = .ok (.iconst 0, 1) := by decide +kernel
theorem dX7_doorsOn_12 : decode cX7_doorsOn 12 = .ok (.istore 5, 2) := by decide +kernel
theorem dX7_doorsOn_14 : decode cX7_doorsOn 14 = .ok (.iload 5, 2) := by decide +kernel
theorem dX7_doorsOn_16 : decode cX7_doorsOn 16 = .ok (.iload 4, 2) := by decide +kernel
theorem dX7_doorsOn_18 : decode cX7_doorsOn 18 = .ok (.if_icmp .ge 27, 3) := by decide +kernel
theorem dX7_doorsOn_21 : decode cX7_doorsOn 21 = .ok (.aload_n 3, 1) := by decide +kernel
theorem dX7_doorsOn_22 : decode cX7_doorsOn 22 = .ok (.iload 5, 2) := by decide +kernel
theorem dX7_doorsOn_24 : decode cX7_doorsOn 24 = .ok (.aaload, 1) := by decide +kernel
theorem dX7_doorsOn_25 : decode cX7_doorsOn 25 = .ok (.astore 6, 2) := by decide +kernel
theorem dX7_doorsOn_27 : decode cX7_doorsOn 27 = .ok (.aload 6, 2) := by decide +kernel
theorem dX7_doorsOn_29 : decode cX7_doorsOn 29 = .ok (.aload_n 1, 1) := by decide +kernel
theorem dX7_doorsOn_30 : decode cX7_doorsOn 30 = .ok (.invokestatic 299, 3) := by decide +kernel
theorem dX7_doorsOn_33 : decode cX7_doorsOn 33 = .ok (.ifnull 6, 3) := by decide +kernel
theorem dX7_doorsOn_36 : decode cX7_doorsOn 36 = .ok (.iinc 2 1, 3) := by decide +kernel
theorem dX7_doorsOn_39 : decode cX7_doorsOn 39 = .ok (.iinc 5 1, 3) := by decide +kernel
theorem dX7_doorsOn_42 : decode cX7_doorsOn 42 = .ok (.goto (-28), 3) := by decide +kernel
theorem dX7_doorsOn_45 : decode cX7_doorsOn 45 = .ok (.iload_n 2, 1) := by decide +kernel
theorem dX7_doorsOn_46 : decode cX7_doorsOn 46 = .ok (.ireturn, 1) := by decide +kernel
set_option maxRecDepth 20000 in
theorem ggX7_doorNow_X0_hasAddress : GoodIn wsX7_doorNow wsX0_hasAddress := goodIn_r _ [6, 7, 8, 9, 10, 11, 12, 13, 14, 15, 16, 17, 18, 19, 20, 21, 22, 32, 33, 34, 35, 36, 37, 38, 39, 40, 41, 42, 43, 44, 45, 46, 47, 48, 49] (by decide +kernel) (by decide +kernel)
set_option maxRecDepth 20000 in
theorem gX7_doorNow_X0_hasAddress : GoodIn wsX7_doorNow (wsV RX7 352 RX0 yX0_hasAddress wsX0_hasAddress) := goodIn_app (goodIn_of _ (by decide +kernel)) ggX7_doorNow_X0_hasAddress
theorem dX7_doorNow_0 : decode cX7_doorNow 0 = .ok (.aload_n 0, 1) := by decide +kernel
theorem dX7_doorNow_1 : decode cX7_doorNow 1 = .ok (.getfield 17, 3) := by decide +kernel
theorem dX7_doorNow_4 : decode cX7_doorNow 4 = .ok (.astore 4, 2) := by decide +kernel
theorem dX7_doorNow_6 : decode cX7_doorNow 6 = .ok (.aload 4, 2) := by decide +kernel
theorem dX7_doorNow_8 : decode cX7_doorNow 8 = .ok (.arraylength, 1) := by decide +kernel
theorem dX7_doorNow_9 : decode cX7_doorNow 9 = .ok (.istore 5, 2) := by decide +kernel
theorem dX7_doorNow_11 : decode cX7_doorNow 11 = .ok (.iconst 0, 1) := by decide +kernel
theorem dX7_doorNow_12 : decode cX7_doorNow 12 = .ok (.istore 6, 2) := by decide +kernel
theorem dX7_doorNow_14 : decode cX7_doorNow 14 = .ok (.iload 6, 2) := by decide +kernel
theorem dX7_doorNow_16 : decode cX7_doorNow 16 = .ok (.iload 5, 2) := by decide +kernel
theorem dX7_doorNow_18 : decode cX7_doorNow 18 = .ok (.if_icmp .ge 34, 3) := by decide +kernel
theorem dX7_doorNow_21 : decode cX7_doorNow 21 = .ok (.aload 4, 2) := by decide +kernel
theorem dX7_doorNow_23 : decode cX7_doorNow 23 = .ok (.iload 6, 2) := by decide +kernel
theorem dX7_doorNow_25 : decode cX7_doorNow 25 = .ok (.aaload, 1) := by decide +kernel
theorem dX7_doorNow_26 : decode cX7_doorNow 26 = .ok (.astore 7, 2) := by decide +kernel
theorem dX7_doorNow_28 : decode cX7_doorNow 28 = .ok (.aload 7, 2) := by decide +kernel
theorem dX7_doorNow_30 : decode cX7_doorNow 30 = .ok (.ifnull 16, 3) := by decide +kernel
theorem dX7_doorNow_33 : decode cX7_doorNow 33 = .ok (.aload 7, 2) := by decide +kernel
theorem dX7_doorNow_35 : decode cX7_doorNow 35 = .ok (.lload_n 1, 1) := by decide +kernel
theorem dX7_doorNow_36 : decode cX7_doorNow 36 = .ok (.iload_n 3, 1) := by decide +kernel
theorem dX7_doorNow_37 : decode cX7_doorNow 37 = .ok (.invokevirtual 352, 3) := by decide +kernel
theorem dX7_doorNow_40 : decode cX7_doorNow 40 = .ok (.ifCond .eq 6, 3) := by decide +kernel
theorem dX7_doorNow_43 : decode cX7_doorNow 43 = .ok (.aload 7, 2) := by decide +kernel
theorem dX7_doorNow_45 : decode cX7_doorNow 45 = .ok (.areturn, 1) := by decide +kernel
theorem dX7_doorNow_46 : decode cX7_doorNow 46 = .ok (.iinc 6 1, 3) := by decide +kernel
theorem dX7_doorNow_49 : decode cX7_doorNow 49 = .ok (.goto (-35), 3) := by decide +kernel
theorem dX7_doorNow_52 : decode cX7_doorNow 52 = .ok (.aconst_null, 1) := by decide +kernel
theorem dX7_doorNow_53 : decode cX7_doorNow 53 = .ok (.areturn, 1) := by decide +kernel
theorem dX7_endOf_0 : decode cX7_endOf 0 = .ok (.aload_n 0, 1) := by decide +kernel
theorem dX7_endOf_1 : decode cX7_endOf 1 = .ok (.astore_n 1, 1) := by decide +kernel
theorem dX7_endOf_2 : decode cX7_endOf 2 = .ok (.iconst 0, 1) := by decide +kernel
theorem dX7_endOf_3 : decode cX7_endOf 3 = .ok (.istore_n 2, 1) := by decide +kernel
theorem dX7_endOf_4 : decode cX7_endOf 4 = .ok (.iload_n 2, 1) := by decide +kernel
theorem dX7_endOf_5 : decode cX7_endOf 5 = .ok (.bipush 40, 2) := by decide +kernel
theorem dX7_endOf_7 : decode cX7_endOf 7 = .ok (.if_icmp .ge 25, 3) := by decide +kernel
theorem dX7_endOf_10 : decode cX7_endOf 10 = .ok (.aload_n 1, 1) := by decide +kernel
theorem dX7_endOf_11 : decode cX7_endOf 11 = .ok (.ifnull 21, 3) := by decide +kernel
theorem dX7_endOf_14 : decode cX7_endOf 14 = .ok (.aload_n 1, 1) := by decide +kernel
theorem dX7_endOf_15 : decode cX7_endOf 15 = .ok (.getfield 213, 3) := by decide +kernel
theorem dX7_endOf_18 : decode cX7_endOf 18 = .ok (.ifCond .eq 14, 3) := by decide +kernel
theorem dX7_endOf_21 : decode cX7_endOf 21 = .ok (.aload_n 1, 1) := by decide +kernel
theorem dX7_endOf_22 : decode cX7_endOf 22 = .ok (.getfield 232, 3) := by decide +kernel
theorem dX7_endOf_25 : decode cX7_endOf 25 = .ok (.astore_n 1, 1) := by decide +kernel
theorem dX7_endOf_26 : decode cX7_endOf 26 = .ok (.iinc 2 1, 3) := by decide +kernel
theorem dX7_endOf_29 : decode cX7_endOf 29 = .ok (.goto (-25), 3) := by decide +kernel
theorem dX7_endOf_32 : decode cX7_endOf 32 = .ok (.aload_n 1, 1) := by decide +kernel
theorem dX7_endOf_33 : decode cX7_endOf 33 = .ok (.areturn, 1) := by decide +kernel
set_option maxRecDepth 20000 in
theorem ggX7_leadingTo_X7_endOf : GoodIn wsX7_leadingTo wsX7_endOf := goodIn_r _ [5, 6, 7, 17, 18, 19, 20, 21] (by decide +kernel) (by decide +kernel)
set_option maxRecDepth 20000 in
theorem gX7_leadingTo_X7_endOf : GoodIn wsX7_leadingTo (va_wsS RX7 281 yX7_endOf wsX7_endOf) := goodIn_app (goodIn_of _ (by decide +kernel)) ggX7_leadingTo_X7_endOf
theorem dX7_leadingTo_0 : decode cX7_leadingTo 0 = .ok (.iconst 0, 1) := by decide +kernel
theorem dX7_leadingTo_1 : decode cX7_leadingTo 1 = .ok (.istore_n 2, 1) := by decide +kernel
theorem dX7_leadingTo_2 : decode cX7_leadingTo 2 = .ok (.aload_n 0, 1) := by decide +kernel
theorem dX7_leadingTo_3 : decode cX7_leadingTo 3 = .ok (.getfield 17, 3) := by decide +kernel
theorem dX7_leadingTo_6 : decode cX7_leadingTo 6 = .ok (.astore_n 3, 1) := by decide +kernel
theorem dX7_leadingTo_7 : decode cX7_leadingTo 7 = .ok (.aload_n 3, 1) := by decide +kernel
theorem dX7_leadingTo_8 : decode cX7_leadingTo 8 = .ok (.arraylength, 1) := by decide +kernel
theorem dX7_leadingTo_9 : decode cX7_leadingTo 9 = .ok (.istore 4, 2) := by decide +kernel
theorem dX7_leadingTo_11 : decode cX7_leadingTo 11 = .ok (.iconst 0, 1) := by decide +kernel
theorem dX7_leadingTo_12 : decode cX7_leadingTo 12 = .ok (.istore 5, 2) := by decide +kernel
theorem dX7_leadingTo_14 : decode cX7_leadingTo 14 = .ok (.iload 5, 2) := by decide +kernel
theorem dX7_leadingTo_16 : decode cX7_leadingTo 16 = .ok (.iload 4, 2) := by decide +kernel
theorem dX7_leadingTo_18 : decode cX7_leadingTo 18 = .ok (.if_icmp .ge 38, 3) := by decide +kernel
theorem dX7_leadingTo_21 : decode cX7_leadingTo 21 = .ok (.aload_n 3, 1) := by decide +kernel
theorem dX7_leadingTo_22 : decode cX7_leadingTo 22 = .ok (.iload 5, 2) := by decide +kernel
theorem dX7_leadingTo_24 : decode cX7_leadingTo 24 = .ok (.aaload, 1) := by decide +kernel
theorem dX7_leadingTo_25 : decode cX7_leadingTo 25 = .ok (.astore 6, 2) := by decide +kernel
theorem dX7_leadingTo_27 : decode cX7_leadingTo 27 = .ok (.aload 6, 2) := by decide +kernel
theorem dX7_leadingTo_29 : decode cX7_leadingTo 29 = .ok (.ifnull 21, 3) := by decide +kernel
theorem dX7_leadingTo_32 : decode cX7_leadingTo 32 = .ok (.aload 6, 2) := by decide +kernel
theorem dX7_leadingTo_34 : decode cX7_leadingTo 34 = .ok (.aload_n 1, 1) := by decide +kernel
theorem dX7_leadingTo_35 : decode cX7_leadingTo 35 = .ok (.if_acmp .eq 15, 3) := by decide +kernel
theorem dX7_leadingTo_38 : decode cX7_leadingTo 38 = .ok (.aload 6, 2) := by decide +kernel
theorem dX7_leadingTo_40 : decode cX7_leadingTo 40 = .ok (.invokestatic 281, 3) := by decide +kernel
theorem dX7_leadingTo_43 : decode cX7_leadingTo 43 = .ok (.aload_n 1, 1) := by decide +kernel
theorem dX7_leadingTo_44 : decode cX7_leadingTo 44 = .ok (.if_acmp .ne 6, 3) := by decide +kernel
theorem dX7_leadingTo_47 : decode cX7_leadingTo 47 = .ok (.iinc 2 1, 3) := by decide +kernel
theorem dX7_leadingTo_50 : decode cX7_leadingTo 50 = .ok (.iinc 5 1, 3) := by decide +kernel
theorem dX7_leadingTo_53 : decode cX7_leadingTo 53 = .ok (.goto (-39), 3) := by decide +kernel
theorem dX7_leadingTo_56 : decode cX7_leadingTo 56 = .ok (.iload_n 2, 1) := by decide +kernel
theorem dX7_leadingTo_57 : decode cX7_leadingTo 57 = .ok (.ireturn, 1) := by decide +kernel
set_option maxRecDepth 20000 in
theorem ggX7_remember_X3_keep : GoodIn wsX7_remember wsX3_keep := goodIn_ca (goodIn_r _ [9, 10, 11, 12, 13, 14, 15, 16, 17, 18, 19, 20, 21, 8, 22, 37, 38, 39, 40, 41, 42] (by decide +kernel) (by decide +kernel)) (goodIn_sub (fun _ h => List.mem_cons_of_mem _ (List.mem_append_right _ h)) (by decide +kernel))
set_option maxRecDepth 20000 in
theorem gX7_remember_X3_keep : GoodIn wsX7_remember (wsV RX7 359 RX3 yX3_keep wsX3_keep) := goodIn_app (goodIn_of _ (by decide +kernel)) ggX7_remember_X3_keep
theorem dX7_remember_0 : decode cX7_remember 0 = .ok (.lload_n 1, 1) := by decide +kernel
theorem dX7_remember_1 : decode cX7_remember 1 = .ok (.lconst 0, 1) := by decide +kernel
theorem dX7_remember_2 : decode cX7_remember 2 = .ok (.lcmp, 1) := by decide +kernel
theorem dX7_remember_3 : decode cX7_remember 3 = .ok (.ifCond .eq 27, 3) := by decide +kernel
theorem dX7_remember_6 : decode cX7_remember 6 = .ok (.aload_n 3, 1) := by decide +kernel
theorem dX7_remember_7 : decode cX7_remember 7 = .ok (.ifnull 23, 3) := by decide +kernel
theorem dX7_remember_10 : decode cX7_remember 10 = .ok (.aload_n 0, 1) := by decide +kernel
theorem dX7_remember_11 : decode cX7_remember 11 = .ok (.getfield 24, 3) := by decide +kernel
theorem dX7_remember_14 : decode cX7_remember 14 = .ok (.lload_n 1, 1) := by decide +kernel
theorem dX7_remember_15 : decode cX7_remember 15 = .ok (.aload_n 3, 1) := by decide +kernel
theorem dX7_remember_16 : decode cX7_remember 16 = .ok (.getfield 200, 3) := by decide +kernel
theorem dX7_remember_19 : decode cX7_remember 19 = .ok (.aload_n 3, 1) := by decide +kernel
theorem dX7_remember_20 : decode cX7_remember 20 = .ok (.getfield 356, 3) := by decide +kernel
theorem dX7_remember_23 : decode cX7_remember 23 = .ok (.aload_n 0, 1) := by decide +kernel
theorem dX7_remember_24 : decode cX7_remember 24 = .ok (.getfield 55, 3) := by decide +kernel
theorem dX7_remember_27 : decode cX7_remember 27 = .ok (.invokevirtual 359, 3) := by decide +kernel
theorem dX7_remember_30 : decode cX7_remember 30 = .ok (.return_, 1) := by decide +kernel
set_option maxRecDepth 20000 in
theorem ggX7_rememberBoth_X7_remember : GoodIn wsX7_rememberBoth wsX7_remember := goodIn_ca (goodIn_r _ [8, 9, 10, 11, 12, 13, 14, 15, 16, 17, 18, 19, 20, 21, 22, 23, 24, 25, 26, 27, 28, 29, 30, 44, 45, 46, 47, 48, 49, 50, 51, 52, 31, 32, 33, 34, 35, 53, 54, 55, 56, 57, 58] (by decide +kernel) (by decide +kernel)) (goodIn_sub (fun _ h => List.mem_cons_of_mem _ (List.mem_append_right _ h)) (by decide +kernel))
set_option maxRecDepth 20000 in
theorem gX7_rememberBoth_X7_remember : GoodIn wsX7_rememberBoth (wsV RX7 363 RX7 yX7_remember wsX7_remember) := goodIn_app (goodIn_of _ (by decide +kernel)) ggX7_rememberBoth_X7_remember
theorem dX7_rememberBoth_0 : decode cX7_rememberBoth 0 = .ok (.aload_n 1, 1) := by decide +kernel
theorem dX7_rememberBoth_1 : decode cX7_rememberBoth 1 = .ok (.ifnull 34, 3) := by decide +kernel
theorem dX7_rememberBoth_4 : decode cX7_rememberBoth 4 = .ok (.aload_n 1, 1) := by decide +kernel
theorem dX7_rememberBoth_5 : decode cX7_rememberBoth 5 = .ok (.getfield 247, 3) := by decide +kernel
theorem dX7_rememberBoth_8 : decode cX7_rememberBoth 8 = .ok (.ifnull 27, 3) := by decide +kernel
theorem dX7_rememberBoth_11 : decode cX7_rememberBoth 11 = .ok (.aload_n 0, 1) := by decide +kernel
theorem dX7_rememberBoth_12 : decode cX7_rememberBoth 12 = .ok (.aload_n 1, 1) := by decide +kernel
theorem dX7_rememberBoth_13 : decode cX7_rememberBoth 13 = .ok (.getfield 247, 3) := by decide +kernel
theorem dX7_rememberBoth_16 : decode cX7_rememberBoth 16 = .ok (.getfield 91, 3) := by decide +kernel
theorem dX7_rememberBoth_19 : decode cX7_rememberBoth 19 = .ok (.aload_n 1, 1) := by decide +kernel
theorem dX7_rememberBoth_20 : decode cX7_rememberBoth 20 = .ok (.invokevirtual 363, 3) := by decide +kernel
theorem dX7_rememberBoth_23 : decode cX7_rememberBoth 23 = .ok (.aload_n 0, 1) := by decide +kernel
theorem dX7_rememberBoth_24 : decode cX7_rememberBoth 24 = .ok (.aload_n 1, 1) := by decide +kernel
theorem dX7_rememberBoth_25 : decode cX7_rememberBoth 25 = .ok (.getfield 247, 3) := by decide +kernel
theorem dX7_rememberBoth_28 : decode cX7_rememberBoth 28 = .ok (.getfield 103, 3) := by decide +kernel
theorem dX7_rememberBoth_31 : decode cX7_rememberBoth 31 = .ok (.aload_n 1, 1) := by decide +kernel
theorem dX7_rememberBoth_32 : decode cX7_rememberBoth 32 = .ok (.invokevirtual 363, 3) := by decide +kernel
theorem dX7_rememberBoth_35 : decode cX7_rememberBoth 35 = .ok (.return_, 1) := by decide +kernel
set_option maxRecDepth 20000 in
theorem ggX7_rememberAll_X7_placeOf : GoodIn wsX7_rememberAll wsX7_placeOf := goodIn_r _ [5, 6, 7, 8, 9, 10, 11, 12, 13, 49, 50, 51, 52, 53, 54, 55, 56, 57, 58] (by decide +kernel) (by decide +kernel)
set_option maxRecDepth 20000 in
theorem gX7_rememberAll_X7_placeOf : GoodIn wsX7_rememberAll (va_wsS RX7 299 yX7_placeOf wsX7_placeOf) := goodIn_app (goodIn_of _ (by decide +kernel)) ggX7_rememberAll_X7_placeOf
set_option maxRecDepth 20000 in
theorem ggX7_rememberAll_X7_remember : GoodIn wsX7_rememberAll wsX7_remember := goodIn_ca (goodIn_r _ [17, 18, 19, 20, 21, 22, 23, 24, 25, 26, 27, 28, 29, 30, 31, 32, 33, 34, 35, 36, 37, 38, 39, 40, 41, 42, 43, 44, 45, 46, 47, 48, 54, 55, 56, 57, 58, 59, 60, 61, 62, 63, 64] (by decide +kernel) (by decide +kernel)) (goodIn_sub (fun _ h => List.mem_cons_of_mem _ (List.mem_append_right _ h)) (by decide +kernel))
set_option maxRecDepth 20000 in
theorem gX7_rememberAll_X7_remember : GoodIn wsX7_rememberAll (wsV RX7 363 RX7 yX7_remember wsX7_remember) := goodIn_app (goodIn_of _ (by decide +kernel)) ggX7_rememberAll_X7_remember
theorem dX7_rememberAll_0 : decode cX7_rememberAll 0 = .ok (.aload_n 0, 1) := by decide +kernel
theorem dX7_rememberAll_1 : decode cX7_rememberAll 1 = .ok (.getfield 17, 3) := by decide +kernel
theorem dX7_rememberAll_4 : decode cX7_rememberAll 4 = .ok (.astore 4, 2) := by decide +kernel
theorem dX7_rememberAll_6 : decode cX7_rememberAll 6 = .ok (.aload 4, 2) := by decide +kernel
theorem dX7_rememberAll_8 : decode cX7_rememberAll 8 = .ok (.arraylength, 1) := by decide +kernel
theorem dX7_rememberAll_9 : decode cX7_rememberAll 9 = .ok (.istore 5, 2) := by decide +kernel
theorem dX7_rememberAll_11 : decode cX7_rememberAll 11 = .ok (.iconst 0, 1) := by decide +kernel
theorem dX7_rememberAll_12 : decode cX7_rememberAll 12 = .ok (.istore 6, 2) := by decide +kernel
theorem dX7_rememberAll_14 : decode cX7_rememberAll 14 = .ok (.iload 6, 2) := by decide +kernel
theorem dX7_rememberAll_16 : decode cX7_rememberAll 16 = .ok (.iload 5, 2) := by decide +kernel
theorem dX7_rememberAll_18 : decode cX7_rememberAll 18 = .ok (.if_icmp .ge 27, 3) := by decide +kernel
theorem dX7_rememberAll_21 : decode cX7_rememberAll 21 = .ok (.aload 4, 2) := by decide +kernel
theorem dX7_rememberAll_23 : decode cX7_rememberAll 23 = .ok (.iload 6, 2) := by decide +kernel
theorem dX7_rememberAll_25 : decode cX7_rememberAll 25 = .ok (.aaload, 1) := by decide +kernel
theorem dX7_rememberAll_26 : decode cX7_rememberAll 26 = .ok (.astore 7, 2) := by decide +kernel
theorem dX7_rememberAll_28 : decode cX7_rememberAll 28 = .ok (.aload_n 0, 1) := by decide +kernel
theorem dX7_rememberAll_29 : decode cX7_rememberAll 29 = .ok (.lload_n 2, 1) := by decide +kernel
theorem dX7_rememberAll_30 : decode cX7_rememberAll 30 = .ok (.aload 7, 2) := by decide +kernel
theorem dX7_rememberAll_32 : decode cX7_rememberAll 32 = .ok (.aload_n 1, 1) := by decide +kernel
theorem dX7_rememberAll_33 : decode cX7_rememberAll 33 = .ok (.invokestatic 299, 3) := by decide +kernel
theorem dX7_rememberAll_36 : decode cX7_rememberAll 36 = .ok (.invokevirtual 363, 3) := by decide +kernel
theorem dX7_rememberAll_39 : decode cX7_rememberAll 39 = .ok (.iinc 6 1, 3) := by decide +kernel
theorem dX7_rememberAll_42 : decode cX7_rememberAll 42 = .ok (.goto (-28), 3) := by decide +kernel
theorem dX7_rememberAll_45 : decode cX7_rememberAll 45 = .ok (.return_, 1) := by decide +kernel
set_option maxRecDepth 20000 in
theorem ggX7_rememberAll__X7_placeOf : GoodIn wsX7_rememberAll_ wsX7_placeOf := goodIn_r _ [5, 6, 7, 8, 9, 10, 11, 12, 13, 56, 57, 58, 59, 60, 61, 62, 63, 64, 65] (by decide +kernel) (by decide +kernel)
set_option maxRecDepth 20000 in
theorem gX7_rememberAll__X7_placeOf : GoodIn wsX7_rememberAll_ (va_wsS RX7 299 yX7_placeOf wsX7_placeOf) := goodIn_app (goodIn_of _ (by decide +kernel)) ggX7_rememberAll__X7_placeOf
set_option maxRecDepth 20000 in
theorem ggX7_rememberAll__X7_rememberBoth : GoodIn wsX7_rememberAll_ wsX7_rememberBoth := goodIn_ca (goodIn_r _ [17, 18, 19, 20, 21, 22, 23, 4, 24, 25, 26, 27, 28, 29, 30, 31, 32, 33, 34, 35, 36, 37, 38, 39, 40, 41, 42, 43, 44, 45, 46, 61, 62, 63, 64, 65, 66, 67, 68, 69, 70, 71, 72, 73, 47, 48, 49, 50, 51, 52, 53, 54, 55, 74, 75, 76, 77, 78, 79] (by decide +kernel) (by decide +kernel)) (goodIn_sub (fun _ h => List.mem_cons_of_mem _ (List.mem_append_right _ h)) (by decide +kernel))
set_option maxRecDepth 20000 in
theorem gX7_rememberAll__X7_rememberBoth : GoodIn wsX7_rememberAll_ (wsV RX7 367 RX7 yX7_rememberBoth wsX7_rememberBoth) := goodIn_app (goodIn_of _ (by decide +kernel)) ggX7_rememberAll__X7_rememberBoth
theorem dX7_rememberAll__0 : decode cX7_rememberAll_ 0 = .ok (.aload_n 0, 1) := by decide +kernel
theorem dX7_rememberAll__1 : decode cX7_rememberAll_ 1 = .ok (.getfield 17, 3) := by decide +kernel
theorem dX7_rememberAll__4 : decode cX7_rememberAll_ 4 = .ok (.astore_n 2, 1) := by decide +kernel
theorem dX7_rememberAll__5 : decode cX7_rememberAll_ 5 = .ok (.aload_n 2, 1) := by decide +kernel
theorem dX7_rememberAll__6 : decode cX7_rememberAll_ 6 = .ok (.arraylength, 1) := by decide +kernel
theorem dX7_rememberAll__7 : decode cX7_rememberAll_ 7 = .ok (.istore_n 3, 1) := by decide +kernel
theorem dX7_rememberAll__8 : decode cX7_rememberAll_ 8 = .ok (.iconst 0, 1) := by decide +kernel
theorem dX7_rememberAll__9 : decode cX7_rememberAll_ 9 = .ok (.istore 4, 2) := by decide +kernel
theorem dX7_rememberAll__11 : decode cX7_rememberAll_ 11 = .ok (.iload 4, 2) := by decide +kernel
theorem dX7_rememberAll__13 : decode cX7_rememberAll_ 13 = .ok (.iload_n 3, 1) := by decide +kernel
theorem dX7_rememberAll__14 : decode cX7_rememberAll_ 14 = .ok (.if_icmp .ge 25, 3) := by decide +kernel
theorem dX7_rememberAll__17 : decode cX7_rememberAll_ 17 = .ok (.aload_n 2, 1) := by decide +kernel
theorem dX7_rememberAll__18 : decode cX7_rememberAll_ 18 = .ok (.iload 4, 2) := by decide +kernel
theorem dX7_rememberAll__20 : decode cX7_rememberAll_ 20 = .ok (.aaload, 1) := by decide +kernel
theorem dX7_rememberAll__21 : decode cX7_rememberAll_ 21 = .ok (.astore 5, 2) := by decide +kernel
theorem dX7_rememberAll__23 : decode cX7_rememberAll_ 23 = .ok (.aload_n 0, 1) := by decide +kernel
theorem dX7_rememberAll__24 : decode cX7_rememberAll_ 24 = .ok (.aload 5, 2) := by decide +kernel
theorem dX7_rememberAll__26 : decode cX7_rememberAll_ 26 = .ok (.aload_n 1, 1) := by decide +kernel
theorem dX7_rememberAll__27 : decode cX7_rememberAll_ 27 = .ok (.invokestatic 299, 3) := by decide +kernel
theorem dX7_rememberAll__30 : decode cX7_rememberAll_ 30 = .ok (.invokevirtual 367, 3) := by decide +kernel
theorem dX7_rememberAll__33 : decode cX7_rememberAll_ 33 = .ok (.iinc 4 1, 3) := by decide +kernel
theorem dX7_rememberAll__36 : decode cX7_rememberAll_ 36 = .ok (.goto (-25), 3) := by decide +kernel
theorem dX7_rememberAll__39 : decode cX7_rememberAll_ 39 = .ok (.return_, 1) := by decide +kernel
set_option maxRecDepth 20000 in
theorem ggX7_letGo_X7_rememberBoth : GoodIn wsX7_letGo wsX7_rememberBoth := goodIn_ca (goodIn_r _ [8, 9, 10, 11, 12, 13, 14, 7, 15, 16, 17, 18, 19, 20, 21, 22, 23, 24, 25, 26, 27, 28, 29, 30, 31, 32, 33, 34, 35, 36, 37, 43, 44, 45, 46, 47, 48, 49, 50, 51, 52, 53, 54, 55, 56, 57, 58, 59, 60, 61, 62, 63, 64, 65, 66, 67, 68, 69, 70] (by decide +kernel) (by decide +kernel)) (goodIn_sub (fun _ h => List.mem_cons_of_mem _ (List.mem_append_right _ h)) (by decide +kernel))
set_option maxRecDepth 20000 in
theorem gX7_letGo_X7_rememberBoth : GoodIn wsX7_letGo (wsV RX7 367 RX7 yX7_rememberBoth wsX7_rememberBoth) := goodIn_app (goodIn_of _ (by decide +kernel)) ggX7_letGo_X7_rememberBoth
theorem dX7_letGo_0 : decode cX7_letGo 0 = .ok (.aload_n 0, 1) := by decide +kernel
theorem dX7_letGo_1 : decode cX7_letGo 1 = .ok (.aload_n 1, 1) := by decide +kernel
theorem dX7_letGo_2 : decode cX7_letGo 2 = .ok (.getfield 242, 3) := by decide +kernel
theorem dX7_letGo_5 : decode cX7_letGo 5 = .ok (.invokevirtual 367, 3) := by decide +kernel
theorem dX7_letGo_8 : decode cX7_letGo 8 = .ok (.aload_n 0, 1) := by decide +kernel
theorem dX7_letGo_9 : decode cX7_letGo 9 = .ok (.aload_n 1, 1) := by decide +kernel
theorem dX7_letGo_10 : decode cX7_letGo 10 = .ok (.getfield 214, 3) := by decide +kernel
theorem dX7_letGo_13 : decode cX7_letGo 13 = .ok (.invokevirtual 367, 3) := by decide +kernel
theorem dX7_letGo_16 : decode cX7_letGo 16 = .ok (.aload_n 1, 1) := by decide +kernel
theorem dX7_letGo_17 : decode cX7_letGo 17 = .ok (.aconst_null, 1) := by decide +kernel
theorem dX7_letGo_18 : decode cX7_letGo 18 = .ok (.putfield 242, 3) := by decide +kernel
theorem dX7_letGo_21 : decode cX7_letGo 21 = .ok (.aload_n 1, 1) := by decide +kernel
theorem dX7_letGo_22 : decode cX7_letGo 22 = .ok (.aconst_null, 1) := by decide +kernel
theorem dX7_letGo_23 : decode cX7_letGo 23 = .ok (.putfield 214, 3) := by decide +kernel
theorem dX7_letGo_26 : decode cX7_letGo 26 = .ok (.aload_n 1, 1) := by decide +kernel
theorem dX7_letGo_27 : decode cX7_letGo 27 = .ok (.iconst 1, 1) := by decide +kernel
theorem dX7_letGo_28 : decode cX7_letGo 28 = .ok (.putfield 213, 3) := by decide +kernel
theorem dX7_letGo_31 : decode cX7_letGo 31 = .ok (.return_, 1) := by decide +kernel
set_option maxRecDepth 20000 in
theorem ggX7_arrival_X7_openLedger : GoodIn wsX7_arrival wsX7_openLedger := goodIn_ca (goodIn_r _ [10, 2, 11, 12, 13, 14, 15, 16, 17, 18, 19, 20, 21, 22, 23, 24, 25, 26, 27, 28, 29, 30, 31, 32, 33, 34, 9, 35, 36, 37, 38, 39, 40, 41, 42, 43, 44, 45, 46, 47, 48, 49, 50, 51, 52, 53, 54, 55, 56, 57, 58, 59, 60, 61, 62, 63, 64, 121, 122, 123, 124, 125, 126, 127, 128, 129, 113, 114, 115, 116, 117, 118, 119, 120, 130, 131, 132, 133, 134, 135, 136, 137, 138, 139, 140, 141, 142, 143, 144, 145, 146] (by decide +kernel) (by decide +kernel)) (goodIn_sub (fun _ h => List.mem_cons_of_mem _ (List.mem_append_right _ h)) (by decide +kernel))
set_option maxRecDepth 20000 in
theorem gX7_arrival_X7_openLedger : GoodIn wsX7_arrival (wsV RX7 163 RX7 yX7_openLedger wsX7_openLedger) := goodIn_app (goodIn_of _ (by decide +kernel)) ggX7_arrival_X7_openLedger
set_option maxRecDepth 20000 in
theorem ggX7_arrival_X1_codeFor : GoodIn wsX7_arrival wsX1_codeFor := goodIn_ca (goodIn_r _ [68, 24, 28, 61, 62, 63, 20, 64, 26, 27, 69, 70, 71, 72, 73, 74, 75, 76, 22, 77, 78, 79, 80, 57, 58, 59, 60, 81, 82, 83, 84, 85, 86, 87, 88, 49, 48, 89, 90, 91, 92, 93, 94, 95, 96, 97, 98, 99, 100, 101, 135, 136, 137, 138, 139, 140, 141] (by decide +kernel) (by decide +kernel)) (goodIn_sub (fun _ h => List.mem_cons_of_mem _ (List.mem_append_right _ h)) (by decide +kernel))
set_option maxRecDepth 20000 in
theorem gX7_arrival_X1_codeFor : GoodIn wsX7_arrival (wsV RX7 371 RX1 yX1_codeFor wsX1_codeFor) := goodIn_app (goodIn_of _ (by decide +kernel)) ggX7_arrival_X1_codeFor
set_option maxRecDepth 20000 in
theorem ggX7_arrival_X5_init : GoodIn wsX7_arrival wsX5_init := goodIn_r _ [104, 105, 106, 107, 108, 109, 110, 111, 112, 130, 131, 132, 133, 134] (by decide +kernel) (by decide +kernel)
set_option maxRecDepth 20000 in
theorem gX7_arrival_X5_init : GoodIn wsX7_arrival (wsX5_init) := ggX7_arrival_X5_init
theorem dX7_arrival_0 : decode cX7_arrival 0 = .ok (.aload_n 0, 1) := by decide +kernel
theorem dX7_arrival_1 : decode cX7_arrival 1 = .ok (.aload_n 2, 1) := by decide +kernel
theorem dX7_arrival_2 : decode cX7_arrival 2 = .ok (.aload_n 2, 1) := by decide +kernel
theorem dX7_arrival_3 : decode cX7_arrival 3 = .ok (.getfield 136, 3) := by decide +kernel
theorem dX7_arrival_6 : decode cX7_arrival 6 = .ok (.invokevirtual 163, 3) := by decide +kernel
theorem dX7_arrival_9 : decode cX7_arrival 9 = .ok (.iload 4, 2) := by decide +kernel
theorem dX7_arrival_11 : decode cX7_arrival 11 = .ok (.bipush 108, 2) := by decide +kernel
theorem dX7_arrival_13 : decode cX7_arrival 13 = .ok (.if_icmp .ne 7, 3) := by decide +kernel
theorem dX7_arrival_16 : decode cX7_arrival 16 = .ok (.iconst 1, 1) := by decide +kernel
theorem dX7_arrival_17 : decode cX7_arrival 17 = .ok (.goto 4, 3) := by decide +kernel
theorem dX7_arrival_20 : decode cX7_arrival 20 = .ok (.iconst 0, 1) := by decide +kernel
theorem dX7_arrival_21 : decode cX7_arrival 21 = .ok (.istore 5, 2) := by decide +kernel
theorem dX7_arrival_23 : decode cX7_arrival 23 = .ok (.aload_n 0, 1) := by decide +kernel
theorem dX7_arrival_24 : decode cX7_arrival 24 = .ok (.getfield 31, 3) := by decide +kernel
theorem dX7_arrival_27 : decode cX7_arrival 27 = .ok (.iload_n 1, 1) := by decide +kernel
theorem dX7_arrival_28 : decode cX7_arrival 28 = .ok (.iload_n 3, 1) := by decide +kernel
theorem dX7_arrival_29 : decode cX7_arrival 29 = .ok (.iload 5, 2) := by decide +kernel
theorem dX7_arrival_31 : decode cX7_arrival 31 = .ok (.invokevirtual 371, 3) := by decide +kernel
theorem dX7_arrival_34 : decode cX7_arrival 34 = .ok (.istore 6, 2) := by decide +kernel
theorem dX7_arrival_36 : decode cX7_arrival 36 = .ok (.iload 6, 2) := by decide +kernel
theorem dX7_arrival_38 : decode cX7_arrival 38 = .ok (.ifCond .ne 7, 3) := by decide +kernel
theorem dX7_arrival_41 : decode cX7_arrival 41 = .ok (.aconst_null, 1) := by decide +kernel
theorem dX7_arrival_42 : decode cX7_arrival 42 = .ok (.goto 17, 3) := by decide +kernel
theorem dX7_arrival_45 : decode cX7_arrival 45 = .ok (.new 201, 3) := by decide +kernel
theorem dX7_arrival_48 : decode cX7_arrival 48 = .ok (.dup, 1) := by decide +kernel
theorem dX7_arrival_49 : decode cX7_arrival 49 = .ok (.iload_n 1, 1) := by decide +kernel
theorem dX7_arrival_50 : decode cX7_arrival 50 = .ok (.aload_n 2, 1) := by decide +kernel
theorem dX7_arrival_51 : decode cX7_arrival 51 = .ok (.iload_n 3, 1) := by decide +kernel
theorem dX7_arrival_52 : decode cX7_arrival 52 = .ok (.iload 5, 2) := by decide +kernel
theorem dX7_arrival_54 : decode cX7_arrival 54 = .ok (.iload 6, 2) := by decide +kernel
theorem dX7_arrival_56 : decode cX7_arrival 56 = .ok (.invokespecial 375, 3) := by decide +kernel
theorem dX7_arrival_59 : decode cX7_arrival 59 = .ok (.areturn, 1) := by decide +kernel
set_option maxRecDepth 20000 in
theorem ggX7_openLedger_X1_open : GoodIn wsX7_openLedger wsX1_open := goodIn_r _ [12, 13, 14, 15, 16, 17, 18, 19, 20, 21, 22, 23, 79, 80, 81, 82, 83, 84, 85, 66, 67, 68, 69, 70, 71, 72, 73] (by decide +kernel) (by decide +kernel)
set_option maxRecDepth 20000 in
theorem gX7_openLedger_X1_open : GoodIn wsX7_openLedger (wsV RX7 139 RX1 yX1_open wsX1_open) := goodIn_app (goodIn_of _ (by decide +kernel)) ggX7_openLedger_X1_open
set_option maxRecDepth 20000 in
theorem ggX7_openLedger_X7_placeOf : GoodIn wsX7_openLedger wsX7_placeOf := goodIn_r _ [27, 28, 29, 30, 31, 32, 33, 34, 35, 86, 87, 88, 89, 90, 74, 75, 76, 77, 78] (by decide +kernel) (by decide +kernel)
set_option maxRecDepth 20000 in
theorem gX7_openLedger_X7_placeOf : GoodIn wsX7_openLedger (va_wsS RX7 299 yX7_placeOf wsX7_placeOf) := goodIn_app (goodIn_of _ (by decide +kernel)) ggX7_openLedger_X7_placeOf
set_option maxRecDepth 20000 in
theorem ggX7_openLedger_X1_enter : GoodIn wsX7_openLedger wsX1_enter := goodIn_ca (goodIn_r _ [39, 40, 41, 13, 19, 42, 43, 44, 45, 46, 47, 11, 48, 49, 50, 51, 52, 53, 54, 55, 56, 17, 18, 79, 80, 81, 82, 83, 84, 85] (by decide +kernel) (by decide +kernel)) (goodIn_sub (fun _ h => List.mem_cons_of_mem _ (List.mem_append_right _ h)) (by decide +kernel))
set_option maxRecDepth 20000 in
theorem gX7_openLedger_X1_enter : GoodIn wsX7_openLedger (wsV RX7 378 RX1 yX1_enter wsX1_enter) := goodIn_app (goodIn_of _ (by decide +kernel)) ggX7_openLedger_X1_enter
theorem dX7_openLedger_0 : decode cX7_openLedger 0 = .ok (.aload_n 0, 1) := by decide +kernel
theorem dX7_openLedger_1 : decode cX7_openLedger 1 = .ok (.getfield 31, 3) := by decide +kernel
theorem dX7_openLedger_4 : decode cX7_openLedger 4 = .ok (.aload_n 1, 1) := by decide +kernel
theorem dX7_openLedger_5 : decode cX7_openLedger 5 = .ok (.iload_n 2, 1) := by decide +kernel
theorem dX7_openLedger_6 : decode cX7_openLedger 6 = .ok (.aload_n 1, 1) := by decide +kernel
theorem dX7_openLedger_7 : decode cX7_openLedger 7 = .ok (.getfield 156, 3) := by decide +kernel
theorem dX7_openLedger_10 : decode cX7_openLedger 10 = .ok (.invokevirtual 139, 3) := by decide +kernel
theorem dX7_openLedger_13 : decode cX7_openLedger 13 = .ok (.aload_n 0, 1) := by decide +kernel
theorem dX7_openLedger_14 : decode cX7_openLedger 14 = .ok (.getfield 17, 3) := by decide +kernel
theorem dX7_openLedger_17 : decode cX7_openLedger 17 = .ok (.astore_n 3, 1) := by decide +kernel
theorem dX7_openLedger_18 : decode cX7_openLedger 18 = .ok (.aload_n 3, 1) := by decide +kernel
theorem dX7_openLedger_19 : decode cX7_openLedger 19 = .ok (.arraylength, 1) := by decide +kernel
theorem dX7_openLedger_20 : decode cX7_openLedger 20 = .ok (.istore 4, 2) := by decide +kernel
theorem dX7_openLedger_22 : decode cX7_openLedger 22 = .ok (.iconst 0, 1) := by decide +kernel
theorem dX7_openLedger_23 : decode cX7_openLedger 23 = .ok (.istore 5, 2) := by decide +kernel
theorem dX7_openLedger_25 : decode cX7_openLedger 25 = .ok (.iload 5, 2) := by decide +kernel
theorem dX7_openLedger_27 : decode cX7_openLedger 27 = .ok (.iload 4, 2) := by decide +kernel
theorem dX7_openLedger_29 : decode cX7_openLedger 29 = .ok (.if_icmp .ge 55, 3) := by decide +kernel
theorem dX7_openLedger_32 : decode cX7_openLedger 32 = .ok (.aload_n 3, 1) := by decide +kernel
theorem dX7_openLedger_33 : decode cX7_openLedger 33 = .ok (.iload 5, 2) := by decide +kernel
theorem dX7_openLedger_35 : decode cX7_openLedger 35 = .ok (.aaload, 1) := by decide +kernel
theorem dX7_openLedger_36 : decode cX7_openLedger 36 = .ok (.astore 6, 2) := by decide +kernel
theorem dX7_openLedger_38 : decode cX7_openLedger 38 = .ok (.aload 6, 2) := by decide +kernel
theorem dX7_openLedger_40 : decode cX7_openLedger 40 = .ok (.aload_n 1, 1) := by decide +kernel
theorem dX7_openLedger_41 : decode cX7_openLedger 41 = .ok (.invokestatic 299, 3) := by decide +kernel
theorem dX7_openLedger_44 : decode cX7_openLedger 44 = .ok (.astore 7, 2) := by decide +kernel
theorem dX7_openLedger_46 : decode cX7_openLedger 46 = .ok (.aload 7, 2) := by decide +kernel
theorem dX7_openLedger_48 : decode cX7_openLedger 48 = .ok (.ifnull 30, 3) := by decide +kernel
theorem dX7_openLedger_51 : decode cX7_openLedger 51 = .ok (.aload_n 0, 1) := by decide +kernel
theorem dX7_openLedger_52 : decode cX7_openLedger 52 = .ok (.getfield 31, 3) := by decide +kernel
theorem dX7_openLedger_55 : decode cX7_openLedger 55 = .ok (.aload 7, 2) := by decide +kernel
theorem dX7_openLedger_57 : decode cX7_openLedger 57 = .ok (.getfield 356, 3) := by decide +kernel
theorem dX7_openLedger_60 : decode cX7_openLedger 60 = .ok (.aload 7, 2) := by decide +kernel
theorem dX7_openLedger_62 : decode cX7_openLedger 62 = .ok (.getfield 303, 3) := by decide +kernel
theorem dX7_openLedger_65 : decode cX7_openLedger 65 = .ok (.aload 7, 2) := by decide +kernel
theorem dX7_openLedger_67 : decode cX7_openLedger 67 = .ok (.getfield 311, 3) := by decide +kernel
theorem dX7_openLedger_70 : decode cX7_openLedger 70 = .ok (.aload 7, 2) := by decide +kernel
theorem dX7_openLedger_72 : decode cX7_openLedger 72 = .ok (.getfield 200, 3) := by decide +kernel
theorem dX7_openLedger_75 : decode cX7_openLedger 75 = .ok (.invokevirtual 378, 3) := by decide +kernel
theorem dX7_openLedger_78 : decode cX7_openLedger 78 = .ok (.iinc 5 1, 3) := by decide +kernel
theorem dX7_openLedger_81 : decode cX7_openLedger 81 = .ok (.goto (-56), 3) := by decide +kernel
theorem dX7_openLedger_84 : decode cX7_openLedger 84 = .ok (.return_, 1) := by decide +kernel
set_option maxRecDepth 20000 in
theorem ggX7_enterInOrder_X4_doorIn : GoodIn wsX7_enterInOrder wsX4_doorIn := goodIn_ca (goodIn_r _ [11, 12, 13, 104, 105] (by decide +kernel) (by decide +kernel)) (goodIn_sub (fun _ h => List.mem_cons_of_mem _ (List.mem_append_right _ h)) (by decide +kernel))
set_option maxRecDepth 20000 in
theorem gX7_enterInOrder_X4_doorIn : GoodIn wsX7_enterInOrder (wsV RX7 298 RX4 yX4_doorIn wsX4_doorIn) := goodIn_app (goodIn_of _ (by decide +kernel)) ggX7_enterInOrder_X4_doorIn
set_option maxRecDepth 20000 in
theorem ggX7_enterInOrder_X7_doorAt : GoodIn wsX7_enterInOrder wsX7_doorAt := goodIn_r _ [18, 19, 95, 96, 97, 98, 99, 100, 101, 102, 103] (by decide +kernel) (by decide +kernel)
set_option maxRecDepth 20000 in
theorem gX7_enterInOrder_X7_doorAt : GoodIn wsX7_enterInOrder (wsV RX7 278 RX7 yX7_doorAt wsX7_doorAt) := goodIn_app (goodIn_of _ (by decide +kernel)) ggX7_enterInOrder_X7_doorAt
set_option maxRecDepth 20000 in
theorem ggX7_enterInOrder_X7_placeOf : GoodIn wsX7_enterInOrder wsX7_placeOf := goodIn_r _ [22, 23, 24, 25, 26, 27, 28, 29, 30, 111, 112, 113, 114, 115, 106, 107, 108, 109, 110] (by decide +kernel) (by decide +kernel)
set_option maxRecDepth 20000 in
theorem gX7_enterInOrder_X7_placeOf : GoodIn wsX7_enterInOrder (va_wsS RX7 299 yX7_placeOf wsX7_placeOf) := goodIn_app (goodIn_of _ (by decide +kernel)) ggX7_enterInOrder_X7_placeOf
set_option maxRecDepth 20000 in
theorem ggX7_enterInOrder_X1_codeFor : GoodIn wsX7_enterInOrder wsX1_codeFor := goodIn_ca (goodIn_r _ [35, 36, 37, 38, 39, 40, 34, 41, 42, 43, 44, 45, 46, 47, 48, 49, 50, 51, 52, 53, 54, 55, 56, 57, 58, 59, 60, 61, 62, 63, 64, 65, 66, 67, 68, 69, 70, 71, 72, 73, 74, 75, 76, 77, 78, 79, 80, 81, 82, 83, 116, 117, 118, 119, 120, 121, 122] (by decide +kernel) (by decide +kernel)) (goodIn_sub (fun _ h => List.mem_cons_of_mem _ (List.mem_append_right _ h)) (by decide +kernel))
set_option maxRecDepth 20000 in
theorem gX7_enterInOrder_X1_codeFor : GoodIn wsX7_enterInOrder (wsV RX7 371 RX1 yX1_codeFor wsX1_codeFor) := goodIn_app (goodIn_of _ (by decide +kernel)) ggX7_enterInOrder_X1_codeFor
set_option maxRecDepth 20000 in
theorem ggX7_enterInOrder_X1_enter : GoodIn wsX7_enterInOrder wsX1_enter := goodIn_ca (goodIn_r _ [87, 70, 69, 52, 37, 88, 89, 90, 91, 92, 93, 34, 94, 57, 58, 59, 60, 38, 39, 40, 41, 42, 43, 116, 117, 118, 119, 120, 121, 122] (by decide +kernel) (by decide +kernel)) (goodIn_sub (fun _ h => List.mem_cons_of_mem _ (List.mem_append_right _ h)) (by decide +kernel))
set_option maxRecDepth 20000 in
theorem gX7_enterInOrder_X1_enter : GoodIn wsX7_enterInOrder (wsV RX7 378 RX1 yX1_enter wsX1_enter) := goodIn_app (goodIn_of _ (by decide +kernel)) ggX7_enterInOrder_X1_enter
theorem dX7_enterInOrder_0 : decode cX7_enterInOrder 0 = .ok (.iconst 0, 1) := by decide +kernel
theorem dX7_enterInOrder_1 : decode cX7_enterInOrder 1 = .ok (.istore_n 3, 1) := by decide +kernel
theorem dX7_enterInOrder_2 : decode cX7_enterInOrder 2 = .ok (.iload_n 3, 1) := by decide +kernel
theorem dX7_enterInOrder_3 : decode cX7_enterInOrder 3 = .ok (.aload_n 0, 1) := by decide +kernel
theorem dX7_enterInOrder_4 : decode cX7_enterInOrder 4 = .ok (.getfield 38, 3) := by decide +kernel
theorem dX7_enterInOrder_7 : decode cX7_enterInOrder 7 = .ok (.getfield 295, 3) := by decide +kernel
