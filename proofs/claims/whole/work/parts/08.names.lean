theorem dX2_potTold_3 : decode cX2_potTold 3 = .ok (.dup, 1) := by decide +kernel
theorem dX2_potTold_4 : decode cX2_potTold 4 = .ok (.iconst 0, 1) := by decide +kernel
theorem dX2_potTold_5 : decode cX2_potTold 5 = .ok (.aload_n 0, 1) := by decide +kernel
theorem dX2_potTold_6 : decode cX2_potTold 6 = .ok (.getfield 12, 3) := by decide +kernel
theorem dX2_potTold_9 : decode cX2_potTold 9 = .ok (.getfield 57, 3) := by decide +kernel
theorem dX2_potTold_12 : decode cX2_potTold 12 = .ok (.iload_n 1, 1) := by decide +kernel
theorem dX2_potTold_13 : decode cX2_potTold 13 = .ok (.iaload, 1) := by decide +kernel
theorem dX2_potTold_14 : decode cX2_potTold 14 = .ok (.iastore, 1) := by decide +kernel
theorem dX2_potTold_15 : decode cX2_potTold 15 = .ok (.dup, 1) := by decide +kernel
theorem dX2_potTold_16 : decode cX2_potTold 16 = .ok (.iconst 1, 1) := by decide +kernel
theorem dX2_potTold_17 : decode cX2_potTold 17 = .ok (.aload_n 0, 1) := by decide +kernel
theorem dX2_potTold_18 : decode cX2_potTold 18 = .ok (.getfield 12, 3) := by decide +kernel
theorem dX2_potTold_21 : decode cX2_potTold 21 = .ok (.getfield 76, 3) := by decide +kernel
theorem dX2_potTold_24 : decode cX2_potTold 24 = .ok (.iload_n 1, 1) := by decide +kernel
theorem dX2_potTold_25 : decode cX2_potTold 25 = .ok (.iaload, 1) := by decide +kernel
theorem dX2_potTold_26 : decode cX2_potTold 26 = .ok (.iastore, 1) := by decide +kernel
theorem dX2_potTold_27 : decode cX2_potTold 27 = .ok (.dup, 1) := by decide +kernel
theorem dX2_potTold_28 : decode cX2_potTold 28 = .ok (.iconst 2, 1) := by decide +kernel
theorem dX2_potTold_29 : decode cX2_potTold 29 = .ok (.aload_n 0, 1) := by decide +kernel
theorem dX2_potTold_30 : decode cX2_potTold 30 = .ok (.getfield 12, 3) := by decide +kernel
theorem dX2_potTold_33 : decode cX2_potTold 33 = .ok (.getfield 79, 3) := by decide +kernel
theorem dX2_potTold_36 : decode cX2_potTold 36 = .ok (.iload_n 1, 1) := by decide +kernel
theorem dX2_potTold_37 : decode cX2_potTold 37 = .ok (.iaload, 1) := by decide +kernel
theorem dX2_potTold_38 : decode cX2_potTold 38 = .ok (.iastore, 1) := by decide +kernel
theorem dX2_potTold_39 : decode cX2_potTold 39 = .ok (.dup, 1) := by decide +kernel
theorem dX2_potTold_40 : decode cX2_potTold 40 = .ok (.iconst 3, 1) := by decide +kernel
theorem dX2_potTold_41 : decode cX2_potTold 41 = .ok (.aload_n 0, 1) := by decide +kernel
theorem dX2_potTold_42 : decode cX2_potTold 42 = .ok (.getfield 12, 3) := by decide +kernel
theorem dX2_potTold_45 : decode cX2_potTold 45 = .ok (.iload_n 1, 1) := by decide +kernel
theorem dX2_potTold_46 : decode cX2_potTold 46 = .ok (.invokevirtual 51, 3) := by decide +kernel
theorem dX2_potTold_49 : decode cX2_potTold 49 = .ok (.iastore, 1) := by decide +kernel
theorem dX2_potTold_50 : decode cX2_potTold 50 = .ok (.dup, 1) := by decide +kernel
theorem dX2_potTold_51 : decode cX2_potTold 51 = .ok (.iconst 4, 1) := by decide +kernel
theorem dX2_potTold_52 : decode cX2_potTold 52 = .ok (.aload_n 0, 1) := by decide +kernel
theorem dX2_potTold_53 : decode cX2_potTold 53 = .ok (.getfield 12, 3) := by decide +kernel
theorem dX2_potTold_56 : decode cX2_potTold 56 = .ok (.iload_n 1, 1) := by decide +kernel
theorem dX2_potTold_57 : decode cX2_potTold 57 = .ok (.invokevirtual 73, 3) := by decide +kernel
theorem dX2_potTold_60 : decode cX2_potTold 60 = .ok (.iastore, 1) := by decide +kernel
theorem dX2_potTold_61 : decode cX2_potTold 61 = .ok (.astore_n 3, 1) := by decide +kernel
theorem dX2_potTold_62 : decode cX2_potTold 62 = .ok (.aload_n 3, 1) := by decide +kernel
theorem dX2_potTold_63 : decode cX2_potTold 63 = .ok (.iload_n 2, 1) := by decide +kernel
theorem dX2_potTold_64 : decode cX2_potTold 64 = .ok (.iaload, 1) := by decide +kernel
theorem dX2_potTold_65 : decode cX2_potTold 65 = .ok (.ireturn, 1) := by decide +kernel
set_option maxRecDepth 20000 in
theorem ggX2_pot_X2_isPot : GoodIn wsX2_pot wsX2_isPot := goodIn_r _ [5, 6, 7, 4, 8] (by decide +kernel) (by decide +kernel)
set_option maxRecDepth 20000 in
theorem gX2_pot_X2_isPot : GoodIn wsX2_pot (va_wsS RX2 48 yX2_isPot wsX2_isPot) := goodIn_app (goodIn_of _ (by decide +kernel)) ggX2_pot_X2_isPot
set_option maxRecDepth 20000 in
theorem ggX2_pot_X2_isIn : GoodIn wsX2_pot wsX2_isIn := goodIn_r _ [8] (by decide +kernel) (by decide +kernel)
set_option maxRecDepth 20000 in
theorem gX2_pot_X2_isIn : GoodIn wsX2_pot (va_wsS RX2 25 yX2_isIn wsX2_isIn) := goodIn_app (goodIn_of _ (by decide +kernel)) ggX2_pot_X2_isIn
set_option maxRecDepth 20000 in
theorem ggX2_pot_X2_potTold : GoodIn wsX2_pot wsX2_potTold := goodIn_r _ [12, 13, 14, 15, 16, 17, 18, 19, 20, 21, 22, 23, 24, 25, 26, 27, 28, 29, 30, 31, 32, 33, 34, 35, 36, 41, 42, 43, 44, 45, 46, 47, 48, 49, 50, 51, 52, 53, 54, 55, 56, 57, 58, 59, 60] (by decide +kernel) (by decide +kernel)
set_option maxRecDepth 20000 in
theorem gX2_pot_X2_potTold : GoodIn wsX2_pot (wsV RX2 91 RX2 yX2_potTold wsX2_potTold) := goodIn_app (goodIn_of _ (by decide +kernel)) ggX2_pot_X2_potTold
set_option maxRecDepth 20000 in
theorem ggX2_pot_X2_no : GoodIn wsX2_pot wsX2_no := goodIn_r _ [40, 1, 41, 42, 43, 44, 45] (by decide +kernel) (by decide +kernel)
set_option maxRecDepth 20000 in
theorem gX2_pot_X2_no : GoodIn wsX2_pot (wsV RX2 36 RX2 yX2_no wsX2_no) := goodIn_app (goodIn_of _ (by decide +kernel)) ggX2_pot_X2_no
theorem dX2_pot_0 : decode cX2_pot 0 = .ok (.aload_n 0, 1) := by decide +kernel
theorem dX2_pot_1 : decode cX2_pot 1 = .ok (.iconst 0, 1) := by decide +kernel
theorem dX2_pot_2 : decode cX2_pot 2 = .ok (.putfield 21, 3) := by decide +kernel
theorem dX2_pot_5 : decode cX2_pot 5 = .ok (.iload_n 1, 1) := by decide +kernel
theorem dX2_pot_6 : decode cX2_pot 6 = .ok (.invokestatic 48, 3) := by decide +kernel
theorem dX2_pot_9 : decode cX2_pot 9 = .ok (.ifCond .eq 21, 3) := by decide +kernel
theorem dX2_pot_12 : decode cX2_pot 12 = .ok (.iload_n 2, 1) := by decide +kernel
theorem dX2_pot_13 : decode cX2_pot 13 = .ok (.iconst 0, 1) := by decide +kernel
theorem dX2_pot_14 : decode cX2_pot 14 = .ok (.iconst 4, 1) := by decide +kernel
theorem dX2_pot_15 : decode cX2_pot 15 = .ok (.invokestatic 25, 3) := by decide +kernel
theorem dX2_pot_18 : decode cX2_pot 18 = .ok (.ifCond .eq 12, 3) := by decide +kernel
theorem dX2_pot_21 : decode cX2_pot 21 = .ok (.aload_n 0, 1) := by decide +kernel
theorem dX2_pot_22 : decode cX2_pot 22 = .ok (.iload_n 1, 1) := by decide +kernel
theorem dX2_pot_23 : decode cX2_pot 23 = .ok (.iload_n 2, 1) := by decide +kernel
theorem dX2_pot_24 : decode cX2_pot 24 = .ok (.invokevirtual 91, 3) := by decide +kernel
theorem dX2_pot_27 : decode cX2_pot 27 = .ok (.goto 8, 3) := by decide +kernel
theorem dX2_pot_30 : decode cX2_pot 30 = .ok (.aload_n 0, 1) := by decide +kernel
theorem dX2_pot_31 : decode cX2_pot 31 = .ok (.iconst 1, 1) := by decide +kernel
theorem dX2_pot_32 : decode cX2_pot 32 = .ok (.invokevirtual 36, 3) := by decide +kernel
theorem dX2_pot_35 : decode cX2_pot 35 = .ok (.ireturn, 1) := by decide +kernel
set_option maxRecDepth 20000 in
theorem ggX2_dishTold_X1_isHeld : GoodIn wsX2_dishTold wsX1_isHeld := goodIn_r _ [7, 8, 9, 10, 11, 12, 13, 14, 6, 15, 35, 36, 37, 38, 39, 40, 41, 42, 43, 44, 45, 46, 47, 48, 49] (by decide +kernel) (by decide +kernel)
set_option maxRecDepth 20000 in
theorem gX2_dishTold_X1_isHeld : GoodIn wsX2_dishTold (wsV RX2 98 RX1 yX1_isHeld wsX1_isHeld) := goodIn_app (goodIn_of _ (by decide +kernel)) ggX2_dishTold_X1_isHeld
set_option maxRecDepth 20000 in
theorem ggX2_dishTold_X1_is : GoodIn wsX2_dishTold wsX1_is := goodIn_r _ [15, 8, 9, 10, 35, 36, 37, 38, 39, 40, 41, 42, 43, 44, 45, 46, 47, 48, 49] (by decide +kernel) (by decide +kernel)
set_option maxRecDepth 20000 in
theorem gX2_dishTold_X1_is : GoodIn wsX2_dishTold (wsV RX2 54 RX1 yX1_is wsX1_is) := goodIn_app (goodIn_of _ (by decide +kernel)) ggX2_dishTold_X1_is
set_option maxRecDepth 20000 in
theorem ggX2_dishTold_X1_kept : GoodIn wsX2_dishTold wsX1_kept := goodIn_r _ [20, 8, 21, 22, 23, 6, 24, 9, 10, 25, 26, 27, 28, 29, 35, 36, 37, 38, 39, 40, 41, 42, 43, 44, 45, 46, 47, 48, 49] (by decide +kernel) (by decide +kernel)
set_option maxRecDepth 20000 in
theorem gX2_dishTold_X1_kept : GoodIn wsX2_dishTold (wsV RX2 102 RX1 yX1_kept wsX1_kept) := goodIn_app (goodIn_of _ (by decide +kernel)) ggX2_dishTold_X1_kept
theorem dX2_dishTold_0 : decode cX2_dishTold 0 = .ok (.iconst 0, 1) := by decide +kernel
theorem dX2_dishTold_1 : decode cX2_dishTold 1 = .ok (.istore_n 3, 1) := by decide +kernel
theorem dX2_dishTold_2 : decode cX2_dishTold 2 = .ok (.iconst (-1), 1) := by decide +kernel
theorem dX2_dishTold_3 : decode cX2_dishTold 3 = .ok (.istore 4, 2) := by decide +kernel
theorem dX2_dishTold_5 : decode cX2_dishTold 5 = .ok (.iconst 0, 1) := by decide +kernel
theorem dX2_dishTold_6 : decode cX2_dishTold 6 = .ok (.istore 5, 2) := by decide +kernel
theorem dX2_dishTold_8 : decode cX2_dishTold 8 = .ok (.iconst 0, 1) := by decide +kernel
theorem dX2_dishTold_9 : decode cX2_dishTold 9 = .ok (.istore 6, 2) := by decide +kernel
theorem dX2_dishTold_11 : decode cX2_dishTold 11 = .ok (.iload 6, 2) := by decide +kernel
theorem dX2_dishTold_13 : decode cX2_dishTold 13 = .ok (.aload_n 0, 1) := by decide +kernel
theorem dX2_dishTold_14 : decode cX2_dishTold 14 = .ok (.getfield 12, 3) := by decide +kernel
theorem dX2_dishTold_17 : decode cX2_dishTold 17 = .ok (.getfield 64, 3) := by decide +kernel
theorem dX2_dishTold_20 : decode cX2_dishTold 20 = .ok (.if_icmp .ge 33, 3) := by decide +kernel
theorem dX2_dishTold_23 : decode cX2_dishTold 23 = .ok (.aload_n 0, 1) := by decide +kernel
theorem dX2_dishTold_24 : decode cX2_dishTold 24 = .ok (.getfield 12, 3) := by decide +kernel
theorem dX2_dishTold_27 : decode cX2_dishTold 27 = .ok (.getfield 95, 3) := by decide +kernel
theorem dX2_dishTold_30 : decode cX2_dishTold 30 = .ok (.iload 6, 2) := by decide +kernel
theorem dX2_dishTold_32 : decode cX2_dishTold 32 = .ok (.iaload, 1) := by decide +kernel
theorem dX2_dishTold_33 : decode cX2_dishTold 33 = .ok (.iload_n 1, 1) := by decide +kernel
theorem dX2_dishTold_34 : decode cX2_dishTold 34 = .ok (.if_icmp .eq 6, 3) := by decide +kernel
theorem dX2_dishTold_37 : decode cX2_dishTold 37 = .ok (.goto 10, 3) := by decide +kernel
theorem dX2_dishTold_40 : decode cX2_dishTold 40 = .ok (.iinc 3 1, 3) := by decide +kernel
theorem dX2_dishTold_43 : decode cX2_dishTold 43 = .ok (.iload 6, 2) := by decide +kernel
theorem dX2_dishTold_45 : decode cX2_dishTold 45 = .ok (.istore 4, 2) := by decide +kernel
theorem dX2_dishTold_47 : decode cX2_dishTold 47 = .ok (.iinc 6 1, 3) := by decide +kernel
theorem dX2_dishTold_50 : decode cX2_dishTold 50 = .ok (.goto (-39), 3) := by decide +kernel
theorem dX2_dishTold_53 : decode cX2_dishTold 53 = .ok (.iconst 0, 1) := by decide +kernel
theorem dX2_dishTold_54 : decode cX2_dishTold 54 = .ok (.istore 6, 2) := by decide +kernel
theorem dX2_dishTold_56 : decode cX2_dishTold 56 = .ok (.iload 6, 2) := by decide +kernel
theorem dX2_dishTold_58 : decode cX2_dishTold 58 = .ok (.bipush 8, 2) := by decide +kernel
theorem dX2_dishTold_60 : decode cX2_dishTold 60 = .ok (.if_icmp .ge 32, 3) := by decide +kernel
theorem dX2_dishTold_63 : decode cX2_dishTold 63 = .ok (.iload 5, 2) := by decide +kernel
theorem dX2_dishTold_65 : decode cX2_dishTold 65 = .ok (.aload_n 0, 1) := by decide +kernel
theorem dX2_dishTold_66 : decode cX2_dishTold 66 = .ok (.getfield 12, 3) := by decide +kernel
theorem dX2_dishTold_69 : decode cX2_dishTold 69 = .ok (.iload 6, 2) := by decide +kernel
theorem dX2_dishTold_71 : decode cX2_dishTold 71 = .ok (.iload_n 1, 1) := by decide +kernel
theorem dX2_dishTold_72 : decode cX2_dishTold 72 = .ok (.invokevirtual 98, 3) := by decide +kernel
theorem dX2_dishTold_75 : decode cX2_dishTold 75 = .ok (.ifCond .eq 7, 3) := by decide +kernel
theorem dX2_dishTold_78 : decode cX2_dishTold 78 = .ok (.iconst 1, 1) := by decide +kernel
theorem dX2_dishTold_79 : decode cX2_dishTold 79 = .ok (.goto 4, 3) := by decide +kernel
theorem dX2_dishTold_82 : decode cX2_dishTold 82 = .ok (.iconst 0, 1) := by decide +kernel
theorem dX2_dishTold_83 : decode cX2_dishTold 83 = .ok (.iadd, 1) := by decide +kernel
theorem dX2_dishTold_84 : decode cX2_dishTold 84 = .ok (.istore 5, 2) := by decide +kernel
theorem dX2_dishTold_86 : decode cX2_dishTold 86 = .ok (.iinc 6 1, 3) := by decide +kernel
theorem dX2_dishTold_89 : decode cX2_dishTold 89 = .ok (.goto (-33), 3) := by decide +kernel
theorem dX2_dishTold_92 : decode cX2_dishTold 92 = .ok (.iconst 5, 1) := by decide +kernel
theorem dX2_dishTold_93 : decode cX2_dishTold 93 = .ok (.newarray .int, 2) := by decide +kernel
theorem dX2_dishTold_95 : decode cX2_dishTold 95 = .ok (.dup, 1) := by decide +kernel
theorem dX2_dishTold_96 : decode cX2_dishTold 96 = .ok (.iconst 0, 1) := by decide +kernel
theorem dX2_dishTold_97 : decode cX2_dishTold 97 = .ok (.aload_n 0, 1) := by decide +kernel
theorem dX2_dishTold_98 : decode cX2_dishTold 98 = .ok (.getfield 12, 3) := by decide +kernel
theorem dX2_dishTold_101 : decode cX2_dishTold 101 = .ok (.iload_n 1, 1) := by decide +kernel
theorem dX2_dishTold_102 : decode cX2_dishTold 102 = .ok (.invokevirtual 54, 3) := by decide +kernel
theorem dX2_dishTold_105 : decode cX2_dishTold 105 = .ok (.iastore, 1) := by decide +kernel
theorem dX2_dishTold_106 : decode cX2_dishTold 106 = .ok (.dup, 1) := by decide +kernel
theorem dX2_dishTold_107 : decode cX2_dishTold 107 = .ok (.iconst 1, 1) := by decide +kernel
theorem dX2_dishTold_108 : decode cX2_dishTold 108 = .ok (.iload_n 3, 1) := by decide +kernel
theorem dX2_dishTold_109 : decode cX2_dishTold 109 = .ok (.iastore, 1) := by decide +kernel
theorem dX2_dishTold_110 : decode cX2_dishTold 110 = .ok (.dup, 1) := by decide +kernel
theorem dX2_dishTold_111 : decode cX2_dishTold 111 = .ok (.iconst 2, 1) := by decide +kernel
theorem dX2_dishTold_112 : decode cX2_dishTold 112 = .ok (.aload_n 0, 1) := by decide +kernel
theorem dX2_dishTold_113 : decode cX2_dishTold 113 = .ok (.getfield 12, 3) := by decide +kernel
theorem dX2_dishTold_116 : decode cX2_dishTold 116 = .ok (.iload_n 1, 1) := by decide +kernel
theorem dX2_dishTold_117 : decode cX2_dishTold 117 = .ok (.invokevirtual 102, 3) := by decide +kernel
theorem dX2_dishTold_120 : decode cX2_dishTold 120 = .ok (.iastore, 1) := by decide +kernel
theorem dX2_dishTold_121 : decode cX2_dishTold 121 = .ok (.dup, 1) := by decide +kernel
theorem dX2_dishTold_122 : decode cX2_dishTold 122 = .ok (.iconst 3, 1) := by decide +kernel
theorem dX2_dishTold_123 : decode cX2_dishTold 123 = .ok (.iload 5, 2) := by decide +kernel
theorem dX2_dishTold_125 : decode cX2_dishTold 125 = .ok (.iastore, 1) := by decide +kernel
theorem dX2_dishTold_126 : decode cX2_dishTold 126 = .ok (.dup, 1) := by decide +kernel
theorem dX2_dishTold_127 : decode cX2_dishTold 127 = .ok (.iconst 4, 1) := by decide +kernel
theorem dX2_dishTold_128 : decode cX2_dishTold 128 = .ok (.iload 4, 2) := by decide +kernel
theorem dX2_dishTold_130 : decode cX2_dishTold 130 = .ok (.iastore, 1) := by decide +kernel
theorem dX2_dishTold_131 : decode cX2_dishTold 131 = .ok (.astore 6, 2) := by decide +kernel
theorem dX2_dishTold_133 : decode cX2_dishTold 133 = .ok (.aload 6, 2) := by decide +kernel
theorem dX2_dishTold_135 : decode cX2_dishTold 135 = .ok (.iload_n 2, 1) := by decide +kernel
theorem dX2_dishTold_136 : decode cX2_dishTold 136 = .ok (.iaload, 1) := by decide +kernel
theorem dX2_dishTold_137 : decode cX2_dishTold 137 = .ok (.ireturn, 1) := by decide +kernel
set_option maxRecDepth 20000 in
theorem ggX2_dish_X2_isDish : GoodIn wsX2_dish wsX2_isDish := goodIn_r _ [6, 7, 8, 9, 5, 10, 48, 49, 50, 51, 52] (by decide +kernel) (by decide +kernel)
set_option maxRecDepth 20000 in
theorem gX2_dish_X2_isDish : GoodIn wsX2_dish (wsV RX2 44 RX2 yX2_isDish wsX2_isDish) := goodIn_app (goodIn_of _ (by decide +kernel)) ggX2_dish_X2_isDish
set_option maxRecDepth 20000 in
theorem ggX2_dish_X2_isIn : GoodIn wsX2_dish wsX2_isIn := goodIn_r _ [10] (by decide +kernel) (by decide +kernel)
set_option maxRecDepth 20000 in
theorem gX2_dish_X2_isIn : GoodIn wsX2_dish (va_wsS RX2 25 yX2_isIn wsX2_isIn) := goodIn_app (goodIn_of _ (by decide +kernel)) ggX2_dish_X2_isIn
set_option maxRecDepth 20000 in
theorem ggX2_dish_X2_dishTold : GoodIn wsX2_dish wsX2_dishTold := goodIn_r _ [14, 15, 16, 17, 18, 19, 20, 21, 22, 23, 24, 25, 26, 27, 28, 29, 30, 31, 32, 33, 34, 35, 36, 37, 38, 39, 40, 41, 42, 43, 48, 49, 50, 51, 52, 53, 54, 55, 56, 57, 58, 59, 60, 61, 62, 63, 64, 65, 66, 67] (by decide +kernel) (by decide +kernel)
set_option maxRecDepth 20000 in
theorem gX2_dish_X2_dishTold : GoodIn wsX2_dish (wsV RX2 105 RX2 yX2_dishTold wsX2_dishTold) := goodIn_app (goodIn_of _ (by decide +kernel)) ggX2_dish_X2_dishTold
set_option maxRecDepth 20000 in
theorem ggX2_dish_X2_no : GoodIn wsX2_dish wsX2_no := goodIn_r _ [47, 1, 48, 49, 50, 51, 52] (by decide +kernel) (by decide +kernel)
set_option maxRecDepth 20000 in
theorem gX2_dish_X2_no : GoodIn wsX2_dish (wsV RX2 36 RX2 yX2_no wsX2_no) := goodIn_app (goodIn_of _ (by decide +kernel)) ggX2_dish_X2_no
theorem dX2_dish_0 : decode cX2_dish 0 = .ok (.aload_n 0, 1) := by decide +kernel
theorem dX2_dish_1 : decode cX2_dish 1 = .ok (.iconst 0, 1) := by decide +kernel
theorem dX2_dish_2 : decode cX2_dish 2 = .ok (.putfield 21, 3) := by decide +kernel
theorem dX2_dish_5 : decode cX2_dish 5 = .ok (.aload_n 0, 1) := by decide +kernel
theorem dX2_dish_6 : decode cX2_dish 6 = .ok (.iload_n 1, 1) := by decide +kernel
theorem dX2_dish_7 : decode cX2_dish 7 = .ok (.invokevirtual 44, 3) := by decide +kernel
theorem dX2_dish_10 : decode cX2_dish 10 = .ok (.ifCond .eq 21, 3) := by decide +kernel
theorem dX2_dish_13 : decode cX2_dish 13 = .ok (.iload_n 2, 1) := by decide +kernel
theorem dX2_dish_14 : decode cX2_dish 14 = .ok (.iconst 0, 1) := by decide +kernel
theorem dX2_dish_15 : decode cX2_dish 15 = .ok (.iconst 4, 1) := by decide +kernel
theorem dX2_dish_16 : decode cX2_dish 16 = .ok (.invokestatic 25, 3) := by decide +kernel
theorem dX2_dish_19 : decode cX2_dish 19 = .ok (.ifCond .eq 12, 3) := by decide +kernel
theorem dX2_dish_22 : decode cX2_dish 22 = .ok (.aload_n 0, 1) := by decide +kernel
theorem dX2_dish_23 : decode cX2_dish 23 = .ok (.iload_n 1, 1) := by decide +kernel
theorem dX2_dish_24 : decode cX2_dish 24 = .ok (.iload_n 2, 1) := by decide +kernel
theorem dX2_dish_25 : decode cX2_dish 25 = .ok (.invokevirtual 105, 3) := by decide +kernel
theorem dX2_dish_28 : decode cX2_dish 28 = .ok (.goto 8, 3) := by decide +kernel
theorem dX2_dish_31 : decode cX2_dish 31 = .ok (.aload_n 0, 1) := by decide +kernel
theorem dX2_dish_32 : decode cX2_dish 32 = .ok (.iconst 1, 1) := by decide +kernel
theorem dX2_dish_33 : decode cX2_dish 33 = .ok (.invokevirtual 36, 3) := by decide +kernel
theorem dX2_dish_36 : decode cX2_dish 36 = .ok (.ireturn, 1) := by decide +kernel
theorem dX2_lineTold_0 : decode cX2_lineTold 0 = .ok (.bipush 7, 2) := by decide +kernel
theorem dX2_lineTold_2 : decode cX2_lineTold 2 = .ok (.newarray .int, 2) := by decide +kernel
theorem dX2_lineTold_4 : decode cX2_lineTold 4 = .ok (.dup, 1) := by decide +kernel
theorem dX2_lineTold_5 : decode cX2_lineTold 5 = .ok (.iconst 0, 1) := by decide +kernel
theorem dX2_lineTold_6 : decode cX2_lineTold 6 = .ok (.aload_n 0, 1) := by decide +kernel
theorem dX2_lineTold_7 : decode cX2_lineTold 7 = .ok (.getfield 12, 3) := by decide +kernel
theorem dX2_lineTold_10 : decode cX2_lineTold 10 = .ok (.getfield 95, 3) := by decide +kernel
theorem dX2_lineTold_13 : decode cX2_lineTold 13 = .ok (.iload_n 1, 1) := by decide +kernel
theorem dX2_lineTold_14 : decode cX2_lineTold 14 = .ok (.iaload, 1) := by decide +kernel
theorem dX2_lineTold_15 : decode cX2_lineTold 15 = .ok (.iastore, 1) := by decide +kernel
theorem dX2_lineTold_16 : decode cX2_lineTold 16 = .ok (.dup, 1) := by decide +kernel
theorem dX2_lineTold_17 : decode cX2_lineTold 17 = .ok (.iconst 1, 1) := by decide +kernel
theorem dX2_lineTold_18 : decode cX2_lineTold 18 = .ok (.aload_n 0, 1) := by decide +kernel
theorem dX2_lineTold_19 : decode cX2_lineTold 19 = .ok (.getfield 12, 3) := by decide +kernel
theorem dX2_lineTold_22 : decode cX2_lineTold 22 = .ok (.getfield 108, 3) := by decide +kernel
theorem dX2_lineTold_25 : decode cX2_lineTold 25 = .ok (.iload_n 1, 1) := by decide +kernel
theorem dX2_lineTold_26 : decode cX2_lineTold 26 = .ok (.iaload, 1) := by decide +kernel
theorem dX2_lineTold_27 : decode cX2_lineTold 27 = .ok (.iastore, 1) := by decide +kernel
theorem dX2_lineTold_28 : decode cX2_lineTold 28 = .ok (.dup, 1) := by decide +kernel
theorem dX2_lineTold_29 : decode cX2_lineTold 29 = .ok (.iconst 2, 1) := by decide +kernel
theorem dX2_lineTold_30 : decode cX2_lineTold 30 = .ok (.aload_n 0, 1) := by decide +kernel
theorem dX2_lineTold_31 : decode cX2_lineTold 31 = .ok (.getfield 12, 3) := by decide +kernel
theorem dX2_lineTold_34 : decode cX2_lineTold 34 = .ok (.getfield 111, 3) := by decide +kernel
theorem dX2_lineTold_37 : decode cX2_lineTold 37 = .ok (.iload_n 1, 1) := by decide +kernel
theorem dX2_lineTold_38 : decode cX2_lineTold 38 = .ok (.iaload, 1) := by decide +kernel
theorem dX2_lineTold_39 : decode cX2_lineTold 39 = .ok (.iastore, 1) := by decide +kernel
theorem dX2_lineTold_40 : decode cX2_lineTold 40 = .ok (.dup, 1) := by decide +kernel
theorem dX2_lineTold_41 : decode cX2_lineTold 41 = .ok (.iconst 3, 1) := by decide +kernel
theorem dX2_lineTold_42 : decode cX2_lineTold 42 = .ok (.aload_n 0, 1) := by decide +kernel
theorem dX2_lineTold_43 : decode cX2_lineTold 43 = .ok (.getfield 12, 3) := by decide +kernel
theorem dX2_lineTold_46 : decode cX2_lineTold 46 = .ok (.getfield 114, 3) := by decide +kernel
theorem dX2_lineTold_49 : decode cX2_lineTold 49 = .ok (.iload_n 1, 1) := by decide +kernel
theorem dX2_lineTold_50 : decode cX2_lineTold 50 = .ok (.iaload, 1) := by decide +kernel
theorem dX2_lineTold_51 : decode cX2_lineTold 51 = .ok (.iastore, 1) := by decide +kernel
theorem dX2_lineTold_52 : decode cX2_lineTold 52 = .ok (.dup, 1) := by decide +kernel
theorem dX2_lineTold_53 : decode cX2_lineTold 53 = .ok (.iconst 4, 1) := by decide +kernel
theorem dX2_lineTold_54 : decode cX2_lineTold 54 = .ok (.aload_n 0, 1) := by decide +kernel
theorem dX2_lineTold_55 : decode cX2_lineTold 55 = .ok (.getfield 12, 3) := by decide +kernel
theorem dX2_lineTold_58 : decode cX2_lineTold 58 = .ok (.getfield 117, 3) := by decide +kernel
theorem dX2_lineTold_61 : decode cX2_lineTold 61 = .ok (.iload_n 1, 1) := by decide +kernel
theorem dX2_lineTold_62 : decode cX2_lineTold 62 = .ok (.iaload, 1) := by decide +kernel
theorem dX2_lineTold_63 : decode cX2_lineTold 63 = .ok (.iastore, 1) := by decide +kernel
theorem dX2_lineTold_64 : decode cX2_lineTold 64 = .ok (.dup, 1) := by decide +kernel
theorem dX2_lineTold_65 : decode cX2_lineTold 65 = .ok (.iconst 5, 1) := by decide +kernel
theorem dX2_lineTold_66 : decode cX2_lineTold 66 = .ok (.aload_n 0, 1) := by decide +kernel
theorem dX2_lineTold_67 : decode cX2_lineTold 67 = .ok (.getfield 12, 3) := by decide +kernel
theorem dX2_lineTold_70 : decode cX2_lineTold 70 = .ok (.getfield 120, 3) := by decide +kernel
theorem dX2_lineTold_73 : decode cX2_lineTold 73 = .ok (.iload_n 1, 1) := by decide +kernel
theorem dX2_lineTold_74 : decode cX2_lineTold 74 = .ok (.iaload, 1) := by decide +kernel
theorem dX2_lineTold_75 : decode cX2_lineTold 75 = .ok (.iastore, 1) := by decide +kernel
theorem dX2_lineTold_76 : decode cX2_lineTold 76 = .ok (.dup, 1) := by decide +kernel
theorem dX2_lineTold_77 : decode cX2_lineTold 77 = .ok (.bipush 6, 2) := by decide +kernel
theorem dX2_lineTold_79 : decode cX2_lineTold 79 = .ok (.iload_n 1, 1) := by decide +kernel
theorem dX2_lineTold_80 : decode cX2_lineTold 80 = .ok (.aload_n 0, 1) := by decide +kernel
theorem dX2_lineTold_81 : decode cX2_lineTold 81 = .ok (.getfield 12, 3) := by decide +kernel
theorem dX2_lineTold_84 : decode cX2_lineTold 84 = .ok (.getfield 123, 3) := by decide +kernel
theorem dX2_lineTold_87 : decode cX2_lineTold 87 = .ok (.if_icmp .ge 7, 3) := by decide +kernel
theorem dX2_lineTold_90 : decode cX2_lineTold 90 = .ok (.iconst 1, 1) := by decide +kernel
theorem dX2_lineTold_91 : decode cX2_lineTold 91 = .ok (.goto 4, 3) := by decide +kernel
theorem dX2_lineTold_94 : decode cX2_lineTold 94 = .ok (.iconst 0, 1) := by decide +kernel
theorem dX2_lineTold_95 : decode cX2_lineTold 95 = .ok (.iastore, 1) := by decide +kernel
theorem dX2_lineTold_96 : decode cX2_lineTold 96 = .ok (.astore_n 3, 1) := by decide +kernel
theorem dX2_lineTold_97 : decode cX2_lineTold 97 = .ok (.aload_n 3, 1) := by decide +kernel
theorem dX2_lineTold_98 : decode cX2_lineTold 98 = .ok (.iload_n 2, 1) := by decide +kernel
theorem dX2_lineTold_99 : decode cX2_lineTold 99 = .ok (.iaload, 1) := by decide +kernel
theorem dX2_lineTold_100 : decode cX2_lineTold 100 = .ok (.ireturn, 1) := by decide +kernel
set_option maxRecDepth 20000 in
theorem ggX2_line_X2_isIn : GoodIn wsX2_line wsX2_isIn := goodIn_r _ [6] (by decide +kernel) (by decide +kernel)
set_option maxRecDepth 20000 in
theorem gX2_line_X2_isIn : GoodIn wsX2_line (va_wsS RX2 25 yX2_isIn wsX2_isIn) := goodIn_app (goodIn_of _ (by decide +kernel)) ggX2_line_X2_isIn
set_option maxRecDepth 20000 in
theorem ggX2_line_X2_lineTold : GoodIn wsX2_line wsX2_lineTold := goodIn_r _ [10, 11, 2, 16, 17, 18, 19, 20, 21, 22, 23, 24, 25, 26, 27, 28, 29, 30, 31, 32, 33, 34, 35] (by decide +kernel) (by decide +kernel)
set_option maxRecDepth 20000 in
theorem gX2_line_X2_lineTold : GoodIn wsX2_line (wsV RX2 126 RX2 yX2_lineTold wsX2_lineTold) := goodIn_app (goodIn_of _ (by decide +kernel)) ggX2_line_X2_lineTold
set_option maxRecDepth 20000 in
theorem ggX2_line_X2_no : GoodIn wsX2_line wsX2_no := goodIn_r _ [15, 1, 16, 17, 18, 19, 20] (by decide +kernel) (by decide +kernel)
set_option maxRecDepth 20000 in
theorem gX2_line_X2_no : GoodIn wsX2_line (wsV RX2 36 RX2 yX2_no wsX2_no) := goodIn_app (goodIn_of _ (by decide +kernel)) ggX2_line_X2_no
theorem dX2_line_0 : decode cX2_line 0 = .ok (.aload_n 0, 1) := by decide +kernel
theorem dX2_line_1 : decode cX2_line 1 = .ok (.iconst 0, 1) := by decide +kernel
theorem dX2_line_2 : decode cX2_line 2 = .ok (.putfield 21, 3) := by decide +kernel
theorem dX2_line_5 : decode cX2_line 5 = .ok (.iload_n 1, 1) := by decide +kernel
theorem dX2_line_6 : decode cX2_line 6 = .ok (.iconst 0, 1) := by decide +kernel
theorem dX2_line_7 : decode cX2_line 7 = .ok (.aload_n 0, 1) := by decide +kernel
theorem dX2_line_8 : decode cX2_line 8 = .ok (.getfield 12, 3) := by decide +kernel
theorem dX2_line_11 : decode cX2_line 11 = .ok (.getfield 64, 3) := by decide +kernel
theorem dX2_line_14 : decode cX2_line 14 = .ok (.iconst 1, 1) := by decide +kernel
theorem dX2_line_15 : decode cX2_line 15 = .ok (.isub, 1) := by decide +kernel
theorem dX2_line_16 : decode cX2_line 16 = .ok (.invokestatic 25, 3) := by decide +kernel
theorem dX2_line_19 : decode cX2_line 19 = .ok (.ifCond .eq 22, 3) := by decide +kernel
theorem dX2_line_22 : decode cX2_line 22 = .ok (.iload_n 2, 1) := by decide +kernel
theorem dX2_line_23 : decode cX2_line 23 = .ok (.iconst 0, 1) := by decide +kernel
theorem dX2_line_24 : decode cX2_line 24 = .ok (.bipush 6, 2) := by decide +kernel
theorem dX2_line_26 : decode cX2_line 26 = .ok (.invokestatic 25, 3) := by decide +kernel
theorem dX2_line_29 : decode cX2_line 29 = .ok (.ifCond .eq 12, 3) := by decide +kernel
theorem dX2_line_32 : decode cX2_line 32 = .ok (.aload_n 0, 1) := by decide +kernel
theorem dX2_line_33 : decode cX2_line 33 = .ok (.iload_n 1, 1) := by decide +kernel
theorem dX2_line_34 : decode cX2_line 34 = .ok (.iload_n 2, 1) := by decide +kernel
theorem dX2_line_35 : decode cX2_line 35 = .ok (.invokevirtual 126, 3) := by decide +kernel
theorem dX2_line_38 : decode cX2_line 38 = .ok (.goto 8, 3) := by decide +kernel
theorem dX2_line_41 : decode cX2_line 41 = .ok (.aload_n 0, 1) := by decide +kernel
theorem dX2_line_42 : decode cX2_line 42 = .ok (.iconst 1, 1) := by decide +kernel
theorem dX2_line_43 : decode cX2_line 43 = .ok (.invokevirtual 36, 3) := by decide +kernel
theorem dX2_line_46 : decode cX2_line 46 = .ok (.ireturn, 1) := by decide +kernel
set_option maxRecDepth 20000 in
theorem ggX2_counted_X1_are : GoodIn wsX2_counted wsX1_are := goodIn_r _ [8, 9, 10, 11, 12, 7, 13, 14, 15, 16, 43, 44, 45, 46, 47, 48, 49, 50, 51, 52, 53, 54, 55, 56, 57, 38, 39, 40, 41, 42] (by decide +kernel) (by decide +kernel)
set_option maxRecDepth 20000 in
theorem gX2_counted_X1_are : GoodIn wsX2_counted (wsV RX2 129 RX1 yX1_are wsX1_are) := goodIn_app (goodIn_of _ (by decide +kernel)) ggX2_counted_X1_are
set_option maxRecDepth 20000 in
theorem ggX2_counted_X1_room : GoodIn wsX2_counted wsX1_room := goodIn_r _ [20, 14, 9, 10, 11, 12, 7, 13, 15, 16, 21, 22, 23, 24, 25, 26, 27, 28, 29, 30, 31, 32, 33, 43, 44, 45, 46, 47, 48, 49, 50, 51, 52, 53, 54, 55, 56, 57, 38, 39, 40, 41, 42] (by decide +kernel) (by decide +kernel)
set_option maxRecDepth 20000 in
theorem gX2_counted_X1_room : GoodIn wsX2_counted (wsV RX2 32 RX1 yX1_room wsX1_room) := goodIn_app (goodIn_of _ (by decide +kernel)) ggX2_counted_X1_room
set_option maxRecDepth 20000 in
theorem ggX2_counted_X1_sum : GoodIn wsX2_counted wsX1_sum := goodIn_r _ [37] (by decide +kernel) (by decide +kernel)
set_option maxRecDepth 20000 in
theorem gX2_counted_X1_sum : GoodIn wsX2_counted (wsV RX2 132 RX1 yX1_sum wsX1_sum) := goodIn_app (goodIn_of _ (by decide +kernel)) ggX2_counted_X1_sum
theorem dX2_counted_0 : decode cX2_counted 0 = .ok (.iload_n 1, 1) := by decide +kernel
theorem dX2_counted_1 : decode cX2_counted 1 = .ok (.tableswitch 125 0 9 #[55, 63, 71, 76, 76, 76, 76, 87, 95, 110], 55) := by decide +kernel
theorem dX2_counted_56 : decode cX2_counted 56 = .ok (.aload_n 0, 1) := by decide +kernel
theorem dX2_counted_57 : decode cX2_counted 57 = .ok (.getfield 12, 3) := by decide +kernel
theorem dX2_counted_60 : decode cX2_counted 60 = .ok (.getfield 64, 3) := by decide +kernel
theorem dX2_counted_63 : decode cX2_counted 63 = .ok (.ireturn, 1) := by decide +kernel
theorem dX2_counted_64 : decode cX2_counted 64 = .ok (.aload_n 0, 1) := by decide +kernel
theorem dX2_counted_65 : decode cX2_counted 65 = .ok (.getfield 12, 3) := by decide +kernel
theorem dX2_counted_68 : decode cX2_counted 68 = .ok (.getfield 123, 3) := by decide +kernel
theorem dX2_counted_71 : decode cX2_counted 71 = .ok (.ireturn, 1) := by decide +kernel
theorem dX2_counted_72 : decode cX2_counted 72 = .ok (.aload_n 0, 1) := by decide +kernel
theorem dX2_counted_73 : decode cX2_counted 73 = .ok (.getfield 29, 3) := by decide +kernel
theorem dX2_counted_76 : decode cX2_counted 76 = .ok (.ireturn, 1) := by decide +kernel
theorem dX2_counted_77 : decode cX2_counted 77 = .ok (.aload_n 0, 1) := by decide +kernel
theorem dX2_counted_78 : decode cX2_counted 78 = .ok (.getfield 12, 3) := by decide +kernel
theorem dX2_counted_81 : decode cX2_counted 81 = .ok (.iload_n 1, 1) := by decide +kernel
theorem dX2_counted_82 : decode cX2_counted 82 = .ok (.iconst 3, 1) := by decide +kernel
theorem dX2_counted_83 : decode cX2_counted 83 = .ok (.isub, 1) := by decide +kernel
theorem dX2_counted_84 : decode cX2_counted 84 = .ok (.invokevirtual 129, 3) := by decide +kernel
theorem dX2_counted_87 : decode cX2_counted 87 = .ok (.ireturn, 1) := by decide +kernel
theorem dX2_counted_88 : decode cX2_counted 88 = .ok (.aload_n 0, 1) := by decide +kernel
theorem dX2_counted_89 : decode cX2_counted 89 = .ok (.getfield 12, 3) := by decide +kernel
theorem dX2_counted_92 : decode cX2_counted 92 = .ok (.invokevirtual 32, 3) := by decide +kernel
theorem dX2_counted_95 : decode cX2_counted 95 = .ok (.ireturn, 1) := by decide +kernel
theorem dX2_counted_96 : decode cX2_counted 96 = .ok (.aload_n 0, 1) := by decide +kernel
theorem dX2_counted_97 : decode cX2_counted 97 = .ok (.getfield 12, 3) := by decide +kernel
theorem dX2_counted_100 : decode cX2_counted 100 = .ok (.aload_n 0, 1) := by decide +kernel
theorem dX2_counted_101 : decode cX2_counted 101 = .ok (.getfield 12, 3) := by decide +kernel
theorem dX2_counted_104 : decode cX2_counted 104 = .ok (.getfield 57, 3) := by decide +kernel
theorem dX2_counted_107 : decode cX2_counted 107 = .ok (.invokevirtual 132, 3) := by decide +kernel
theorem dX2_counted_110 : decode cX2_counted 110 = .ok (.ireturn, 1) := by decide +kernel
theorem dX2_counted_111 : decode cX2_counted 111 = .ok (.aload_n 0, 1) := by decide +kernel
theorem dX2_counted_112 : decode cX2_counted 112 = .ok (.getfield 12, 3) := by decide +kernel
theorem dX2_counted_115 : decode cX2_counted 115 = .ok (.aload_n 0, 1) := by decide +kernel
theorem dX2_counted_116 : decode cX2_counted 116 = .ok (.getfield 12, 3) := by decide +kernel
theorem dX2_counted_119 : decode cX2_counted 119 = .ok (.getfield 76, 3) := by decide +kernel
theorem dX2_counted_122 : decode cX2_counted 122 = .ok (.invokevirtual 132, 3) := by decide +kernel
theorem dX2_counted_125 : decode cX2_counted 125 = .ok (.ireturn, 1) := by decide +kernel
theorem dX2_counted_126 : decode cX2_counted 126 = .ok (.aload_n 0, 1) := by decide +kernel
theorem dX2_counted_127 : decode cX2_counted 127 = .ok (.getfield 85, 3) := by decide +kernel
theorem dX2_counted_130 : decode cX2_counted 130 = .ok (.ireturn, 1) := by decide +kernel
set_option maxRecDepth 20000 in
theorem ggX2_count_X2_isIn : GoodIn wsX2_count wsX2_isIn := goodIn_r _ [5] (by decide +kernel) (by decide +kernel)
set_option maxRecDepth 20000 in
theorem gX2_count_X2_isIn : GoodIn wsX2_count (va_wsS RX2 25 yX2_isIn wsX2_isIn) := goodIn_app (goodIn_of _ (by decide +kernel)) ggX2_count_X2_isIn
set_option maxRecDepth 20000 in
theorem ggX2_count_X2_counted : GoodIn wsX2_count wsX2_counted := goodIn_r _ [9, 10, 11, 12, 13, 14, 15, 16, 17, 18, 19, 20, 21, 22, 23, 24, 25, 26, 27, 28, 29, 30, 31, 32, 33, 34, 35, 36, 37, 38, 39, 40, 41, 42, 43, 44, 45, 46, 51, 52, 53, 54, 55, 56, 57, 58, 59, 60, 61, 62, 63, 64, 65, 66, 67, 68, 69, 70] (by decide +kernel) (by decide +kernel)
set_option maxRecDepth 20000 in
theorem gX2_count_X2_counted : GoodIn wsX2_count (wsV RX2 136 RX2 yX2_counted wsX2_counted) := goodIn_app (goodIn_of _ (by decide +kernel)) ggX2_count_X2_counted
set_option maxRecDepth 20000 in
theorem ggX2_count_X2_no : GoodIn wsX2_count wsX2_no := goodIn_r _ [50, 1, 51, 52, 53, 54, 55] (by decide +kernel) (by decide +kernel)
set_option maxRecDepth 20000 in
theorem gX2_count_X2_no : GoodIn wsX2_count (wsV RX2 36 RX2 yX2_no wsX2_no) := goodIn_app (goodIn_of _ (by decide +kernel)) ggX2_count_X2_no
theorem dX2_count_0 : decode cX2_count 0 = .ok (.aload_n 0, 1) := by decide +kernel
theorem dX2_count_1 : decode cX2_count 1 = .ok (.iconst 0, 1) := by decide +kernel
theorem dX2_count_2 : decode cX2_count 2 = .ok (.putfield 21, 3) := by decide +kernel
theorem dX2_count_5 : decode cX2_count 5 = .ok (.iload_n 1, 1) := by decide +kernel
theorem dX2_count_6 : decode cX2_count 6 = .ok (.iconst 0, 1) := by decide +kernel
theorem dX2_count_7 : decode cX2_count 7 = .ok (.bipush 10, 2) := by decide +kernel
theorem dX2_count_9 : decode cX2_count 9 = .ok (.invokestatic 25, 3) := by decide +kernel
theorem dX2_count_12 : decode cX2_count 12 = .ok (.ifCond .eq 11, 3) := by decide +kernel
theorem dX2_count_15 : decode cX2_count 15 = .ok (.aload_n 0, 1) := by decide +kernel
theorem dX2_count_16 : decode cX2_count 16 = .ok (.iload_n 1, 1) := by decide +kernel
theorem dX2_count_17 : decode cX2_count 17 = .ok (.invokevirtual 136, 3) := by decide +kernel
theorem dX2_count_20 : decode cX2_count 20 = .ok (.goto 8, 3) := by decide +kernel
theorem dX2_count_23 : decode cX2_count 23 = .ok (.aload_n 0, 1) := by decide +kernel
theorem dX2_count_24 : decode cX2_count 24 = .ok (.iconst 1, 1) := by decide +kernel
theorem dX2_count_25 : decode cX2_count 25 = .ok (.invokevirtual 36, 3) := by decide +kernel
theorem dX2_count_28 : decode cX2_count 28 = .ok (.ireturn, 1) := by decide +kernel
set_option maxRecDepth 20000 in
theorem ggX2_would_X2_isIn : GoodIn wsX2_would wsX2_isIn := goodIn_r _ [8] (by decide +kernel) (by decide +kernel)
set_option maxRecDepth 20000 in
theorem gX2_would_X2_isIn : GoodIn wsX2_would (va_wsS RX2 25 yX2_isIn wsX2_isIn) := goodIn_app (goodIn_of _ (by decide +kernel)) ggX2_would_X2_isIn
set_option maxRecDepth 20000 in
theorem ggX2_would_X2_no : GoodIn wsX2_would wsX2_no := goodIn_r _ [12, 1, 73, 74, 75, 76, 77] (by decide +kernel) (by decide +kernel)
set_option maxRecDepth 20000 in
theorem gX2_would_X2_no : GoodIn wsX2_would (wsV RX2 36 RX2 yX2_no wsX2_no) := goodIn_app (goodIn_of _ (by decide +kernel)) ggX2_would_X2_no
set_option maxRecDepth 20000 in
theorem ggX2_would_X1_become : GoodIn wsX2_would wsX1_become := goodIn_r _ [17, 18, 19, 20, 21, 22, 23, 24, 25, 26, 27, 28, 29, 30, 31, 16, 32, 33, 34, 35, 36, 78, 79, 80, 81, 82, 83, 84, 85, 86, 87, 88, 89, 90, 91, 92] (by decide +kernel) (by decide +kernel)
set_option maxRecDepth 20000 in
theorem gX2_would_X1_become : GoodIn wsX2_would (wsV RX2 139 RX1 yX1_become wsX1_become) := goodIn_app (goodIn_of _ (by decide +kernel)) ggX2_would_X1_become
set_option maxRecDepth 20000 in
theorem ggX2_would_X1_fall : GoodIn wsX2_would wsX1_fall := goodIn_r _ [40, 19, 18, 41, 42, 43, 20, 21, 25, 22, 27, 44, 45, 46, 47, 16, 48, 23, 24, 49, 50, 51, 52, 26, 53, 54, 55, 56, 57, 58, 59, 60, 28, 61, 62, 63, 64, 65, 66, 67, 68, 78, 79, 80, 81, 82, 83, 84, 85, 86, 87, 88, 89, 90, 91, 92, 73, 74, 75, 76, 77] (by decide +kernel) (by decide +kernel)
set_option maxRecDepth 20000 in
theorem gX2_would_X1_fall : GoodIn wsX2_would (wsV RX2 82 RX1 yX1_fall wsX1_fall) := goodIn_app (goodIn_of _ (by decide +kernel)) ggX2_would_X1_fall
set_option maxRecDepth 20000 in
theorem ggX2_would_X1_are : GoodIn wsX2_would wsX1_are := goodIn_r _ [72, 44, 45, 46, 47, 16, 48, 18, 23, 24, 78, 79, 80, 81, 82, 83, 84, 85, 86, 87, 88, 89, 90, 91, 92, 73, 74, 75, 76, 77] (by decide +kernel) (by decide +kernel)
set_option maxRecDepth 20000 in
theorem gX2_would_X1_are : GoodIn wsX2_would (wsV RX2 129 RX1 yX1_are wsX1_are) := goodIn_app (goodIn_of _ (by decide +kernel)) ggX2_would_X1_are
theorem dX2_would_0 : decode cX2_would 0 = .ok (.aload_n 0, 1) := by decide +kernel
theorem dX2_would_1 : decode cX2_would 1 = .ok (.iconst 0, 1) := by decide +kernel
theorem dX2_would_2 : decode cX2_would 2 = .ok (.putfield 21, 3) := by decide +kernel
theorem dX2_would_5 : decode cX2_would 5 = .ok (.iload_n 1, 1) := by decide +kernel
theorem dX2_would_6 : decode cX2_would 6 = .ok (.iconst 0, 1) := by decide +kernel
theorem dX2_would_7 : decode cX2_would 7 = .ok (.iconst 4, 1) := by decide +kernel
theorem dX2_would_8 : decode cX2_would 8 = .ok (.invokestatic 25, 3) := by decide +kernel
theorem dX2_would_11 : decode cX2_would 11 = .ok (.ifCond .ne 9, 3) := by decide +kernel
theorem dX2_would_14 : decode cX2_would 14 = .ok (.aload_n 0, 1) := by decide +kernel
theorem dX2_would_15 : decode cX2_would 15 = .ok (.iconst 1, 1) := by decide +kernel
theorem dX2_would_16 : decode cX2_would 16 = .ok (.invokevirtual 36, 3) := by decide +kernel
theorem dX2_would_19 : decode cX2_would 19 = .ok (.ireturn, 1) := by decide +kernel
theorem dX2_would_20 : decode cX2_would 20 = .ok (.aload_n 0, 1) := by decide +kernel
theorem dX2_would_21 : decode cX2_would 21 = .ok (.getfield 18, 3) := by decide +kernel
theorem dX2_would_24 : decode cX2_would 24 = .ok (.aload_n 0, 1) := by decide +kernel
theorem dX2_would_25 : decode cX2_would 25 = .ok (.getfield 12, 3) := by decide +kernel
theorem dX2_would_28 : decode cX2_would 28 = .ok (.invokevirtual 139, 3) := by decide +kernel
theorem dX2_would_31 : decode cX2_would 31 = .ok (.aload_n 0, 1) := by decide +kernel
theorem dX2_would_32 : decode cX2_would 32 = .ok (.getfield 18, 3) := by decide +kernel
theorem dX2_would_35 : decode cX2_would 35 = .ok (.invokevirtual 82, 3) := by decide +kernel
theorem dX2_would_38 : decode cX2_would 38 = .ok (.iconst 5, 1) := by decide +kernel
theorem dX2_would_39 : decode cX2_would 39 = .ok (.newarray .int, 2) := by decide +kernel
theorem dX2_would_41 : decode cX2_would 41 = .ok (.dup, 1) := by decide +kernel
theorem dX2_would_42 : decode cX2_would 42 = .ok (.iconst 0, 1) := by decide +kernel
theorem dX2_would_43 : decode cX2_would 43 = .ok (.aload_n 0, 1) := by decide +kernel
theorem dX2_would_44 : decode cX2_would 44 = .ok (.getfield 12, 3) := by decide +kernel
theorem dX2_would_47 : decode cX2_would 47 = .ok (.getfield 64, 3) := by decide +kernel
theorem dX2_would_50 : decode cX2_would 50 = .ok (.aload_n 0, 1) := by decide +kernel
theorem dX2_would_51 : decode cX2_would 51 = .ok (.getfield 12, 3) := by decide +kernel
theorem dX2_would_54 : decode cX2_would 54 = .ok (.getfield 123, 3) := by decide +kernel
theorem dX2_would_57 : decode cX2_would 57 = .ok (.isub, 1) := by decide +kernel
theorem dX2_would_58 : decode cX2_would 58 = .ok (.iastore, 1) := by decide +kernel
theorem dX2_would_59 : decode cX2_would 59 = .ok (.dup, 1) := by decide +kernel
theorem dX2_would_60 : decode cX2_would 60 = .ok (.iconst 1, 1) := by decide +kernel
theorem dX2_would_61 : decode cX2_would 61 = .ok (.aload_n 0, 1) := by decide +kernel
theorem dX2_would_62 : decode cX2_would 62 = .ok (.getfield 18, 3) := by decide +kernel
theorem dX2_would_65 : decode cX2_would 65 = .ok (.getfield 88, 3) := by decide +kernel
theorem dX2_would_68 : decode cX2_would 68 = .ok (.iastore, 1) := by decide +kernel
theorem dX2_would_69 : decode cX2_would 69 = .ok (.dup, 1) := by decide +kernel
theorem dX2_would_70 : decode cX2_would 70 = .ok (.iconst 2, 1) := by decide +kernel
theorem dX2_would_71 : decode cX2_would 71 = .ok (.aload_n 0, 1) := by decide +kernel
theorem dX2_would_72 : decode cX2_would 72 = .ok (.getfield 18, 3) := by decide +kernel
theorem dX2_would_75 : decode cX2_would 75 = .ok (.getfield 143, 3) := by decide +kernel
theorem dX2_would_78 : decode cX2_would 78 = .ok (.iastore, 1) := by decide +kernel
theorem dX2_would_79 : decode cX2_would 79 = .ok (.dup, 1) := by decide +kernel
theorem dX2_would_80 : decode cX2_would 80 = .ok (.iconst 3, 1) := by decide +kernel
theorem dX2_would_81 : decode cX2_would 81 = .ok (.aload_n 0, 1) := by decide +kernel
theorem dX2_would_82 : decode cX2_would 82 = .ok (.getfield 18, 3) := by decide +kernel
theorem dX2_would_85 : decode cX2_would 85 = .ok (.getfield 146, 3) := by decide +kernel
theorem dX2_would_88 : decode cX2_would 88 = .ok (.iastore, 1) := by decide +kernel
theorem dX2_would_89 : decode cX2_would 89 = .ok (.dup, 1) := by decide +kernel
theorem dX2_would_90 : decode cX2_would 90 = .ok (.iconst 4, 1) := by decide +kernel
theorem dX2_would_91 : decode cX2_would 91 = .ok (.aload_n 0, 1) := by decide +kernel
theorem dX2_would_92 : decode cX2_would 92 = .ok (.getfield 18, 3) := by decide +kernel
theorem dX2_would_95 : decode cX2_would 95 = .ok (.iconst 3, 1) := by decide +kernel
theorem dX2_would_96 : decode cX2_would 96 = .ok (.invokevirtual 129, 3) := by decide +kernel
theorem dX2_would_99 : decode cX2_would 99 = .ok (.aload_n 0, 1) := by decide +kernel
theorem dX2_would_100 : decode cX2_would 100 = .ok (.getfield 12, 3) := by decide +kernel
theorem dX2_would_103 : decode cX2_would 103 = .ok (.iconst 3, 1) := by decide +kernel
theorem dX2_would_104 : decode cX2_would 104 = .ok (.invokevirtual 129, 3) := by decide +kernel
theorem dX2_would_107 : decode cX2_would 107 = .ok (.isub, 1) := by decide +kernel
theorem dX2_would_108 : decode cX2_would 108 = .ok (.iastore, 1) := by decide +kernel
theorem dX2_would_109 : decode cX2_would 109 = .ok (.astore_n 2, 1) := by decide +kernel
theorem dX2_would_110 : decode cX2_would 110 = .ok (.aload_n 2, 1) := by decide +kernel
theorem dX2_would_111 : decode cX2_would 111 = .ok (.iload_n 1, 1) := by decide +kernel
theorem dX2_would_112 : decode cX2_would 112 = .ok (.iaload, 1) := by decide +kernel
theorem dX2_would_113 : decode cX2_would 113 = .ok (.ireturn, 1) := by decide +kernel
set_option maxRecDepth 20000 in
theorem ggX2_left_X2_isPot : GoodIn wsX2_left wsX2_isPot := goodIn_r _ [7, 8, 9, 6, 10] (by decide +kernel) (by decide +kernel)
set_option maxRecDepth 20000 in
theorem gX2_left_X2_isPot : GoodIn wsX2_left (va_wsS RX2 48 yX2_isPot wsX2_isPot) := goodIn_app (goodIn_of _ (by decide +kernel)) ggX2_left_X2_isPot
set_option maxRecDepth 20000 in
theorem ggX2_left_X2_no : GoodIn wsX2_left wsX2_no := goodIn_r _ [14, 1, 71, 72, 73, 74, 75] (by decide +kernel) (by decide +kernel)
set_option maxRecDepth 20000 in
theorem gX2_left_X2_no : GoodIn wsX2_left (wsV RX2 36 RX2 yX2_no wsX2_no) := goodIn_app (goodIn_of _ (by decide +kernel)) ggX2_left_X2_no
set_option maxRecDepth 20000 in
theorem ggX2_left_X1_become : GoodIn wsX2_left wsX1_become := goodIn_r _ [19, 20, 21, 22, 23, 24, 25, 26, 27, 28, 29, 30, 31, 32, 33, 18, 34, 35, 36, 37, 38, 76, 77, 78, 79, 80, 81, 82, 83, 84, 85, 86, 87, 88, 89, 90] (by decide +kernel) (by decide +kernel)
set_option maxRecDepth 20000 in
theorem gX2_left_X1_become : GoodIn wsX2_left (wsV RX2 139 RX1 yX1_become wsX1_become) := goodIn_app (goodIn_of _ (by decide +kernel)) ggX2_left_X1_become
set_option maxRecDepth 20000 in
theorem ggX2_left_X1_fall : GoodIn wsX2_left wsX1_fall := goodIn_r _ [42, 21, 20, 43, 44, 45, 22, 23, 27, 24, 29, 46, 47, 48, 49, 18, 50, 25, 26, 51, 52, 53, 54, 28, 55, 56, 57, 58, 59, 60, 61, 62, 30, 63, 64, 65, 66, 67, 68, 69, 70, 76, 77, 78, 79, 80, 81, 82, 83, 84, 85, 86, 87, 88, 89, 90, 71, 72, 73, 74, 75] (by decide +kernel) (by decide +kernel)
set_option maxRecDepth 20000 in
theorem gX2_left_X1_fall : GoodIn wsX2_left (wsV RX2 82 RX1 yX1_fall wsX1_fall) := goodIn_app (goodIn_of _ (by decide +kernel)) ggX2_left_X1_fall
theorem dX2_left_0 : decode cX2_left 0 = .ok (.aload_n 0, 1) := by decide +kernel
theorem dX2_left_1 : decode cX2_left 1 = .ok (.iconst 0, 1) := by decide +kernel
theorem dX2_left_2 : decode cX2_left 2 = .ok (.putfield 21, 3) := by decide +kernel
theorem dX2_left_5 : decode cX2_left 5 = .ok (.iload_n 1, 1) := by decide +kernel
theorem dX2_left_6 : decode cX2_left 6 = .ok (.invokestatic 48, 3) := by decide +kernel
theorem dX2_left_9 : decode cX2_left 9 = .ok (.ifCond .ne 9, 3) := by decide +kernel
theorem dX2_left_12 : decode cX2_left 12 = .ok (.aload_n 0, 1) := by decide +kernel
theorem dX2_left_13 : decode cX2_left 13 = .ok (.iconst 1, 1) := by decide +kernel
theorem dX2_left_14 : decode cX2_left 14 = .ok (.invokevirtual 36, 3) := by decide +kernel
theorem dX2_left_17 : decode cX2_left 17 = .ok (.ireturn, 1) := by decide +kernel
theorem dX2_left_18 : decode cX2_left 18 = .ok (.aload_n 0, 1) := by decide +kernel
theorem dX2_left_19 : decode cX2_left 19 = .ok (.getfield 18, 3) := by decide +kernel
theorem dX2_left_22 : decode cX2_left 22 = .ok (.aload_n 0, 1) := by decide +kernel
theorem dX2_left_23 : decode cX2_left 23 = .ok (.getfield 12, 3) := by decide +kernel
theorem dX2_left_26 : decode cX2_left 26 = .ok (.invokevirtual 139, 3) := by decide +kernel
theorem dX2_left_29 : decode cX2_left 29 = .ok (.aload_n 0, 1) := by decide +kernel
theorem dX2_left_30 : decode cX2_left 30 = .ok (.getfield 18, 3) := by decide +kernel
theorem dX2_left_33 : decode cX2_left 33 = .ok (.invokevirtual 82, 3) := by decide +kernel
theorem dX2_left_36 : decode cX2_left 36 = .ok (.aload_n 0, 1) := by decide +kernel
theorem dX2_left_37 : decode cX2_left 37 = .ok (.getfield 18, 3) := by decide +kernel
theorem dX2_left_40 : decode cX2_left 40 = .ok (.getfield 57, 3) := by decide +kernel
theorem dX2_left_43 : decode cX2_left 43 = .ok (.iload_n 1, 1) := by decide +kernel
theorem dX2_left_44 : decode cX2_left 44 = .ok (.iaload, 1) := by decide +kernel
theorem dX2_left_45 : decode cX2_left 45 = .ok (.ireturn, 1) := by decide +kernel
set_option maxRecDepth 20000 in
theorem ggX2_mean_X1_sum : GoodIn wsX2_mean wsX1_sum := goodIn_r _ [8] (by decide +kernel) (by decide +kernel)
set_option maxRecDepth 20000 in
theorem gX2_mean_X1_sum : GoodIn wsX2_mean (wsV RX2 132 RX1 yX1_sum wsX1_sum) := goodIn_app (goodIn_of _ (by decide +kernel)) ggX2_mean_X1_sum
theorem dX2_mean_0 : decode cX2_mean 0 = .ok (.aload_n 0, 1) := by decide +kernel
theorem dX2_mean_1 : decode cX2_mean 1 = .ok (.iconst 0, 1) := by decide +kernel
theorem dX2_mean_2 : decode cX2_mean 2 = .ok (.putfield 21, 3) := by decide +kernel
theorem dX2_mean_5 : decode cX2_mean 5 = .ok (.aload_n 0, 1) := by decide +kernel
theorem dX2_mean_6 : decode cX2_mean 6 = .ok (.getfield 12, 3) := by decide +kernel
theorem dX2_mean_9 : decode cX2_mean 9 = .ok (.aload_n 0, 1) := by decide +kernel
theorem dX2_mean_10 : decode cX2_mean 10 = .ok (.getfield 12, 3) := by decide +kernel
theorem dX2_mean_13 : decode cX2_mean 13 = .ok (.getfield 57, 3) := by decide +kernel
theorem dX2_mean_16 : decode cX2_mean 16 = .ok (.invokevirtual 132, 3) := by decide +kernel
theorem dX2_mean_19 : decode cX2_mean 19 = .ok (.i2d, 1) := by decide +kernel
theorem dX2_mean_20 : decode cX2_mean 20 = .ok (.ldc2_w 149, 3) := by decide +kernel
theorem dX2_mean_23 : decode cX2_mean 23 = .ok (.ddiv, 1) := by decide +kernel
theorem dX2_mean_24 : decode cX2_mean 24 = .ok (.dreturn, 1) := by decide +kernel
set_option maxRecDepth 20000 in
theorem ggX2_digest_X2_counted : GoodIn wsX2_digest wsX2_counted := goodIn_r _ [10, 5, 4, 11, 12, 13, 14, 15, 16, 17, 18, 19, 20, 21, 22, 23, 24, 25, 26, 27, 28, 29, 30, 31, 32, 33, 34, 35, 36, 37, 38, 39, 40, 41, 42, 43, 44, 45, 75, 76, 77, 78, 79, 80, 81, 82, 83, 84, 85, 86, 87, 88, 89, 90, 91, 92, 93, 94] (by decide +kernel) (by decide +kernel)
set_option maxRecDepth 20000 in
theorem gX2_digest_X2_counted : GoodIn wsX2_digest (wsV RX2 136 RX2 yX2_counted wsX2_counted) := goodIn_app (goodIn_of _ (by decide +kernel)) ggX2_digest_X2_counted
set_option maxRecDepth 20000 in
theorem ggX2_digest_X2_potTold : GoodIn wsX2_digest wsX2_potTold := goodIn_r _ [49, 50, 5, 51, 52, 53, 15, 54, 17, 55, 56, 57, 58, 22, 23, 24, 59, 18, 19, 20, 21, 60, 61, 62, 63, 75, 76, 77, 78, 79, 80, 81, 82, 83, 84, 85, 86, 87, 88, 89, 90, 91, 92, 93, 94] (by decide +kernel) (by decide +kernel)
set_option maxRecDepth 20000 in
theorem gX2_digest_X2_potTold : GoodIn wsX2_digest (wsV RX2 91 RX2 yX2_potTold wsX2_potTold) := goodIn_app (goodIn_of _ (by decide +kernel)) ggX2_digest_X2_potTold
set_option maxRecDepth 20000 in
theorem ggX2_digest_X2_dishTold : GoodIn wsX2_digest wsX2_dishTold := goodIn_r _ [67, 5, 50, 68, 56, 57, 15, 58, 22, 23, 24, 59, 18, 19, 20, 21, 69, 70, 30, 31, 32, 33, 34, 35, 36, 37, 38, 39, 40, 41, 75, 76, 77, 78, 79, 80, 81, 82, 83, 84, 85, 86, 87, 88, 89, 90, 91, 92, 93, 94] (by decide +kernel) (by decide +kernel)
set_option maxRecDepth 20000 in
theorem gX2_digest_X2_dishTold : GoodIn wsX2_digest (wsV RX2 105 RX2 yX2_dishTold wsX2_dishTold) := goodIn_app (goodIn_of _ (by decide +kernel)) ggX2_digest_X2_dishTold
set_option maxRecDepth 20000 in
theorem ggX2_digest_X2_lineTold : GoodIn wsX2_digest wsX2_lineTold := goodIn_r _ [74, 50, 5, 75, 76, 77, 78, 79, 80, 81, 82, 83, 84, 85, 86, 87, 88, 89, 90, 91, 92, 93, 94] (by decide +kernel) (by decide +kernel)
set_option maxRecDepth 20000 in
theorem gX2_digest_X2_lineTold : GoodIn wsX2_digest (wsV RX2 126 RX2 yX2_lineTold wsX2_lineTold) := goodIn_app (goodIn_of _ (by decide +kernel)) ggX2_digest_X2_lineTold
theorem dX2_digest_0 : decode cX2_digest 0 = .ok (.aload_n 0, 1) := by decide +kernel
theorem dX2_digest_1 : decode cX2_digest 1 = .ok (.iconst 0, 1) := by decide +kernel
theorem dX2_digest_2 : decode cX2_digest 2 = .ok (.putfield 21, 3) := by decide +kernel
theorem dX2_digest_5 : decode cX2_digest 5 = .ok (.ldc2_w 151, 3) := by decide +kernel
theorem dX2_digest_8 : decode cX2_digest 8 = .ok (.lstore_n 1, 1) := by decide +kernel
theorem dX2_digest_9 : decode cX2_digest 9 = .ok (.iconst 0, 1) := by decide +kernel
theorem dX2_digest_10 : decode cX2_digest 10 = .ok (.istore_n 3, 1) := by decide +kernel
theorem dX2_digest_11 : decode cX2_digest 11 = .ok (.iload_n 3, 1) := by decide +kernel
theorem dX2_digest_12 : decode cX2_digest 12 = .ok (.bipush 11, 2) := by decide +kernel
theorem dX2_digest_14 : decode cX2_digest 14 = .ok (.if_icmp .ge 22, 3) := by decide +kernel
theorem dX2_digest_17 : decode cX2_digest 17 = .ok (.lload_n 1, 1) := by decide +kernel
theorem dX2_digest_18 : decode cX2_digest 18 = .ok (.ldc2_w 153, 3) := by decide +kernel
theorem dX2_digest_21 : decode cX2_digest 21 = .ok (.lmul, 1) := by decide +kernel
theorem dX2_digest_22 : decode cX2_digest 22 = .ok (.aload_n 0, 1) := by decide +kernel
theorem dX2_digest_23 : decode cX2_digest 23 = .ok (.iload_n 3, 1) := by decide +kernel
theorem dX2_digest_24 : decode cX2_digest 24 = .ok (.invokevirtual 136, 3) := by decide +kernel
theorem dX2_digest_27 : decode cX2_digest 27 = .ok (.i2l, 1) := by decide +kernel
theorem dX2_digest_28 : decode cX2_digest 28 = .ok (.ladd, 1) := by decide +kernel
theorem dX2_digest_29 : decode cX2_digest 29 = .ok (.lstore_n 1, 1) := by decide +kernel
theorem dX2_digest_30 : decode cX2_digest 30 = .ok (.iinc 3 1, 3) := by decide +kernel
theorem dX2_digest_33 : decode cX2_digest 33 = .ok (.goto (-22), 3) := by decide +kernel
theorem dX2_digest_36 : decode cX2_digest 36 = .ok (.iconst 0, 1) := by decide +kernel
theorem dX2_digest_37 : decode cX2_digest 37 = .ok (.istore_n 3, 1) := by decide +kernel
theorem dX2_digest_38 : decode cX2_digest 38 = .ok (.iload_n 3, 1) := by decide +kernel
theorem dX2_digest_39 : decode cX2_digest 39 = .ok (.bipush 8, 2) := by decide +kernel
theorem dX2_digest_41 : decode cX2_digest 41 = .ok (.if_icmp .ge 39, 3) := by decide +kernel
theorem dX2_digest_44 : decode cX2_digest 44 = .ok (.iconst 0, 1) := by decide +kernel
theorem dX2_digest_45 : decode cX2_digest 45 = .ok (.istore 4, 2) := by decide +kernel
theorem dX2_digest_47 : decode cX2_digest 47 = .ok (.iload 4, 2) := by decide +kernel
theorem dX2_digest_49 : decode cX2_digest 49 = .ok (.iconst 5, 1) := by decide +kernel
theorem dX2_digest_50 : decode cX2_digest 50 = .ok (.if_icmp .ge 24, 3) := by decide +kernel
theorem dX2_digest_53 : decode cX2_digest 53 = .ok (.lload_n 1, 1) := by decide +kernel
theorem dX2_digest_54 : decode cX2_digest 54 = .ok (.ldc2_w 153, 3) := by decide +kernel
theorem dX2_digest_57 : decode cX2_digest 57 = .ok (.lmul, 1) := by decide +kernel
theorem dX2_digest_58 : decode cX2_digest 58 = .ok (.aload_n 0, 1) := by decide +kernel
theorem dX2_digest_59 : decode cX2_digest 59 = .ok (.iload_n 3, 1) := by decide +kernel
theorem dX2_digest_60 : decode cX2_digest 60 = .ok (.iload 4, 2) := by decide +kernel
theorem dX2_digest_62 : decode cX2_digest 62 = .ok (.invokevirtual 91, 3) := by decide +kernel
theorem dX2_digest_65 : decode cX2_digest 65 = .ok (.i2l, 1) := by decide +kernel
theorem dX2_digest_66 : decode cX2_digest 66 = .ok (.ladd, 1) := by decide +kernel
theorem dX2_digest_67 : decode cX2_digest 67 = .ok (.lstore_n 1, 1) := by decide +kernel
theorem dX2_digest_68 : decode cX2_digest 68 = .ok (.iinc 4 1, 3) := by decide +kernel
theorem dX2_digest_71 : decode cX2_digest 71 = .ok (.goto (-24), 3) := by decide +kernel
theorem dX2_digest_74 : decode cX2_digest 74 = .ok (.iinc 3 1, 3) := by decide +kernel
theorem dX2_digest_77 : decode cX2_digest 77 = .ok (.goto (-39), 3) := by decide +kernel
theorem dX2_digest_80 : decode cX2_digest 80 = .ok (.iconst 0, 1) := by decide +kernel
theorem dX2_digest_81 : decode cX2_digest 81 = .ok (.istore_n 3, 1) := by decide +kernel
theorem dX2_digest_82 : decode cX2_digest 82 = .ok (.iload_n 3, 1) := by decide +kernel
theorem dX2_digest_83 : decode cX2_digest 83 = .ok (.aload_n 0, 1) := by decide +kernel
theorem dX2_digest_84 : decode cX2_digest 84 = .ok (.getfield 29, 3) := by decide +kernel
theorem dX2_digest_87 : decode cX2_digest 87 = .ok (.if_icmp .ge 39, 3) := by decide +kernel
theorem dX2_digest_90 : decode cX2_digest 90 = .ok (.iconst 0, 1) := by decide +kernel
theorem dX2_digest_91 : decode cX2_digest 91 = .ok (.istore 4, 2) := by decide +kernel
theorem dX2_digest_93 : decode cX2_digest 93 = .ok (.iload 4, 2) := by decide +kernel
theorem dX2_digest_95 : decode cX2_digest 95 = .ok (.iconst 5, 1) := by decide +kernel
theorem dX2_digest_96 : decode cX2_digest 96 = .ok (.if_icmp .ge 24, 3) := by decide +kernel
theorem dX2_digest_99 : decode cX2_digest 99 = .ok (.lload_n 1, 1) := by decide +kernel
theorem dX2_digest_100 : decode cX2_digest 100 = .ok (.ldc2_w 153, 3) := by decide +kernel
theorem dX2_digest_103 : decode cX2_digest 103 = .ok (.lmul, 1) := by decide +kernel
theorem dX2_digest_104 : decode cX2_digest 104 = .ok (.aload_n 0, 1) := by decide +kernel
theorem dX2_digest_105 : decode cX2_digest 105 = .ok (.iload_n 3, 1) := by decide +kernel
theorem dX2_digest_106 : decode cX2_digest 106 = .ok (.iload 4, 2) := by decide +kernel
theorem dX2_digest_108 : decode cX2_digest 108 = .ok (.invokevirtual 105, 3) := by decide +kernel
theorem dX2_digest_111 : decode cX2_digest 111 = .ok (.i2l, 1) := by decide +kernel
theorem dX2_digest_112 : decode cX2_digest 112 = .ok (.ladd, 1) := by decide +kernel
theorem dX2_digest_113 : decode cX2_digest 113 = .ok (.lstore_n 1, 1) := by decide +kernel
theorem dX2_digest_114 : decode cX2_digest 114 = .ok (.iinc 4 1, 3) := by decide +kernel
theorem dX2_digest_117 : decode cX2_digest 117 = .ok (.goto (-24), 3) := by decide +kernel
theorem dX2_digest_120 : decode cX2_digest 120 = .ok (.iinc 3 1, 3) := by decide +kernel
theorem dX2_digest_123 : decode cX2_digest 123 = .ok (.goto (-41), 3) := by decide +kernel
theorem dX2_digest_126 : decode cX2_digest 126 = .ok (.iconst 0, 1) := by decide +kernel
theorem dX2_digest_127 : decode cX2_digest 127 = .ok (.istore_n 3, 1) := by decide +kernel
theorem dX2_digest_128 : decode cX2_digest 128 = .ok (.iload_n 3, 1) := by decide +kernel
theorem dX2_digest_129 : decode cX2_digest 129 = .ok (.aload_n 0, 1) := by decide +kernel
theorem dX2_digest_130 : decode cX2_digest 130 = .ok (.getfield 12, 3) := by decide +kernel
theorem dX2_digest_133 : decode cX2_digest 133 = .ok (.getfield 64, 3) := by decide +kernel
theorem dX2_digest_136 : decode cX2_digest 136 = .ok (.if_icmp .ge 40, 3) := by decide +kernel
theorem dX2_digest_139 : decode cX2_digest 139 = .ok (.iconst 0, 1) := by decide +kernel
theorem dX2_digest_140 : decode cX2_digest 140 = .ok (.istore 4, 2) := by decide +kernel
theorem dX2_digest_142 : decode cX2_digest 142 = .ok (.iload 4, 2) := by decide +kernel
theorem dX2_digest_144 : decode cX2_digest 144 = .ok (.bipush 7, 2) := by decide +kernel
theorem dX2_digest_146 : decode cX2_digest 146 = .ok (.if_icmp .ge 24, 3) := by decide +kernel
theorem dX2_digest_149 : decode cX2_digest 149 = .ok (.lload_n 1, 1) := by decide +kernel
theorem dX2_digest_150 : decode cX2_digest 150 = .ok (.ldc2_w 153, 3) := by decide +kernel
theorem dX2_digest_153 : decode cX2_digest 153 = .ok (.lmul, 1) := by decide +kernel
theorem dX2_digest_154 : decode cX2_digest 154 = .ok (.aload_n 0, 1) := by decide +kernel
theorem dX2_digest_155 : decode cX2_digest 155 = .ok (.iload_n 3, 1) := by decide +kernel
theorem dX2_digest_156 : decode cX2_digest 156 = .ok (.iload 4, 2) := by decide +kernel
theorem dX2_digest_158 : decode cX2_digest 158 = .ok (.invokevirtual 126, 3) := by decide +kernel
theorem dX2_digest_161 : decode cX2_digest 161 = .ok (.i2l, 1) := by decide +kernel
theorem dX2_digest_162 : decode cX2_digest 162 = .ok (.ladd, 1) := by decide +kernel
theorem dX2_digest_163 : decode cX2_digest 163 = .ok (.lstore_n 1, 1) := by decide +kernel
theorem dX2_digest_164 : decode cX2_digest 164 = .ok (.iinc 4 1, 3) := by decide +kernel
theorem dX2_digest_167 : decode cX2_digest 167 = .ok (.goto (-25), 3) := by decide +kernel
theorem dX2_digest_170 : decode cX2_digest 170 = .ok (.iinc 3 1, 3) := by decide +kernel
theorem dX2_digest_173 : decode cX2_digest 173 = .ok (.goto (-45), 3) := by decide +kernel
theorem dX2_digest_176 : decode cX2_digest 176 = .ok (.lload_n 1, 1) := by decide +kernel
theorem dX2_digest_177 : decode cX2_digest 177 = .ok (.lreturn, 1) := by decide +kernel
theorem dJ9_max_7cf53_0 : decode cJ9_max_7cf53 0 = .ok (.iload_n 0, 1) := by decide +kernel
theorem dJ9_max_7cf53_1 : decode cJ9_max_7cf53 1 = .ok (.iload_n 1, 1) := by decide +kernel
theorem dJ9_max_7cf53_2 : decode cJ9_max_7cf53 2 = .ok (.if_icmp .lt 7, 3) := by decide +kernel
theorem dJ9_max_7cf53_5 : decode cJ9_max_7cf53 5 = .ok (.iload_n 0, 1) := by decide +kernel
theorem dJ9_max_7cf53_6 : decode cJ9_max_7cf53 6 = .ok (.goto 4, 3) := by decide +kernel
theorem dJ9_max_7cf53_9 : decode cJ9_max_7cf53 9 = .ok (.iload_n 1, 1) := by decide +kernel
theorem dJ9_max_7cf53_10 : decode cJ9_max_7cf53 10 = .ok (.ireturn, 1) := by decide +kernel
theorem dJ7_fill_53178_0 : decode cJ7_fill_53178 0 = .ok (.iconst 0, 1) := by decide +kernel
theorem dJ7_fill_53178_1 : decode cJ7_fill_53178 1 = .ok (.istore_n 2, 1) := by decide +kernel
theorem dJ7_fill_53178_2 : decode cJ7_fill_53178 2 = .ok (.aload_n 0, 1) := by decide +kernel
theorem dJ7_fill_53178_3 : decode cJ7_fill_53178 3 = .ok (.arraylength, 1) := by decide +kernel
theorem dJ7_fill_53178_4 : decode cJ7_fill_53178 4 = .ok (.istore_n 3, 1) := by decide +kernel
theorem dJ7_fill_53178_5 : decode cJ7_fill_53178 5 = .ok (.iload_n 2, 1) := by decide +kernel
theorem dJ7_fill_53178_6 : decode cJ7_fill_53178 6 = .ok (.iload_n 3, 1) := by decide +kernel
theorem dJ7_fill_53178_7 : decode cJ7_fill_53178 7 = .ok (.if_icmp .ge 13, 3) := by decide +kernel
theorem dJ7_fill_53178_10 : decode cJ7_fill_53178 10 = .ok (.aload_n 0, 1) := by decide +kernel
theorem dJ7_fill_53178_11 : decode cJ7_fill_53178 11 = .ok (.iload_n 2, 1) := by decide +kernel
theorem dJ7_fill_53178_12 : decode cJ7_fill_53178 12 = .ok (.iload_n 1, 1) := by decide +kernel
theorem dJ7_fill_53178_13 : decode cJ7_fill_53178 13 = .ok (.iastore, 1) := by decide +kernel
theorem dJ7_fill_53178_14 : decode cJ7_fill_53178 14 = .ok (.iinc 2 1, 3) := by decide +kernel
theorem dJ7_fill_53178_17 : decode cJ7_fill_53178 17 = .ok (.goto (-12), 3) := by decide +kernel
theorem dJ7_fill_53178_20 : decode cJ7_fill_53178 20 = .ok (.return_, 1) := by decide +kernel
set_option maxRecDepth 20000 in
theorem ggL_begin_X0_begin : GoodIn wsL_begin wsX0_begin := goodIn_ca (goodIn_r _ [6, 7, 8, 9, 10, 11, 12, 13, 5, 14, 15, 16, 17, 18, 19, 20, 21, 22, 23, 24, 25, 26, 27, 28, 29, 30, 31, 32, 33, 34, 35, 36, 37, 38, 39, 40, 41, 42, 43, 44, 45, 46, 47, 48, 49, 50, 51, 52, 53, 54, 55, 56, 57, 58, 59, 60, 61, 62] (by decide +kernel) (by decide +kernel)) (goodIn_sub (fun _ h => List.mem_cons_of_mem _ (List.mem_append_right _ h)) (by decide +kernel))
set_option maxRecDepth 20000 in
theorem gL_begin_X0_begin : GoodIn wsL_begin (wsV RL 7 RX0 yX0_begin wsX0_begin) := goodIn_app (goodIn_of _ (by decide +kernel)) ggL_begin_X0_begin
theorem dL_begin_0 : decode cL_begin 0 = .ok (.aload_n 1, 1) := by decide +kernel
theorem dL_begin_1 : decode cL_begin 1 = .ok (.iconst 0, 1) := by decide +kernel
theorem dL_begin_2 : decode cL_begin 2 = .ok (.aload_n 0, 1) := by decide +kernel
theorem dL_begin_3 : decode cL_begin 3 = .ok (.invokevirtual 7, 3) := by decide +kernel
theorem dL_begin_6 : decode cL_begin 6 = .ok (.i2l, 1) := by decide +kernel
theorem dL_begin_7 : decode cL_begin 7 = .ok (.lastore, 1) := by decide +kernel
theorem dL_begin_8 : decode cL_begin 8 = .ok (.goto 6, 3) := by decide +kernel
theorem dL_begin_11 : decode cL_begin 11 = .ok (.astore_n 2, 1) := by decide +kernel
theorem dL_begin_12 : decode cL_begin 12 = .ok (.iconst 1, 1) := by decide +kernel
theorem dL_begin_13 : decode cL_begin 13 = .ok (.ireturn, 1) := by decide +kernel
theorem dL_begin_14 : decode cL_begin 14 = .ok (.iconst 0, 1) := by decide +kernel
theorem dL_begin_15 : decode cL_begin 15 = .ok (.ireturn, 1) := by decide +kernel
set_option maxRecDepth 20000 in
theorem ggL_cook_X0_cook : GoodIn wsL_cook wsX0_cook := goodIn_ca (goodIn_ca (goodIn_ca (goodIn_r _ [8, 9, 10, 11, 12, 13, 14, 15, 16, 17, 18, 7, 19, 20, 21, 22, 23, 24, 25, 26, 27, 28, 29, 30, 31, 32, 33, 34, 35, 36, 37, 38, 39, 40, 41, 42, 43, 44, 45, 46, 47, 48, 49, 50, 51, 52, 53, 54, 55, 56, 57, 58, 59, 60, 61, 62, 63, 64, 65, 66, 67, 68, 69, 70, 71, 72, 73, 74, 75, 76, 77, 78, 79, 80, 81, 82, 83, 84] (by decide +kernel) (by decide +kernel)) (goodIn_sub (fun _ h => List.mem_cons_of_mem _ (List.mem_append_left _ (List.mem_append_left _ (List.mem_append_right _ h)))) (by decide +kernel))) (goodIn_sub (fun _ h => List.mem_cons_of_mem _ (List.mem_append_left _ (List.mem_append_right _ h))) (by decide +kernel))) (goodIn_sub (fun _ h => List.mem_cons_of_mem _ (List.mem_append_right _ h)) (by decide +kernel))
set_option maxRecDepth 20000 in
theorem gL_cook_X0_cook : GoodIn wsL_cook (wsV RL 15 RX0 yX0_cook wsX0_cook) := goodIn_app (goodIn_of _ (by decide +kernel)) ggL_cook_X0_cook
theorem dL_cook_0 : decode cL_cook 0 = .ok (.aload 4, 2) := by decide +kernel
theorem dL_cook_2 : decode cL_cook 2 = .ok (.iconst 0, 1) := by decide +kernel
theorem dL_cook_3 : decode cL_cook 3 = .ok (.aload_n 0, 1) := by decide +kernel
theorem dL_cook_4 : decode cL_cook 4 = .ok (.iload_n 1, 1) := by decide +kernel
theorem dL_cook_5 : decode cL_cook 5 = .ok (.iload_n 2, 1) := by decide +kernel
theorem dL_cook_6 : decode cL_cook 6 = .ok (.iload_n 3, 1) := by decide +kernel
theorem dL_cook_7 : decode cL_cook 7 = .ok (.invokevirtual 15, 3) := by decide +kernel
theorem dL_cook_10 : decode cL_cook 10 = .ok (.i2l, 1) := by decide +kernel
theorem dL_cook_11 : decode cL_cook 11 = .ok (.lastore, 1) := by decide +kernel
theorem dL_cook_12 : decode cL_cook 12 = .ok (.goto 15, 3) := by decide +kernel
theorem dL_cook_15 : decode cL_cook 15 = .ok (.astore 5, 2) := by decide +kernel
theorem dL_cook_17 : decode cL_cook 17 = .ok (.iconst 1, 1) := by decide +kernel
theorem dL_cook_18 : decode cL_cook 18 = .ok (.ireturn, 1) := by decide +kernel
theorem dL_cook_19 : decode cL_cook 19 = .ok (.astore 5, 2) := by decide +kernel
theorem dL_cook_21 : decode cL_cook 21 = .ok (.iconst 2, 1) := by decide +kernel
theorem dL_cook_22 : decode cL_cook 22 = .ok (.ireturn, 1) := by decide +kernel
theorem dL_cook_23 : decode cL_cook 23 = .ok (.astore 5, 2) := by decide +kernel
theorem dL_cook_25 : decode cL_cook 25 = .ok (.iconst 3, 1) := by decide +kernel
theorem dL_cook_26 : decode cL_cook 26 = .ok (.ireturn, 1) := by decide +kernel
theorem dL_cook_27 : decode cL_cook 27 = .ok (.iconst 0, 1) := by decide +kernel
theorem dL_cook_28 : decode cL_cook 28 = .ok (.ireturn, 1) := by decide +kernel
set_option maxRecDepth 20000 in
theorem ggL_finish_X0_finish : GoodIn wsL_finish wsX0_finish := goodIn_ca (goodIn_ca (goodIn_r _ [7, 8, 9, 10, 11, 12, 13, 14, 15, 16, 6, 17, 18, 19, 20, 21, 22, 23, 24, 25, 26, 27, 28, 29, 30, 31, 32, 33, 34, 35, 36, 37, 38, 39, 40, 41, 42, 43, 44, 45, 46, 47, 48, 49, 50, 51, 52, 53, 54, 55, 56, 57, 58, 59, 60, 61, 62, 63, 64, 65, 66] (by decide +kernel) (by decide +kernel)) (goodIn_sub (fun _ h => List.mem_cons_of_mem _ (List.mem_append_left _ (List.mem_append_right _ h))) (by decide +kernel))) (goodIn_sub (fun _ h => List.mem_cons_of_mem _ (List.mem_append_right _ h)) (by decide +kernel))
set_option maxRecDepth 20000 in
theorem gL_finish_X0_finish : GoodIn wsL_finish (wsV RL 23 RX0 yX0_finish wsX0_finish) := goodIn_app (goodIn_of _ (by decide +kernel)) ggL_finish_X0_finish
theorem dL_finish_0 : decode cL_finish 0 = .ok (.aload_n 2, 1) := by decide +kernel
theorem dL_finish_1 : decode cL_finish 1 = .ok (.iconst 0, 1) := by decide +kernel
theorem dL_finish_2 : decode cL_finish 2 = .ok (.aload_n 0, 1) := by decide +kernel
theorem dL_finish_3 : decode cL_finish 3 = .ok (.iload_n 1, 1) := by decide +kernel
theorem dL_finish_4 : decode cL_finish 4 = .ok (.invokevirtual 23, 3) := by decide +kernel
theorem dL_finish_7 : decode cL_finish 7 = .ok (.i2l, 1) := by decide +kernel
theorem dL_finish_8 : decode cL_finish 8 = .ok (.lastore, 1) := by decide +kernel
theorem dL_finish_9 : decode cL_finish 9 = .ok (.goto 9, 3) := by decide +kernel
theorem dL_finish_12 : decode cL_finish 12 = .ok (.astore_n 3, 1) := by decide +kernel
theorem dL_finish_13 : decode cL_finish 13 = .ok (.iconst 1, 1) := by decide +kernel
theorem dL_finish_14 : decode cL_finish 14 = .ok (.ireturn, 1) := by decide +kernel
theorem dL_finish_15 : decode cL_finish 15 = .ok (.astore_n 3, 1) := by decide +kernel
theorem dL_finish_16 : decode cL_finish 16 = .ok (.iconst 2, 1) := by decide +kernel
theorem dL_finish_17 : decode cL_finish 17 = .ok (.ireturn, 1) := by decide +kernel
theorem dL_finish_18 : decode cL_finish 18 = .ok (.iconst 0, 1) := by decide +kernel
theorem dL_finish_19 : decode cL_finish 19 = .ok (.ireturn, 1) := by decide +kernel
set_option maxRecDepth 20000 in
theorem ggL_drop_X0_drop : GoodIn wsL_drop wsX0_drop := goodIn_ca (goodIn_ca (goodIn_r _ [7, 8, 9, 10, 11, 12, 13, 14, 6, 15, 16, 17, 18, 19, 20, 21, 22, 23, 24, 25, 26, 27, 28, 29, 30, 31, 32, 33, 34, 35, 36, 37, 38, 39, 40, 41, 42, 43, 44, 45, 46, 47, 48, 49, 50, 51, 52, 53, 54, 55, 56, 57, 58, 59, 60, 61, 62, 63, 64, 65, 66, 67, 68, 69, 70, 71, 72, 73, 74] (by decide +kernel) (by decide +kernel)) (goodIn_sub (fun _ h => List.mem_cons_of_mem _ (List.mem_append_left _ (List.mem_append_right _ h))) (by decide +kernel))) (goodIn_sub (fun _ h => List.mem_cons_of_mem _ (List.mem_append_right _ h)) (by decide +kernel))
set_option maxRecDepth 20000 in
theorem gL_drop_X0_drop : GoodIn wsL_drop (wsV RL 27 RX0 yX0_drop wsX0_drop) := goodIn_app (goodIn_of _ (by decide +kernel)) ggL_drop_X0_drop
theorem dL_drop_0 : decode cL_drop 0 = .ok (.aload_n 2, 1) := by decide +kernel
theorem dL_drop_1 : decode cL_drop 1 = .ok (.iconst 0, 1) := by decide +kernel
theorem dL_drop_2 : decode cL_drop 2 = .ok (.aload_n 0, 1) := by decide +kernel
theorem dL_drop_3 : decode cL_drop 3 = .ok (.iload_n 1, 1) := by decide +kernel
theorem dL_drop_4 : decode cL_drop 4 = .ok (.invokevirtual 27, 3) := by decide +kernel
theorem dL_drop_7 : decode cL_drop 7 = .ok (.i2l, 1) := by decide +kernel
theorem dL_drop_8 : decode cL_drop 8 = .ok (.lastore, 1) := by decide +kernel
theorem dL_drop_9 : decode cL_drop 9 = .ok (.goto 9, 3) := by decide +kernel
theorem dL_drop_12 : decode cL_drop 12 = .ok (.astore_n 3, 1) := by decide +kernel
theorem dL_drop_13 : decode cL_drop 13 = .ok (.iconst 1, 1) := by decide +kernel
theorem dL_drop_14 : decode cL_drop 14 = .ok (.ireturn, 1) := by decide +kernel
theorem dL_drop_15 : decode cL_drop 15 = .ok (.astore_n 3, 1) := by decide +kernel
theorem dL_drop_16 : decode cL_drop 16 = .ok (.iconst 2, 1) := by decide +kernel
theorem dL_drop_17 : decode cL_drop 17 = .ok (.ireturn, 1) := by decide +kernel
