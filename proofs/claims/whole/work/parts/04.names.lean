set_option maxRecDepth 20000 in
theorem ggX0_init_J7_fill_53178 : GoodIn wsX0_init wsJ7_fill_53178 := goodIn_r _ [19] (by decide +kernel) (by decide +kernel)
set_option maxRecDepth 20000 in
theorem gX0_init_J7_fill_53178 : GoodIn wsX0_init (va_wsS RX0 43 yJ7_fill_53178 wsJ7_fill_53178) := goodIn_app (goodIn_of _ (by decide +kernel)) ggX0_init_J7_fill_53178
theorem dX0_init_0 : decode cX0_init 0 = .ok (.aload_n 0, 1) := by decide +kernel
theorem dX0_init_1 : decode cX0_init 1 = .ok (.invokespecial 1, 3) := by decide +kernel
theorem dX0_init_4 : decode cX0_init 4 = .ok (.aload_n 0, 1) := by decide +kernel
theorem dX0_init_5 : decode cX0_init 5 = .ok (.bipush 8, 2) := by decide +kernel
theorem dX0_init_7 : decode cX0_init 7 = .ok (.newarray .int, 2) := by decide +kernel
theorem dX0_init_9 : decode cX0_init 9 = .ok (.putfield 9, 3) := by decide +kernel
theorem dX0_init_12 : decode cX0_init 12 = .ok (.aload_n 0, 1) := by decide +kernel
theorem dX0_init_13 : decode cX0_init 13 = .ok (.bipush 8, 2) := by decide +kernel
theorem dX0_init_15 : decode cX0_init 15 = .ok (.newarray .int, 2) := by decide +kernel
theorem dX0_init_17 : decode cX0_init 17 = .ok (.putfield 13, 3) := by decide +kernel
theorem dX0_init_20 : decode cX0_init 20 = .ok (.aload_n 0, 1) := by decide +kernel
theorem dX0_init_21 : decode cX0_init 21 = .ok (.bipush 8, 2) := by decide +kernel
theorem dX0_init_23 : decode cX0_init 23 = .ok (.newarray .int, 2) := by decide +kernel
theorem dX0_init_25 : decode cX0_init 25 = .ok (.putfield 16, 3) := by decide +kernel
theorem dX0_init_28 : decode cX0_init 28 = .ok (.aload_n 0, 1) := by decide +kernel
theorem dX0_init_29 : decode cX0_init 29 = .ok (.bipush 20, 2) := by decide +kernel
theorem dX0_init_31 : decode cX0_init 31 = .ok (.newarray .int, 2) := by decide +kernel
theorem dX0_init_33 : decode cX0_init 33 = .ok (.putfield 19, 3) := by decide +kernel
theorem dX0_init_36 : decode cX0_init 36 = .ok (.aload_n 0, 1) := by decide +kernel
theorem dX0_init_37 : decode cX0_init 37 = .ok (.bipush 120, 2) := by decide +kernel
theorem dX0_init_39 : decode cX0_init 39 = .ok (.newarray .int, 2) := by decide +kernel
theorem dX0_init_41 : decode cX0_init 41 = .ok (.putfield 22, 3) := by decide +kernel
theorem dX0_init_44 : decode cX0_init 44 = .ok (.aload_n 0, 1) := by decide +kernel
theorem dX0_init_45 : decode cX0_init 45 = .ok (.bipush 120, 2) := by decide +kernel
theorem dX0_init_47 : decode cX0_init 47 = .ok (.newarray .int, 2) := by decide +kernel
theorem dX0_init_49 : decode cX0_init 49 = .ok (.putfield 25, 3) := by decide +kernel
theorem dX0_init_52 : decode cX0_init 52 = .ok (.aload_n 0, 1) := by decide +kernel
theorem dX0_init_53 : decode cX0_init 53 = .ok (.bipush 120, 2) := by decide +kernel
theorem dX0_init_55 : decode cX0_init 55 = .ok (.newarray .int, 2) := by decide +kernel
theorem dX0_init_57 : decode cX0_init 57 = .ok (.putfield 28, 3) := by decide +kernel
theorem dX0_init_60 : decode cX0_init 60 = .ok (.aload_n 0, 1) := by decide +kernel
theorem dX0_init_61 : decode cX0_init 61 = .ok (.bipush 120, 2) := by decide +kernel
theorem dX0_init_63 : decode cX0_init 63 = .ok (.newarray .int, 2) := by decide +kernel
theorem dX0_init_65 : decode cX0_init 65 = .ok (.putfield 31, 3) := by decide +kernel
theorem dX0_init_68 : decode cX0_init 68 = .ok (.aload_n 0, 1) := by decide +kernel
theorem dX0_init_69 : decode cX0_init 69 = .ok (.bipush 120, 2) := by decide +kernel
theorem dX0_init_71 : decode cX0_init 71 = .ok (.newarray .int, 2) := by decide +kernel
theorem dX0_init_73 : decode cX0_init 73 = .ok (.putfield 34, 3) := by decide +kernel
theorem dX0_init_76 : decode cX0_init 76 = .ok (.aload_n 0, 1) := by decide +kernel
theorem dX0_init_77 : decode cX0_init 77 = .ok (.bipush 120, 2) := by decide +kernel
theorem dX0_init_79 : decode cX0_init 79 = .ok (.newarray .int, 2) := by decide +kernel
theorem dX0_init_81 : decode cX0_init 81 = .ok (.putfield 37, 3) := by decide +kernel
theorem dX0_init_84 : decode cX0_init 84 = .ok (.aload_n 0, 1) := by decide +kernel
theorem dX0_init_85 : decode cX0_init 85 = .ok (.bipush 120, 2) := by decide +kernel
theorem dX0_init_87 : decode cX0_init 87 = .ok (.newarray .int, 2) := by decide +kernel
theorem dX0_init_89 : decode cX0_init 89 = .ok (.putfield 40, 3) := by decide +kernel
theorem dX0_init_92 : decode cX0_init 92 = .ok (.aload_n 0, 1) := by decide +kernel
theorem dX0_init_93 : decode cX0_init 93 = .ok (.getfield 16, 3) := by decide +kernel
theorem dX0_init_96 : decode cX0_init 96 = .ok (.iconst (-1), 1) := by decide +kernel
theorem dX0_init_97 : decode cX0_init 97 = .ok (.invokestatic 43, 3) := by decide +kernel
theorem dX0_init_100 : decode cX0_init 100 = .ok (.return_, 1) := by decide +kernel
set_option maxRecDepth 20000 in
theorem ggX0_begin_X0_roomLeft : GoodIn wsX0_begin wsX0_roomLeft := goodIn_r _ [9, 10, 3, 11, 12, 13, 8, 14, 4, 15, 16, 17, 18, 19, 20, 21, 22, 23, 24, 25, 26, 27, 28, 29, 30, 31, 43, 44, 45, 46, 47, 48, 49, 50, 51, 52, 53, 54, 55, 56, 57] (by decide +kernel) (by decide +kernel)
set_option maxRecDepth 20000 in
theorem gX0_begin_X0_roomLeft : GoodIn wsX0_begin (wsV RX0 60 RX0 yX0_roomLeft wsX0_roomLeft) := goodIn_app (goodIn_of _ (by decide +kernel)) ggX0_begin_X0_roomLeft
set_option maxRecDepth 20000 in
theorem ggX0_begin_X0_put : GoodIn wsX0_begin wsX0_put := goodIn_r _ [34, 18, 19, 8, 20] (by decide +kernel) (by decide +kernel)
set_option maxRecDepth 20000 in
theorem gX0_begin_X0_put : GoodIn wsX0_begin (va_wsS RX0 66 yX0_put wsX0_put) := goodIn_app (goodIn_of _ (by decide +kernel)) ggX0_begin_X0_put
set_option maxRecDepth 20000 in
theorem ggX0_begin_X0_chalk : GoodIn wsX0_begin wsX0_chalk := goodIn_r _ [38, 29, 10, 30, 39, 40, 41, 42, 31, 32, 33, 8, 34, 18, 19, 20, 43, 44, 45, 46, 47, 48, 49, 50, 51, 52, 53, 54, 55, 56, 57] (by decide +kernel) (by decide +kernel)
set_option maxRecDepth 20000 in
theorem gX0_begin_X0_chalk : GoodIn wsX0_begin (wsV RX0 70 RX0 yX0_chalk wsX0_chalk) := goodIn_app (goodIn_of _ (by decide +kernel)) ggX0_begin_X0_chalk
theorem dX0_begin_0 : decode cX0_begin 0 = .ok (.aload_n 0, 1) := by decide +kernel
theorem dX0_begin_1 : decode cX0_begin 1 = .ok (.getfield 49, 3) := by decide +kernel
theorem dX0_begin_4 : decode cX0_begin 4 = .ok (.bipush 20, 2) := by decide +kernel
theorem dX0_begin_6 : decode cX0_begin 6 = .ok (.if_icmp .lt 13, 3) := by decide +kernel
theorem dX0_begin_9 : decode cX0_begin 9 = .ok (.new 53, 3) := by decide +kernel
theorem dX0_begin_12 : decode cX0_begin 12 = .ok (.dup, 1) := by decide +kernel
theorem dX0_begin_13 : decode cX0_begin 13 = .ok (.ldc 55, 2) := by decide +kernel
theorem dX0_begin_15 : decode cX0_begin 15 = .ok (.invokespecial 57, 3) := by decide +kernel
theorem dX0_begin_18 : decode cX0_begin 18 = .ok (.athrow, 1) := by decide +kernel
theorem dX0_begin_19 : decode cX0_begin 19 = .ok (.aload_n 0, 1) := by decide +kernel
theorem dX0_begin_20 : decode cX0_begin 20 = .ok (.invokevirtual 60, 3) := by decide +kernel
theorem dX0_begin_23 : decode cX0_begin 23 = .ok (.iconst 2, 1) := by decide +kernel
theorem dX0_begin_24 : decode cX0_begin 24 = .ok (.if_icmp .ge 13, 3) := by decide +kernel
theorem dX0_begin_27 : decode cX0_begin 27 = .ok (.new 53, 3) := by decide +kernel
theorem dX0_begin_30 : decode cX0_begin 30 = .ok (.dup, 1) := by decide +kernel
theorem dX0_begin_31 : decode cX0_begin 31 = .ok (.ldc 64, 2) := by decide +kernel
theorem dX0_begin_33 : decode cX0_begin 33 = .ok (.invokespecial 57, 3) := by decide +kernel
theorem dX0_begin_36 : decode cX0_begin 36 = .ok (.athrow, 1) := by decide +kernel
theorem dX0_begin_37 : decode cX0_begin 37 = .ok (.aload_n 0, 1) := by decide +kernel
theorem dX0_begin_38 : decode cX0_begin 38 = .ok (.getfield 49, 3) := by decide +kernel
theorem dX0_begin_41 : decode cX0_begin 41 = .ok (.istore_n 1, 1) := by decide +kernel
theorem dX0_begin_42 : decode cX0_begin 42 = .ok (.aload_n 0, 1) := by decide +kernel
theorem dX0_begin_43 : decode cX0_begin 43 = .ok (.dup, 1) := by decide +kernel
theorem dX0_begin_44 : decode cX0_begin 44 = .ok (.getfield 49, 3) := by decide +kernel
theorem dX0_begin_47 : decode cX0_begin 47 = .ok (.iconst 1, 1) := by decide +kernel
theorem dX0_begin_48 : decode cX0_begin 48 = .ok (.iadd, 1) := by decide +kernel
theorem dX0_begin_49 : decode cX0_begin 49 = .ok (.putfield 49, 3) := by decide +kernel
theorem dX0_begin_52 : decode cX0_begin 52 = .ok (.aload_n 0, 1) := by decide +kernel
theorem dX0_begin_53 : decode cX0_begin 53 = .ok (.getfield 19, 3) := by decide +kernel
theorem dX0_begin_56 : decode cX0_begin 56 = .ok (.iload_n 1, 1) := by decide +kernel
theorem dX0_begin_57 : decode cX0_begin 57 = .ok (.iconst 0, 1) := by decide +kernel
theorem dX0_begin_58 : decode cX0_begin 58 = .ok (.invokestatic 66, 3) := by decide +kernel
theorem dX0_begin_61 : decode cX0_begin 61 = .ok (.aload_n 0, 1) := by decide +kernel
theorem dX0_begin_62 : decode cX0_begin 62 = .ok (.iload_n 1, 1) := by decide +kernel
theorem dX0_begin_63 : decode cX0_begin 63 = .ok (.iconst 0, 1) := by decide +kernel
theorem dX0_begin_64 : decode cX0_begin 64 = .ok (.invokevirtual 70, 3) := by decide +kernel
theorem dX0_begin_67 : decode cX0_begin 67 = .ok (.iload_n 1, 1) := by decide +kernel
theorem dX0_begin_68 : decode cX0_begin 68 = .ok (.ireturn, 1) := by decide +kernel
set_option maxRecDepth 20000 in
theorem ggX0_cook_X0_isDish : GoodIn wsX0_cook wsX0_isDish := goodIn_r _ [12, 13, 14, 15, 11, 16, 63, 64, 65, 66, 67, 68, 69, 70, 71, 72, 73, 74, 75, 76, 77] (by decide +kernel) (by decide +kernel)
set_option maxRecDepth 20000 in
theorem gX0_cook_X0_isDish : GoodIn wsX0_cook (wsV RX0 74 RX0 yX0_isDish wsX0_isDish) := goodIn_app (goodIn_of _ (by decide +kernel)) ggX0_cook_X0_isDish
set_option maxRecDepth 20000 in
theorem ggX0_cook_X0_isPot : GoodIn wsX0_cook wsX0_isPot := goodIn_r _ [19, 14, 15, 11, 16] (by decide +kernel) (by decide +kernel)
set_option maxRecDepth 20000 in
theorem gX0_cook_X0_isPot : GoodIn wsX0_cook (va_wsS RX0 78 yX0_isPot wsX0_isPot) := goodIn_app (goodIn_of _ (by decide +kernel)) ggX0_cook_X0_isPot
set_option maxRecDepth 20000 in
theorem ggX0_cook_X0_isOpen : GoodIn wsX0_cook wsX0_isOpen := goodIn_r _ [23, 24, 25, 26, 11, 27, 14, 15, 16, 63, 64, 65, 66, 67, 68, 69, 70, 71, 72, 73, 74, 75, 76, 77] (by decide +kernel) (by decide +kernel)
set_option maxRecDepth 20000 in
theorem gX0_cook_X0_isOpen : GoodIn wsX0_cook (wsV RX0 91 RX0 yX0_isOpen wsX0_isOpen) := goodIn_app (goodIn_of _ (by decide +kernel)) ggX0_cook_X0_isOpen
set_option maxRecDepth 20000 in
theorem ggX0_cook_X0_holderOf : GoodIn wsX0_cook wsX0_holderOf := goodIn_r _ [31, 32, 33, 34, 35, 25, 26, 11, 27, 14, 15, 16, 20, 21, 22, 23, 24, 63, 64, 65, 66, 67, 68, 69, 70, 71, 72, 73, 74, 75, 76, 77] (by decide +kernel) (by decide +kernel)
set_option maxRecDepth 20000 in
theorem gX0_cook_X0_holderOf : GoodIn wsX0_cook (wsV RX0 96 RX0 yX0_holderOf wsX0_holderOf) := goodIn_app (goodIn_of _ (by decide +kernel)) ggX0_cook_X0_holderOf
set_option maxRecDepth 20000 in
theorem ggX0_cook_X0_roomLeft : GoodIn wsX0_cook wsX0_roomLeft := goodIn_r _ [39, 32, 13, 20, 21, 22, 11, 23, 24, 25, 26, 27, 14, 15, 16, 40, 41, 42, 43, 44, 45, 46, 47, 33, 34, 48, 63, 64, 65, 66, 67, 68, 69, 70, 71, 72, 73, 74, 75, 76, 77] (by decide +kernel) (by decide +kernel)
set_option maxRecDepth 20000 in
theorem gX0_cook_X0_roomLeft : GoodIn wsX0_cook (wsV RX0 60 RX0 yX0_roomLeft wsX0_roomLeft) := goodIn_app (goodIn_of _ (by decide +kernel)) ggX0_cook_X0_roomLeft
set_option maxRecDepth 20000 in
theorem ggX0_cook_X0_at : GoodIn wsX0_cook wsX0_at := goodIn_r _ [27, 14, 15, 11, 16] (by decide +kernel) (by decide +kernel)
set_option maxRecDepth 20000 in
theorem gX0_cook_X0_at : GoodIn wsX0_cook (va_wsS RX0 102 yX0_at wsX0_at) := goodIn_app (goodIn_of _ (by decide +kernel)) ggX0_cook_X0_at
set_option maxRecDepth 20000 in
theorem ggX0_cook_X0_chalkSpoons : GoodIn wsX0_cook wsX0_chalkSpoons := goodIn_r _ [52, 32, 35, 53, 7, 54, 55, 56, 57, 11, 58, 33, 34, 59, 48, 60, 61, 62, 14, 15, 16, 25, 26, 27, 63, 64, 65, 66, 67, 68, 69, 70, 71, 72, 73, 74, 75, 76, 77] (by decide +kernel) (by decide +kernel)
set_option maxRecDepth 20000 in
theorem gX0_cook_X0_chalkSpoons : GoodIn wsX0_cook (wsV RX0 106 RX0 yX0_chalkSpoons wsX0_chalkSpoons) := goodIn_app (goodIn_of _ (by decide +kernel)) ggX0_cook_X0_chalkSpoons
theorem dX0_cook_0 : decode cX0_cook 0 = .ok (.aload_n 0, 1) := by decide +kernel
theorem dX0_cook_1 : decode cX0_cook 1 = .ok (.iload_n 1, 1) := by decide +kernel
theorem dX0_cook_2 : decode cX0_cook 2 = .ok (.invokevirtual 74, 3) := by decide +kernel
theorem dX0_cook_5 : decode cX0_cook 5 = .ok (.ifCond .eq 10, 3) := by decide +kernel
theorem dX0_cook_8 : decode cX0_cook 8 = .ok (.iload_n 2, 1) := by decide +kernel
theorem dX0_cook_9 : decode cX0_cook 9 = .ok (.invokestatic 78, 3) := by decide +kernel
theorem dX0_cook_12 : decode cX0_cook 12 = .ok (.ifCond .ne 13, 3) := by decide +kernel
theorem dX0_cook_15 : decode cX0_cook 15 = .ok (.new 81, 3) := by decide +kernel
theorem dX0_cook_18 : decode cX0_cook 18 = .ok (.dup, 1) := by decide +kernel
theorem dX0_cook_19 : decode cX0_cook 19 = .ok (.ldc 83, 2) := by decide +kernel
theorem dX0_cook_21 : decode cX0_cook 21 = .ok (.invokespecial 85, 3) := by decide +kernel
theorem dX0_cook_24 : decode cX0_cook 24 = .ok (.athrow, 1) := by decide +kernel
theorem dX0_cook_25 : decode cX0_cook 25 = .ok (.iload_n 3, 1) := by decide +kernel
theorem dX0_cook_26 : decode cX0_cook 26 = .ok (.ifCond .lt 10, 3) := by decide +kernel
theorem dX0_cook_29 : decode cX0_cook 29 = .ok (.iload_n 3, 1) := by decide +kernel
theorem dX0_cook_30 : decode cX0_cook 30 = .ok (.sipush 999, 3) := by decide +kernel
theorem dX0_cook_33 : decode cX0_cook 33 = .ok (.if_icmp .le 13, 3) := by decide +kernel
theorem dX0_cook_36 : decode cX0_cook 36 = .ok (.new 86, 3) := by decide +kernel
theorem dX0_cook_39 : decode cX0_cook 39 = .ok (.dup, 1) := by decide +kernel
theorem dX0_cook_40 : decode cX0_cook 40 = .ok (.ldc 88, 2) := by decide +kernel
theorem dX0_cook_42 : decode cX0_cook 42 = .ok (.invokespecial 90, 3) := by decide +kernel
theorem dX0_cook_45 : decode cX0_cook 45 = .ok (.athrow, 1) := by decide +kernel
theorem dX0_cook_46 : decode cX0_cook 46 = .ok (.aload_n 0, 1) := by decide +kernel
theorem dX0_cook_47 : decode cX0_cook 47 = .ok (.iload_n 1, 1) := by decide +kernel
theorem dX0_cook_48 : decode cX0_cook 48 = .ok (.invokevirtual 91, 3) := by decide +kernel
theorem dX0_cook_51 : decode cX0_cook 51 = .ok (.ifCond .ne 13, 3) := by decide +kernel
theorem dX0_cook_54 : decode cX0_cook 54 = .ok (.new 53, 3) := by decide +kernel
theorem dX0_cook_57 : decode cX0_cook 57 = .ok (.dup, 1) := by decide +kernel
theorem dX0_cook_58 : decode cX0_cook 58 = .ok (.ldc 94, 2) := by decide +kernel
theorem dX0_cook_60 : decode cX0_cook 60 = .ok (.invokespecial 57, 3) := by decide +kernel
theorem dX0_cook_63 : decode cX0_cook 63 = .ok (.athrow, 1) := by decide +kernel
theorem dX0_cook_64 : decode cX0_cook 64 = .ok (.aload_n 0, 1) := by decide +kernel
theorem dX0_cook_65 : decode cX0_cook 65 = .ok (.iload_n 2, 1) := by decide +kernel
theorem dX0_cook_66 : decode cX0_cook 66 = .ok (.invokevirtual 96, 3) := by decide +kernel
theorem dX0_cook_69 : decode cX0_cook 69 = .ok (.istore 4, 2) := by decide +kernel
theorem dX0_cook_71 : decode cX0_cook 71 = .ok (.iload 4, 2) := by decide +kernel
theorem dX0_cook_73 : decode cX0_cook 73 = .ok (.iconst (-1), 1) := by decide +kernel
theorem dX0_cook_74 : decode cX0_cook 74 = .ok (.if_icmp .eq 19, 3) := by decide +kernel
theorem dX0_cook_77 : decode cX0_cook 77 = .ok (.iload 4, 2) := by decide +kernel
theorem dX0_cook_79 : decode cX0_cook 79 = .ok (.iload_n 1, 1) := by decide +kernel
theorem dX0_cook_80 : decode cX0_cook 80 = .ok (.if_icmp .eq 13, 3) := by decide +kernel
theorem dX0_cook_83 : decode cX0_cook 83 = .ok (.new 53, 3) := by decide +kernel
theorem dX0_cook_86 : decode cX0_cook 86 = .ok (.dup, 1) := by decide +kernel
theorem dX0_cook_87 : decode cX0_cook 87 = .ok (.ldc 100, 2) := by decide +kernel
theorem dX0_cook_89 : decode cX0_cook 89 = .ok (.invokespecial 57, 3) := by decide +kernel
theorem dX0_cook_92 : decode cX0_cook 92 = .ok (.athrow, 1) := by decide +kernel
theorem dX0_cook_93 : decode cX0_cook 93 = .ok (.aload_n 0, 1) := by decide +kernel
theorem dX0_cook_94 : decode cX0_cook 94 = .ok (.invokevirtual 60, 3) := by decide +kernel
theorem dX0_cook_97 : decode cX0_cook 97 = .ok (.iconst 2, 1) := by decide +kernel
theorem dX0_cook_98 : decode cX0_cook 98 = .ok (.if_icmp .ge 13, 3) := by decide +kernel
theorem dX0_cook_101 : decode cX0_cook 101 = .ok (.new 53, 3) := by decide +kernel
theorem dX0_cook_104 : decode cX0_cook 104 = .ok (.dup, 1) := by decide +kernel
theorem dX0_cook_105 : decode cX0_cook 105 = .ok (.ldc 64, 2) := by decide +kernel
theorem dX0_cook_107 : decode cX0_cook 107 = .ok (.invokespecial 57, 3) := by decide +kernel
theorem dX0_cook_110 : decode cX0_cook 110 = .ok (.athrow, 1) := by decide +kernel
theorem dX0_cook_111 : decode cX0_cook 111 = .ok (.aload_n 0, 1) := by decide +kernel
theorem dX0_cook_112 : decode cX0_cook 112 = .ok (.getfield 9, 3) := by decide +kernel
theorem dX0_cook_115 : decode cX0_cook 115 = .ok (.iload_n 2, 1) := by decide +kernel
theorem dX0_cook_116 : decode cX0_cook 116 = .ok (.invokestatic 102, 3) := by decide +kernel
theorem dX0_cook_119 : decode cX0_cook 119 = .ok (.istore 5, 2) := by decide +kernel
theorem dX0_cook_121 : decode cX0_cook 121 = .ok (.aload_n 0, 1) := by decide +kernel
theorem dX0_cook_122 : decode cX0_cook 122 = .ok (.iload_n 1, 1) := by decide +kernel
theorem dX0_cook_123 : decode cX0_cook 123 = .ok (.iconst 1, 1) := by decide +kernel
theorem dX0_cook_124 : decode cX0_cook 124 = .ok (.iload_n 2, 1) := by decide +kernel
theorem dX0_cook_125 : decode cX0_cook 125 = .ok (.iload_n 3, 1) := by decide +kernel
theorem dX0_cook_126 : decode cX0_cook 126 = .ok (.invokevirtual 106, 3) := by decide +kernel
theorem dX0_cook_129 : decode cX0_cook 129 = .ok (.iload 5, 2) := by decide +kernel
theorem dX0_cook_131 : decode cX0_cook 131 = .ok (.ireturn, 1) := by decide +kernel
set_option maxRecDepth 20000 in
theorem ggX0_finish_X0_isDish : GoodIn wsX0_finish wsX0_isDish := goodIn_r _ [11, 12, 13, 14, 10, 15, 46, 47, 48, 49, 50, 51, 52, 53, 54, 55, 56, 57, 58, 59, 60] (by decide +kernel) (by decide +kernel)
set_option maxRecDepth 20000 in
theorem gX0_finish_X0_isDish : GoodIn wsX0_finish (wsV RX0 74 RX0 yX0_isDish wsX0_isDish) := goodIn_app (goodIn_of _ (by decide +kernel)) ggX0_finish_X0_isDish
set_option maxRecDepth 20000 in
theorem ggX0_finish_X0_isOpen : GoodIn wsX0_finish wsX0_isOpen := goodIn_r _ [19, 5, 20, 21, 10, 22, 13, 14, 15, 46, 47, 48, 49, 50, 51, 52, 53, 54, 55, 56, 57, 58, 59, 60] (by decide +kernel) (by decide +kernel)
set_option maxRecDepth 20000 in
theorem gX0_finish_X0_isOpen : GoodIn wsX0_finish (wsV RX0 91 RX0 yX0_isOpen wsX0_isOpen) := goodIn_app (goodIn_of _ (by decide +kernel)) ggX0_finish_X0_isOpen
set_option maxRecDepth 20000 in
theorem ggX0_finish_X0_chalk : GoodIn wsX0_finish wsX0_chalk := goodIn_r _ [26, 27, 6, 28, 29, 30, 31, 32, 33, 34, 35, 10, 36, 13, 14, 15, 46, 47, 48, 49, 50, 51, 52, 53, 54, 55, 56, 57, 58, 59, 60] (by decide +kernel) (by decide +kernel)
set_option maxRecDepth 20000 in
theorem gX0_finish_X0_chalk : GoodIn wsX0_finish (wsV RX0 70 RX0 yX0_chalk wsX0_chalk) := goodIn_app (goodIn_of _ (by decide +kernel)) ggX0_finish_X0_chalk
set_option maxRecDepth 20000 in
theorem ggX0_finish_X0_put : GoodIn wsX0_finish wsX0_put := goodIn_r _ [36, 13, 14, 10, 15] (by decide +kernel) (by decide +kernel)
set_option maxRecDepth 20000 in
theorem gX0_finish_X0_put : GoodIn wsX0_finish (va_wsS RX0 66 yX0_put wsX0_put) := goodIn_app (goodIn_of _ (by decide +kernel)) ggX0_finish_X0_put
set_option maxRecDepth 20000 in
theorem ggX0_finish_X0_dryUpTo : GoodIn wsX0_finish wsX0_dryUpTo := goodIn_r _ [40, 41, 42, 43, 44, 45, 46, 47, 48, 49, 50, 51, 52, 53, 54, 55, 56, 57, 58, 59, 60] (by decide +kernel) (by decide +kernel)
set_option maxRecDepth 20000 in
theorem gX0_finish_X0_dryUpTo : GoodIn wsX0_finish (wsV RX0 115 RX0 yX0_dryUpTo wsX0_dryUpTo) := goodIn_app (goodIn_of _ (by decide +kernel)) ggX0_finish_X0_dryUpTo
theorem dX0_finish_0 : decode cX0_finish 0 = .ok (.aload_n 0, 1) := by decide +kernel
theorem dX0_finish_1 : decode cX0_finish 1 = .ok (.iload_n 1, 1) := by decide +kernel
theorem dX0_finish_2 : decode cX0_finish 2 = .ok (.invokevirtual 74, 3) := by decide +kernel
theorem dX0_finish_5 : decode cX0_finish 5 = .ok (.ifCond .ne 13, 3) := by decide +kernel
theorem dX0_finish_8 : decode cX0_finish 8 = .ok (.new 81, 3) := by decide +kernel
theorem dX0_finish_11 : decode cX0_finish 11 = .ok (.dup, 1) := by decide +kernel
theorem dX0_finish_12 : decode cX0_finish 12 = .ok (.ldc 110, 2) := by decide +kernel
theorem dX0_finish_14 : decode cX0_finish 14 = .ok (.invokespecial 85, 3) := by decide +kernel
theorem dX0_finish_17 : decode cX0_finish 17 = .ok (.athrow, 1) := by decide +kernel
theorem dX0_finish_18 : decode cX0_finish 18 = .ok (.aload_n 0, 1) := by decide +kernel
theorem dX0_finish_19 : decode cX0_finish 19 = .ok (.iload_n 1, 1) := by decide +kernel
theorem dX0_finish_20 : decode cX0_finish 20 = .ok (.invokevirtual 91, 3) := by decide +kernel
theorem dX0_finish_23 : decode cX0_finish 23 = .ok (.ifCond .ne 13, 3) := by decide +kernel
theorem dX0_finish_26 : decode cX0_finish 26 = .ok (.new 53, 3) := by decide +kernel
theorem dX0_finish_29 : decode cX0_finish 29 = .ok (.dup, 1) := by decide +kernel
theorem dX0_finish_30 : decode cX0_finish 30 = .ok (.ldc 94, 2) := by decide +kernel
theorem dX0_finish_32 : decode cX0_finish 32 = .ok (.invokespecial 57, 3) := by decide +kernel
theorem dX0_finish_35 : decode cX0_finish 35 = .ok (.athrow, 1) := by decide +kernel
theorem dX0_finish_36 : decode cX0_finish 36 = .ok (.aload_n 0, 1) := by decide +kernel
theorem dX0_finish_37 : decode cX0_finish 37 = .ok (.iload_n 1, 1) := by decide +kernel
theorem dX0_finish_38 : decode cX0_finish 38 = .ok (.iconst 2, 1) := by decide +kernel
theorem dX0_finish_39 : decode cX0_finish 39 = .ok (.invokevirtual 70, 3) := by decide +kernel
theorem dX0_finish_42 : decode cX0_finish 42 = .ok (.aload_n 0, 1) := by decide +kernel
theorem dX0_finish_43 : decode cX0_finish 43 = .ok (.getfield 19, 3) := by decide +kernel
theorem dX0_finish_46 : decode cX0_finish 46 = .ok (.iload_n 1, 1) := by decide +kernel
theorem dX0_finish_47 : decode cX0_finish 47 = .ok (.iconst 1, 1) := by decide +kernel
theorem dX0_finish_48 : decode cX0_finish 48 = .ok (.invokestatic 66, 3) := by decide +kernel
theorem dX0_finish_51 : decode cX0_finish 51 = .ok (.aload_n 0, 1) := by decide +kernel
theorem dX0_finish_52 : decode cX0_finish 52 = .ok (.aload_n 0, 1) := by decide +kernel
theorem dX0_finish_53 : decode cX0_finish 53 = .ok (.getfield 112, 3) := by decide +kernel
theorem dX0_finish_56 : decode cX0_finish 56 = .ok (.invokevirtual 115, 3) := by decide +kernel
theorem dX0_finish_59 : decode cX0_finish 59 = .ok (.ireturn, 1) := by decide +kernel
set_option maxRecDepth 20000 in
theorem ggX0_drop_X0_isDish : GoodIn wsX0_drop wsX0_isDish := goodIn_r _ [9, 10, 11, 12, 8, 13, 54, 55, 56, 57, 58, 59, 60, 61, 62, 63, 64, 65, 66, 67, 68] (by decide +kernel) (by decide +kernel)
set_option maxRecDepth 20000 in
theorem gX0_drop_X0_isDish : GoodIn wsX0_drop (wsV RX0 74 RX0 yX0_isDish wsX0_isDish) := goodIn_app (goodIn_of _ (by decide +kernel)) ggX0_drop_X0_isDish
set_option maxRecDepth 20000 in
theorem ggX0_drop_X0_isOpen : GoodIn wsX0_drop wsX0_isOpen := goodIn_r _ [17, 18, 19, 20, 8, 21, 11, 12, 13, 54, 55, 56, 57, 58, 59, 60, 61, 62, 63, 64, 65, 66, 67, 68] (by decide +kernel) (by decide +kernel)
set_option maxRecDepth 20000 in
theorem gX0_drop_X0_isOpen : GoodIn wsX0_drop (wsV RX0 91 RX0 yX0_isOpen wsX0_isOpen) := goodIn_app (goodIn_of _ (by decide +kernel)) ggX0_drop_X0_isOpen
set_option maxRecDepth 20000 in
theorem ggX0_drop_X0_undo : GoodIn wsX0_drop wsX0_undo := goodIn_r _ [25, 26, 18, 27, 28, 29, 8, 30, 31, 32, 33, 19, 20, 21, 11, 12, 13, 34, 35, 36, 37, 38, 39, 40, 41, 42, 43, 44, 45, 46, 47, 48, 49, 50, 51, 52, 53, 54, 55, 56, 57, 58, 59, 60, 61, 62, 63, 64, 65, 66, 67, 68] (by decide +kernel) (by decide +kernel)
set_option maxRecDepth 20000 in
theorem gX0_drop_X0_undo : GoodIn wsX0_drop (wsV RX0 118 RX0 yX0_undo wsX0_undo) := goodIn_app (goodIn_of _ (by decide +kernel)) ggX0_drop_X0_undo
theorem dX0_drop_0 : decode cX0_drop 0 = .ok (.aload_n 0, 1) := by decide +kernel
theorem dX0_drop_1 : decode cX0_drop 1 = .ok (.iload_n 1, 1) := by decide +kernel
theorem dX0_drop_2 : decode cX0_drop 2 = .ok (.invokevirtual 74, 3) := by decide +kernel
theorem dX0_drop_5 : decode cX0_drop 5 = .ok (.ifCond .ne 13, 3) := by decide +kernel
theorem dX0_drop_8 : decode cX0_drop 8 = .ok (.new 81, 3) := by decide +kernel
theorem dX0_drop_11 : decode cX0_drop 11 = .ok (.dup, 1) := by decide +kernel
theorem dX0_drop_12 : decode cX0_drop 12 = .ok (.ldc 110, 2) := by decide +kernel
theorem dX0_drop_14 : decode cX0_drop 14 = .ok (.invokespecial 85, 3) := by decide +kernel
theorem dX0_drop_17 : decode cX0_drop 17 = .ok (.athrow, 1) := by decide +kernel
theorem dX0_drop_18 : decode cX0_drop 18 = .ok (.aload_n 0, 1) := by decide +kernel
theorem dX0_drop_19 : decode cX0_drop 19 = .ok (.iload_n 1, 1) := by decide +kernel
theorem dX0_drop_20 : decode cX0_drop 20 = .ok (.invokevirtual 91, 3) := by decide +kernel
theorem dX0_drop_23 : decode cX0_drop 23 = .ok (.ifCond .ne 13, 3) := by decide +kernel
theorem dX0_drop_26 : decode cX0_drop 26 = .ok (.new 53, 3) := by decide +kernel
theorem dX0_drop_29 : decode cX0_drop 29 = .ok (.dup, 1) := by decide +kernel
theorem dX0_drop_30 : decode cX0_drop 30 = .ok (.ldc 94, 2) := by decide +kernel
theorem dX0_drop_32 : decode cX0_drop 32 = .ok (.invokespecial 57, 3) := by decide +kernel
theorem dX0_drop_35 : decode cX0_drop 35 = .ok (.athrow, 1) := by decide +kernel
theorem dX0_drop_36 : decode cX0_drop 36 = .ok (.aload_n 0, 1) := by decide +kernel
theorem dX0_drop_37 : decode cX0_drop 37 = .ok (.iload_n 1, 1) := by decide +kernel
theorem dX0_drop_38 : decode cX0_drop 38 = .ok (.invokevirtual 118, 3) := by decide +kernel
theorem dX0_drop_41 : decode cX0_drop 41 = .ok (.ireturn, 1) := by decide +kernel
set_option maxRecDepth 20000 in
theorem ggX0_shelve_X0_isPot : GoodIn wsX0_shelve wsX0_isPot := goodIn_r _ [9, 10, 11, 8, 12] (by decide +kernel) (by decide +kernel)
set_option maxRecDepth 20000 in
theorem gX0_shelve_X0_isPot : GoodIn wsX0_shelve (va_wsS RX0 78 yX0_isPot wsX0_isPot) := goodIn_app (goodIn_of _ (by decide +kernel)) ggX0_shelve_X0_isPot
set_option maxRecDepth 20000 in
theorem ggX0_shelve_X0_latestLineOf : GoodIn wsX0_shelve wsX0_latestLineOf := goodIn_r _ [16, 17, 18, 19, 20, 8, 21, 10, 11, 12, 34, 35, 36, 37, 38, 39, 40, 41, 42, 43, 44, 45, 46, 47, 48] (by decide +kernel) (by decide +kernel)
set_option maxRecDepth 20000 in
theorem gX0_shelve_X0_latestLineOf : GoodIn wsX0_shelve (wsV RX0 123 RX0 yX0_latestLineOf wsX0_latestLineOf) := goodIn_app (goodIn_of _ (by decide +kernel)) ggX0_shelve_X0_latestLineOf
set_option maxRecDepth 20000 in
theorem ggX0_shelve_X0_dryUpTo : GoodIn wsX0_shelve wsX0_dryUpTo := goodIn_r _ [25, 26, 27, 28, 29, 30, 34, 35, 36, 37, 38, 39, 40, 41, 42, 43, 44, 45, 46, 47, 48] (by decide +kernel) (by decide +kernel)
set_option maxRecDepth 20000 in
theorem gX0_shelve_X0_dryUpTo : GoodIn wsX0_shelve (wsV RX0 115 RX0 yX0_dryUpTo wsX0_dryUpTo) := goodIn_app (goodIn_of _ (by decide +kernel)) ggX0_shelve_X0_dryUpTo
set_option maxRecDepth 20000 in
theorem ggX0_shelve_X0_at : GoodIn wsX0_shelve wsX0_at := goodIn_r _ [21, 10, 11, 8, 12] (by decide +kernel) (by decide +kernel)
set_option maxRecDepth 20000 in
theorem gX0_shelve_X0_at : GoodIn wsX0_shelve (va_wsS RX0 102 yX0_at wsX0_at) := goodIn_app (goodIn_of _ (by decide +kernel)) ggX0_shelve_X0_at
set_option maxRecDepth 20000 in
theorem ggX0_shelve_X0_put : GoodIn wsX0_shelve wsX0_put := goodIn_r _ [33, 10, 11, 8, 12] (by decide +kernel) (by decide +kernel)
set_option maxRecDepth 20000 in
theorem gX0_shelve_X0_put : GoodIn wsX0_shelve (va_wsS RX0 66 yX0_put wsX0_put) := goodIn_app (goodIn_of _ (by decide +kernel)) ggX0_shelve_X0_put
theorem dX0_shelve_0 : decode cX0_shelve 0 = .ok (.iload_n 1, 1) := by decide +kernel
theorem dX0_shelve_1 : decode cX0_shelve 1 = .ok (.invokestatic 78, 3) := by decide +kernel
theorem dX0_shelve_4 : decode cX0_shelve 4 = .ok (.ifCond .ne 13, 3) := by decide +kernel
theorem dX0_shelve_7 : decode cX0_shelve 7 = .ok (.new 81, 3) := by decide +kernel
theorem dX0_shelve_10 : decode cX0_shelve 10 = .ok (.dup, 1) := by decide +kernel
theorem dX0_shelve_11 : decode cX0_shelve 11 = .ok (.ldc 121, 2) := by decide +kernel
theorem dX0_shelve_13 : decode cX0_shelve 13 = .ok (.invokespecial 85, 3) := by decide +kernel
theorem dX0_shelve_16 : decode cX0_shelve 16 = .ok (.athrow, 1) := by decide +kernel
theorem dX0_shelve_17 : decode cX0_shelve 17 = .ok (.aload_n 0, 1) := by decide +kernel
theorem dX0_shelve_18 : decode cX0_shelve 18 = .ok (.iload_n 1, 1) := by decide +kernel
theorem dX0_shelve_19 : decode cX0_shelve 19 = .ok (.invokevirtual 123, 3) := by decide +kernel
theorem dX0_shelve_22 : decode cX0_shelve 22 = .ok (.istore_n 2, 1) := by decide +kernel
theorem dX0_shelve_23 : decode cX0_shelve 23 = .ok (.aload_n 0, 1) := by decide +kernel
theorem dX0_shelve_24 : decode cX0_shelve 24 = .ok (.iload_n 2, 1) := by decide +kernel
theorem dX0_shelve_25 : decode cX0_shelve 25 = .ok (.iconst 1, 1) := by decide +kernel
theorem dX0_shelve_26 : decode cX0_shelve 26 = .ok (.iadd, 1) := by decide +kernel
theorem dX0_shelve_27 : decode cX0_shelve 27 = .ok (.invokevirtual 115, 3) := by decide +kernel
theorem dX0_shelve_30 : decode cX0_shelve 30 = .ok (.istore_n 3, 1) := by decide +kernel
theorem dX0_shelve_31 : decode cX0_shelve 31 = .ok (.aload_n 0, 1) := by decide +kernel
theorem dX0_shelve_32 : decode cX0_shelve 32 = .ok (.getfield 13, 3) := by decide +kernel
theorem dX0_shelve_35 : decode cX0_shelve 35 = .ok (.iload_n 1, 1) := by decide +kernel
theorem dX0_shelve_36 : decode cX0_shelve 36 = .ok (.aload_n 0, 1) := by decide +kernel
theorem dX0_shelve_37 : decode cX0_shelve 37 = .ok (.getfield 9, 3) := by decide +kernel
theorem dX0_shelve_40 : decode cX0_shelve 40 = .ok (.iload_n 1, 1) := by decide +kernel
theorem dX0_shelve_41 : decode cX0_shelve 41 = .ok (.invokestatic 102, 3) := by decide +kernel
theorem dX0_shelve_44 : decode cX0_shelve 44 = .ok (.invokestatic 66, 3) := by decide +kernel
theorem dX0_shelve_47 : decode cX0_shelve 47 = .ok (.aload_n 0, 1) := by decide +kernel
theorem dX0_shelve_48 : decode cX0_shelve 48 = .ok (.getfield 16, 3) := by decide +kernel
theorem dX0_shelve_51 : decode cX0_shelve 51 = .ok (.iload_n 1, 1) := by decide +kernel
theorem dX0_shelve_52 : decode cX0_shelve 52 = .ok (.iload_n 2, 1) := by decide +kernel
theorem dX0_shelve_53 : decode cX0_shelve 53 = .ok (.invokestatic 66, 3) := by decide +kernel
theorem dX0_shelve_56 : decode cX0_shelve 56 = .ok (.iload_n 3, 1) := by decide +kernel
theorem dX0_shelve_57 : decode cX0_shelve 57 = .ok (.ireturn, 1) := by decide +kernel
set_option maxRecDepth 20000 in
theorem ggX0_blow_X0_dryUpTo : GoodIn wsX0_blow wsX0_dryUpTo := goodIn_r _ [6, 7, 8, 9, 10, 11, 12, 13, 14, 15, 16, 17, 18, 19, 20, 21, 22, 23, 24, 25, 26] (by decide +kernel) (by decide +kernel)
set_option maxRecDepth 20000 in
theorem gX0_blow_X0_dryUpTo : GoodIn wsX0_blow (wsV RX0 115 RX0 yX0_dryUpTo wsX0_dryUpTo) := goodIn_app (goodIn_of _ (by decide +kernel)) ggX0_blow_X0_dryUpTo
theorem dX0_blow_0 : decode cX0_blow 0 = .ok (.aload_n 0, 1) := by decide +kernel
theorem dX0_blow_1 : decode cX0_blow 1 = .ok (.aload_n 0, 1) := by decide +kernel
theorem dX0_blow_2 : decode cX0_blow 2 = .ok (.getfield 112, 3) := by decide +kernel
theorem dX0_blow_5 : decode cX0_blow 5 = .ok (.invokevirtual 115, 3) := by decide +kernel
theorem dX0_blow_8 : decode cX0_blow 8 = .ok (.ireturn, 1) := by decide +kernel
set_option maxRecDepth 20000 in
theorem ggX0_fall_X0_wipeWhatIsNotDry : GoodIn wsX0_fall wsX0_wipeWhatIsNotDry := goodIn_r _ [13, 14, 15, 16, 7, 17, 18, 19, 12, 20, 21, 22, 23, 24, 25, 26, 27, 28, 29, 30, 31, 32, 33, 34, 35, 73, 74, 75, 76, 77, 78, 79, 80, 81, 82, 83, 84, 85, 86, 87] (by decide +kernel) (by decide +kernel)
set_option maxRecDepth 20000 in
theorem gX0_fall_X0_wipeWhatIsNotDry : GoodIn wsX0_fall (wsV RX0 126 RX0 yX0_wipeWhatIsNotDry wsX0_wipeWhatIsNotDry) := goodIn_app (goodIn_of _ (by decide +kernel)) ggX0_fall_X0_wipeWhatIsNotDry
set_option maxRecDepth 20000 in
theorem ggX0_fall_X0_doAnew : GoodIn wsX0_fall wsX0_doAnew := goodIn_r _ [39, 15, 2, 40, 41, 42, 43, 44, 12, 45, 46, 18, 19, 20, 21, 22, 23, 24, 25, 26, 73, 74, 75, 76, 77, 78, 79, 80, 81, 82, 83, 84, 85, 86, 87] (by decide +kernel) (by decide +kernel)
set_option maxRecDepth 20000 in
theorem gX0_fall_X0_doAnew : GoodIn wsX0_fall (wsV RX0 135 RX0 yX0_doAnew wsX0_doAnew) := goodIn_app (goodIn_of _ (by decide +kernel)) ggX0_fall_X0_doAnew
set_option maxRecDepth 20000 in
theorem ggX0_fall_X0_isOpen : GoodIn wsX0_fall wsX0_isOpen := goodIn_r _ [50, 17, 18, 19, 12, 20, 21, 22, 23, 73, 74, 75, 76, 77, 78, 79, 80, 81, 82, 83, 84, 85, 86, 87] (by decide +kernel) (by decide +kernel)
set_option maxRecDepth 20000 in
theorem gX0_fall_X0_isOpen : GoodIn wsX0_fall (wsV RX0 91 RX0 yX0_isOpen wsX0_isOpen) := goodIn_app (goodIn_of _ (by decide +kernel)) ggX0_fall_X0_isOpen
set_option maxRecDepth 20000 in
theorem ggX0_fall_X0_undo : GoodIn wsX0_fall wsX0_undo := goodIn_r _ [54, 15, 17, 55, 56, 57, 12, 58, 31, 32, 16, 18, 19, 20, 21, 22, 23, 59, 60, 61, 62, 40, 63, 64, 65, 66, 67, 68, 2, 41, 69, 70, 71, 72, 24, 25, 26, 73, 74, 75, 76, 77, 78, 79, 80, 81, 82, 83, 84, 85, 86, 87] (by decide +kernel) (by decide +kernel)
set_option maxRecDepth 20000 in
theorem gX0_fall_X0_undo : GoodIn wsX0_fall (wsV RX0 118 RX0 yX0_undo wsX0_undo) := goodIn_app (goodIn_of _ (by decide +kernel)) ggX0_fall_X0_undo
theorem dX0_fall_0 : decode cX0_fall 0 = .ok (.aload_n 0, 1) := by decide +kernel
theorem dX0_fall_1 : decode cX0_fall 1 = .ok (.invokevirtual 126, 3) := by decide +kernel
theorem dX0_fall_4 : decode cX0_fall 4 = .ok (.aload_n 0, 1) := by decide +kernel
theorem dX0_fall_5 : decode cX0_fall 5 = .ok (.getfield 13, 3) := by decide +kernel
theorem dX0_fall_8 : decode cX0_fall 8 = .ok (.iconst 0, 1) := by decide +kernel
theorem dX0_fall_9 : decode cX0_fall 9 = .ok (.aload_n 0, 1) := by decide +kernel
theorem dX0_fall_10 : decode cX0_fall 10 = .ok (.getfield 9, 3) := by decide +kernel
theorem dX0_fall_13 : decode cX0_fall 13 = .ok (.iconst 0, 1) := by decide +kernel
theorem dX0_fall_14 : decode cX0_fall 14 = .ok (.bipush 8, 2) := by decide +kernel
theorem dX0_fall_16 : decode cX0_fall 16 = .ok (.invokestatic 129, 3) := by decide +kernel
theorem dX0_fall_19 : decode cX0_fall 19 = .ok (.aload_n 0, 1) := by decide +kernel
theorem dX0_fall_20 : decode cX0_fall 20 = .ok (.invokevirtual 135, 3) := by decide +kernel
theorem dX0_fall_23 : decode cX0_fall 23 = .ok (.istore_n 1, 1) := by decide +kernel
theorem dX0_fall_24 : decode cX0_fall 24 = .ok (.aload_n 0, 1) := by decide +kernel
theorem dX0_fall_25 : decode cX0_fall 25 = .ok (.getfield 49, 3) := by decide +kernel
theorem dX0_fall_28 : decode cX0_fall 28 = .ok (.iconst 1, 1) := by decide +kernel
theorem dX0_fall_29 : decode cX0_fall 29 = .ok (.isub, 1) := by decide +kernel
theorem dX0_fall_30 : decode cX0_fall 30 = .ok (.istore_n 2, 1) := by decide +kernel
theorem dX0_fall_31 : decode cX0_fall 31 = .ok (.iload_n 2, 1) := by decide +kernel
theorem dX0_fall_32 : decode cX0_fall 32 = .ok (.ifCond .lt 23, 3) := by decide +kernel
theorem dX0_fall_35 : decode cX0_fall 35 = .ok (.aload_n 0, 1) := by decide +kernel
theorem dX0_fall_36 : decode cX0_fall 36 = .ok (.iload_n 2, 1) := by decide +kernel
theorem dX0_fall_37 : decode cX0_fall 37 = .ok (.invokevirtual 91, 3) := by decide +kernel
theorem dX0_fall_40 : decode cX0_fall 40 = .ok (.ifCond .eq 9, 3) := by decide +kernel
theorem dX0_fall_43 : decode cX0_fall 43 = .ok (.aload_n 0, 1) := by decide +kernel
theorem dX0_fall_44 : decode cX0_fall 44 = .ok (.iload_n 2, 1) := by decide +kernel
theorem dX0_fall_45 : decode cX0_fall 45 = .ok (.invokevirtual 118, 3) := by decide +kernel
theorem dX0_fall_48 : decode cX0_fall 48 = .ok (.pop, 1) := by decide +kernel
theorem dX0_fall_49 : decode cX0_fall 49 = .ok (.iinc 2 (-1), 3) := by decide +kernel
theorem dX0_fall_52 : decode cX0_fall 52 = .ok (.goto (-21), 3) := by decide +kernel
theorem dX0_fall_55 : decode cX0_fall 55 = .ok (.aload_n 0, 1) := by decide +kernel
theorem dX0_fall_56 : decode cX0_fall 56 = .ok (.dup, 1) := by decide +kernel
theorem dX0_fall_57 : decode cX0_fall 57 = .ok (.getfield 138, 3) := by decide +kernel
theorem dX0_fall_60 : decode cX0_fall 60 = .ok (.iconst 1, 1) := by decide +kernel
theorem dX0_fall_61 : decode cX0_fall 61 = .ok (.iadd, 1) := by decide +kernel
theorem dX0_fall_62 : decode cX0_fall 62 = .ok (.putfield 138, 3) := by decide +kernel
theorem dX0_fall_65 : decode cX0_fall 65 = .ok (.iload_n 1, 1) := by decide +kernel
theorem dX0_fall_66 : decode cX0_fall 66 = .ok (.ireturn, 1) := by decide +kernel
set_option maxRecDepth 20000 in
theorem ggX0_pot_X0_isPot : GoodIn wsX0_pot wsX0_isPot := goodIn_r _ [6, 7, 8, 5, 9] (by decide +kernel) (by decide +kernel)
set_option maxRecDepth 20000 in
theorem gX0_pot_X0_isPot : GoodIn wsX0_pot (va_wsS RX0 78 yX0_isPot wsX0_isPot) := goodIn_app (goodIn_of _ (by decide +kernel)) ggX0_pot_X0_isPot
set_option maxRecDepth 20000 in
theorem ggX0_pot_X0_isBelow : GoodIn wsX0_pot wsX0_isBelow := goodIn_r _ [9] (by decide +kernel) (by decide +kernel)
set_option maxRecDepth 20000 in
theorem gX0_pot_X0_isBelow : GoodIn wsX0_pot (va_wsS RX0 141 yX0_isBelow wsX0_isBelow) := goodIn_app (goodIn_of _ (by decide +kernel)) ggX0_pot_X0_isBelow
set_option maxRecDepth 20000 in
theorem ggX0_pot_X0_potAnswer : GoodIn wsX0_pot wsX0_potAnswer := goodIn_r _ [13, 14, 15, 16, 17, 18, 5, 19, 7, 8, 9, 20, 21, 22, 23, 24, 25, 26, 27, 28, 29, 30, 31, 32, 33, 34, 35, 36, 37, 38, 39, 40, 41, 42, 43, 44, 45, 46, 47, 48, 49, 50, 51] (by decide +kernel) (by decide +kernel)
set_option maxRecDepth 20000 in
theorem gX0_pot_X0_potAnswer : GoodIn wsX0_pot (wsV RX0 147 RX0 yX0_potAnswer wsX0_potAnswer) := goodIn_app (goodIn_of _ (by decide +kernel)) ggX0_pot_X0_potAnswer
theorem dX0_pot_0 : decode cX0_pot 0 = .ok (.iload_n 1, 1) := by decide +kernel
theorem dX0_pot_1 : decode cX0_pot 1 = .ok (.invokestatic 78, 3) := by decide +kernel
theorem dX0_pot_4 : decode cX0_pot 4 = .ok (.ifCond .eq 11, 3) := by decide +kernel
theorem dX0_pot_7 : decode cX0_pot 7 = .ok (.iload_n 2, 1) := by decide +kernel
theorem dX0_pot_8 : decode cX0_pot 8 = .ok (.iconst 5, 1) := by decide +kernel
theorem dX0_pot_9 : decode cX0_pot 9 = .ok (.invokestatic 141, 3) := by decide +kernel
theorem dX0_pot_12 : decode cX0_pot 12 = .ok (.ifCond .ne 13, 3) := by decide +kernel
theorem dX0_pot_15 : decode cX0_pot 15 = .ok (.new 81, 3) := by decide +kernel
theorem dX0_pot_18 : decode cX0_pot 18 = .ok (.dup, 1) := by decide +kernel
theorem dX0_pot_19 : decode cX0_pot 19 = .ok (.ldc 145, 2) := by decide +kernel
theorem dX0_pot_21 : decode cX0_pot 21 = .ok (.invokespecial 85, 3) := by decide +kernel
theorem dX0_pot_24 : decode cX0_pot 24 = .ok (.athrow, 1) := by decide +kernel
theorem dX0_pot_25 : decode cX0_pot 25 = .ok (.aload_n 0, 1) := by decide +kernel
theorem dX0_pot_26 : decode cX0_pot 26 = .ok (.iload_n 1, 1) := by decide +kernel
theorem dX0_pot_27 : decode cX0_pot 27 = .ok (.iload_n 2, 1) := by decide +kernel
theorem dX0_pot_28 : decode cX0_pot 28 = .ok (.invokevirtual 147, 3) := by decide +kernel
theorem dX0_pot_31 : decode cX0_pot 31 = .ok (.ireturn, 1) := by decide +kernel
set_option maxRecDepth 20000 in
theorem ggX0_dish_X0_isDish : GoodIn wsX0_dish wsX0_isDish := goodIn_r _ [7, 8, 9, 10, 6, 11, 53, 54, 55, 56, 57, 58, 59, 60, 61, 62, 63, 64, 65, 66, 67] (by decide +kernel) (by decide +kernel)
set_option maxRecDepth 20000 in
theorem gX0_dish_X0_isDish : GoodIn wsX0_dish (wsV RX0 74 RX0 yX0_isDish wsX0_isDish) := goodIn_app (goodIn_of _ (by decide +kernel)) ggX0_dish_X0_isDish
set_option maxRecDepth 20000 in
theorem ggX0_dish_X0_isBelow : GoodIn wsX0_dish wsX0_isBelow := goodIn_r _ [11] (by decide +kernel) (by decide +kernel)
set_option maxRecDepth 20000 in
theorem gX0_dish_X0_isBelow : GoodIn wsX0_dish (va_wsS RX0 141 yX0_isBelow wsX0_isBelow) := goodIn_app (goodIn_of _ (by decide +kernel)) ggX0_dish_X0_isBelow
set_option maxRecDepth 20000 in
theorem ggX0_dish_X0_dishAnswer : GoodIn wsX0_dish wsX0_dishAnswer := goodIn_r _ [15, 16, 17, 18, 19, 6, 20, 9, 10, 11, 21, 22, 23, 24, 25, 26, 27, 28, 29, 30, 31, 32, 33, 34, 35, 36, 37, 38, 39, 40, 41, 42, 43, 44, 45, 46, 47, 48, 49, 50, 51, 52, 53, 54, 55, 56, 57, 58, 59, 60, 61, 62, 63, 64, 65, 66, 67] (by decide +kernel) (by decide +kernel)
set_option maxRecDepth 20000 in
theorem gX0_dish_X0_dishAnswer : GoodIn wsX0_dish (wsV RX0 153 RX0 yX0_dishAnswer wsX0_dishAnswer) := goodIn_app (goodIn_of _ (by decide +kernel)) ggX0_dish_X0_dishAnswer
theorem dX0_dish_0 : decode cX0_dish 0 = .ok (.aload_n 0, 1) := by decide +kernel
theorem dX0_dish_1 : decode cX0_dish 1 = .ok (.iload_n 1, 1) := by decide +kernel
theorem dX0_dish_2 : decode cX0_dish 2 = .ok (.invokevirtual 74, 3) := by decide +kernel
theorem dX0_dish_5 : decode cX0_dish 5 = .ok (.ifCond .eq 11, 3) := by decide +kernel
theorem dX0_dish_8 : decode cX0_dish 8 = .ok (.iload_n 2, 1) := by decide +kernel
theorem dX0_dish_9 : decode cX0_dish 9 = .ok (.iconst 5, 1) := by decide +kernel
theorem dX0_dish_10 : decode cX0_dish 10 = .ok (.invokestatic 141, 3) := by decide +kernel
theorem dX0_dish_13 : decode cX0_dish 13 = .ok (.ifCond .ne 13, 3) := by decide +kernel
theorem dX0_dish_16 : decode cX0_dish 16 = .ok (.new 81, 3) := by decide +kernel
theorem dX0_dish_19 : decode cX0_dish 19 = .ok (.dup, 1) := by decide +kernel
theorem dX0_dish_20 : decode cX0_dish 20 = .ok (.ldc 151, 2) := by decide +kernel
theorem dX0_dish_22 : decode cX0_dish 22 = .ok (.invokespecial 85, 3) := by decide +kernel
theorem dX0_dish_25 : decode cX0_dish 25 = .ok (.athrow, 1) := by decide +kernel
theorem dX0_dish_26 : decode cX0_dish 26 = .ok (.aload_n 0, 1) := by decide +kernel
theorem dX0_dish_27 : decode cX0_dish 27 = .ok (.iload_n 1, 1) := by decide +kernel
theorem dX0_dish_28 : decode cX0_dish 28 = .ok (.iload_n 2, 1) := by decide +kernel
theorem dX0_dish_29 : decode cX0_dish 29 = .ok (.invokevirtual 153, 3) := by decide +kernel
theorem dX0_dish_32 : decode cX0_dish 32 = .ok (.ireturn, 1) := by decide +kernel
set_option maxRecDepth 20000 in
theorem ggX0_line_X0_isBelow : GoodIn wsX0_line wsX0_isBelow := goodIn_r _ [7] (by decide +kernel) (by decide +kernel)
set_option maxRecDepth 20000 in
theorem gX0_line_X0_isBelow : GoodIn wsX0_line (va_wsS RX0 141 yX0_isBelow wsX0_isBelow) := goodIn_app (goodIn_of _ (by decide +kernel)) ggX0_line_X0_isBelow
set_option maxRecDepth 20000 in
theorem ggX0_line_X0_lineAnswer : GoodIn wsX0_line wsX0_lineAnswer := goodIn_r _ [11, 12, 13, 14, 15, 16, 17, 18, 19, 20, 6, 21, 4, 5, 7, 22, 23, 24, 25, 26, 27, 28, 29, 30, 31, 32, 33, 34, 35, 36] (by decide +kernel) (by decide +kernel)
set_option maxRecDepth 20000 in
theorem gX0_line_X0_lineAnswer : GoodIn wsX0_line (wsV RX0 158 RX0 yX0_lineAnswer wsX0_lineAnswer) := goodIn_app (goodIn_of _ (by decide +kernel)) ggX0_line_X0_lineAnswer
theorem dX0_line_0 : decode cX0_line 0 = .ok (.iload_n 1, 1) := by decide +kernel
theorem dX0_line_1 : decode cX0_line 1 = .ok (.aload_n 0, 1) := by decide +kernel
theorem dX0_line_2 : decode cX0_line 2 = .ok (.getfield 112, 3) := by decide +kernel
theorem dX0_line_5 : decode cX0_line 5 = .ok (.invokestatic 141, 3) := by decide +kernel
theorem dX0_line_8 : decode cX0_line 8 = .ok (.ifCond .eq 12, 3) := by decide +kernel
theorem dX0_line_11 : decode cX0_line 11 = .ok (.iload_n 2, 1) := by decide +kernel
theorem dX0_line_12 : decode cX0_line 12 = .ok (.bipush 7, 2) := by decide +kernel
theorem dX0_line_14 : decode cX0_line 14 = .ok (.invokestatic 141, 3) := by decide +kernel
theorem dX0_line_17 : decode cX0_line 17 = .ok (.ifCond .ne 13, 3) := by decide +kernel
theorem dX0_line_20 : decode cX0_line 20 = .ok (.new 81, 3) := by decide +kernel
theorem dX0_line_23 : decode cX0_line 23 = .ok (.dup, 1) := by decide +kernel
theorem dX0_line_24 : decode cX0_line 24 = .ok (.ldc 156, 2) := by decide +kernel
theorem dX0_line_26 : decode cX0_line 26 = .ok (.invokespecial 85, 3) := by decide +kernel
theorem dX0_line_29 : decode cX0_line 29 = .ok (.athrow, 1) := by decide +kernel
theorem dX0_line_30 : decode cX0_line 30 = .ok (.aload_n 0, 1) := by decide +kernel
theorem dX0_line_31 : decode cX0_line 31 = .ok (.iload_n 1, 1) := by decide +kernel
theorem dX0_line_32 : decode cX0_line 32 = .ok (.iload_n 2, 1) := by decide +kernel
theorem dX0_line_33 : decode cX0_line 33 = .ok (.invokevirtual 158, 3) := by decide +kernel
theorem dX0_line_36 : decode cX0_line 36 = .ok (.ireturn, 1) := by decide +kernel
set_option maxRecDepth 20000 in
theorem ggX0_count_X0_isBelow : GoodIn wsX0_count wsX0_isBelow := goodIn_r _ [6] (by decide +kernel) (by decide +kernel)
set_option maxRecDepth 20000 in
theorem gX0_count_X0_isBelow : GoodIn wsX0_count (va_wsS RX0 141 yX0_isBelow wsX0_isBelow) := goodIn_app (goodIn_of _ (by decide +kernel)) ggX0_count_X0_isBelow
set_option maxRecDepth 20000 in
theorem ggX0_count_X0_countAnswer : GoodIn wsX0_count wsX0_countAnswer := goodIn_r _ [10, 11, 12, 13, 14, 15, 16, 17, 18, 19, 5, 20, 21, 22, 23, 24, 3, 4, 6, 25, 26, 27, 28, 29, 30, 31, 32, 33, 34, 35, 36, 37, 38, 39, 40, 41, 42, 43, 44, 45, 46, 47, 48, 49, 50, 51, 52, 53, 54, 55, 56, 57, 58, 59, 60, 61] (by decide +kernel) (by decide +kernel)
set_option maxRecDepth 20000 in
theorem gX0_count_X0_countAnswer : GoodIn wsX0_count (wsV RX0 163 RX0 yX0_countAnswer wsX0_countAnswer) := goodIn_app (goodIn_of _ (by decide +kernel)) ggX0_count_X0_countAnswer
theorem dX0_count_0 : decode cX0_count 0 = .ok (.iload_n 1, 1) := by decide +kernel
theorem dX0_count_1 : decode cX0_count 1 = .ok (.bipush 11, 2) := by decide +kernel
theorem dX0_count_3 : decode cX0_count 3 = .ok (.invokestatic 141, 3) := by decide +kernel
theorem dX0_count_6 : decode cX0_count 6 = .ok (.ifCond .ne 13, 3) := by decide +kernel
theorem dX0_count_9 : decode cX0_count 9 = .ok (.new 81, 3) := by decide +kernel
theorem dX0_count_12 : decode cX0_count 12 = .ok (.dup, 1) := by decide +kernel
theorem dX0_count_13 : decode cX0_count 13 = .ok (.ldc 161, 2) := by decide +kernel
theorem dX0_count_15 : decode cX0_count 15 = .ok (.invokespecial 85, 3) := by decide +kernel
theorem dX0_count_18 : decode cX0_count 18 = .ok (.athrow, 1) := by decide +kernel
theorem dX0_count_19 : decode cX0_count 19 = .ok (.aload_n 0, 1) := by decide +kernel
theorem dX0_count_20 : decode cX0_count 20 = .ok (.iload_n 1, 1) := by decide +kernel
theorem dX0_count_21 : decode cX0_count 21 = .ok (.invokevirtual 163, 3) := by decide +kernel
theorem dX0_count_24 : decode cX0_count 24 = .ok (.ireturn, 1) := by decide +kernel
set_option maxRecDepth 20000 in
theorem ggX0_would_X0_isBelow : GoodIn wsX0_would wsX0_isBelow := goodIn_r _ [8] (by decide +kernel) (by decide +kernel)
set_option maxRecDepth 20000 in
theorem gX0_would_X0_isBelow : GoodIn wsX0_would (va_wsS RX0 141 yX0_isBelow wsX0_isBelow) := goodIn_app (goodIn_of _ (by decide +kernel)) ggX0_would_X0_isBelow
set_option maxRecDepth 20000 in
theorem ggX0_would_X0_linesToDoAnew : GoodIn wsX0_would wsX0_linesToDoAnew := goodIn_r _ [12, 4, 13, 14, 15, 7, 16, 17, 18, 19, 20, 21, 5, 6, 8, 54, 55, 56, 57, 58, 59, 60, 61, 62, 63, 64, 65, 66, 67, 68] (by decide +kernel) (by decide +kernel)
set_option maxRecDepth 20000 in
theorem gX0_would_X0_linesToDoAnew : GoodIn wsX0_would (wsV RX0 169 RX0 yX0_linesToDoAnew wsX0_linesToDoAnew) := goodIn_app (goodIn_of _ (by decide +kernel)) ggX0_would_X0_linesToDoAnew
set_option maxRecDepth 20000 in
theorem ggX0_would_X0_linesToTakeBack : GoodIn wsX0_would wsX0_linesToTakeBack := goodIn_r _ [25, 26, 4, 27, 28, 29, 7, 30, 31, 32, 19, 20, 21, 5, 6, 8, 33, 34, 35, 36, 37, 38, 39, 40, 41, 42, 43, 44, 54, 55, 56, 57, 58, 59, 60, 61, 62, 63, 64, 65, 66, 67, 68] (by decide +kernel) (by decide +kernel)
set_option maxRecDepth 20000 in
theorem gX0_would_X0_linesToTakeBack : GoodIn wsX0_would (wsV RX0 172 RX0 yX0_linesToTakeBack wsX0_linesToTakeBack) := goodIn_app (goodIn_of _ (by decide +kernel)) ggX0_would_X0_linesToTakeBack
set_option maxRecDepth 20000 in
theorem ggX0_would_X0_firstLineToDoAnew : GoodIn wsX0_would wsX0_firstLineToDoAnew := goodIn_r _ [48, 4, 13, 14, 15, 7, 16, 17, 18, 19, 20, 21, 5, 6, 8, 54, 55, 56, 57, 58, 59, 60, 61, 62, 63, 64, 65, 66, 67, 68] (by decide +kernel) (by decide +kernel)
set_option maxRecDepth 20000 in
theorem gX0_would_X0_firstLineToDoAnew : GoodIn wsX0_would (wsV RX0 175 RX0 yX0_firstLineToDoAnew wsX0_firstLineToDoAnew) := goodIn_app (goodIn_of _ (by decide +kernel)) ggX0_would_X0_firstLineToDoAnew
set_option maxRecDepth 20000 in
theorem ggX0_would_X0_dishesToForget : GoodIn wsX0_would wsX0_dishesToForget := goodIn_r _ [52, 26, 53, 4, 19, 20, 7, 21, 5, 6, 8, 27, 28, 29, 30, 31, 32, 33, 34, 35, 54, 55, 56, 57, 58, 59, 60, 61, 62, 63, 64, 65, 66, 67, 68] (by decide +kernel) (by decide +kernel)
set_option maxRecDepth 20000 in
theorem gX0_would_X0_dishesToForget : GoodIn wsX0_would (wsV RX0 178 RX0 yX0_dishesToForget wsX0_dishesToForget) := goodIn_app (goodIn_of _ (by decide +kernel)) ggX0_would_X0_dishesToForget
theorem dX0_would_0 : decode cX0_would 0 = .ok (.iload_n 1, 1) := by decide +kernel
theorem dX0_would_1 : decode cX0_would 1 = .ok (.iconst 5, 1) := by decide +kernel
theorem dX0_would_2 : decode cX0_would 2 = .ok (.invokestatic 141, 3) := by decide +kernel
theorem dX0_would_5 : decode cX0_would 5 = .ok (.ifCond .ne 13, 3) := by decide +kernel
theorem dX0_would_8 : decode cX0_would 8 = .ok (.new 81, 3) := by decide +kernel
theorem dX0_would_11 : decode cX0_would 11 = .ok (.dup, 1) := by decide +kernel
theorem dX0_would_12 : decode cX0_would 12 = .ok (.ldc 161, 2) := by decide +kernel
theorem dX0_would_14 : decode cX0_would 14 = .ok (.invokespecial 85, 3) := by decide +kernel
theorem dX0_would_17 : decode cX0_would 17 = .ok (.athrow, 1) := by decide +kernel
theorem dX0_would_18 : decode cX0_would 18 = .ok (.iload_n 1, 1) := by decide +kernel
theorem dX0_would_19 : decode cX0_would 19 = .ok (.tableswitch 54 0 3 #[29, 39, 44, 49], 29) := by decide +kernel
theorem dX0_would_48 : decode cX0_would 48 = .ok (.aload_n 0, 1) := by decide +kernel
theorem dX0_would_49 : decode cX0_would 49 = .ok (.getfield 112, 3) := by decide +kernel
theorem dX0_would_52 : decode cX0_would 52 = .ok (.aload_n 0, 1) := by decide +kernel
theorem dX0_would_53 : decode cX0_would 53 = .ok (.getfield 166, 3) := by decide +kernel
theorem dX0_would_56 : decode cX0_would 56 = .ok (.isub, 1) := by decide +kernel
theorem dX0_would_57 : decode cX0_would 57 = .ok (.ireturn, 1) := by decide +kernel
theorem dX0_would_58 : decode cX0_would 58 = .ok (.aload_n 0, 1) := by decide +kernel
theorem dX0_would_59 : decode cX0_would 59 = .ok (.invokevirtual 169, 3) := by decide +kernel
theorem dX0_would_62 : decode cX0_would 62 = .ok (.ireturn, 1) := by decide +kernel
theorem dX0_would_63 : decode cX0_would 63 = .ok (.aload_n 0, 1) := by decide +kernel
theorem dX0_would_64 : decode cX0_would 64 = .ok (.invokevirtual 172, 3) := by decide +kernel
theorem dX0_would_67 : decode cX0_would 67 = .ok (.ireturn, 1) := by decide +kernel
theorem dX0_would_68 : decode cX0_would 68 = .ok (.aload_n 0, 1) := by decide +kernel
theorem dX0_would_69 : decode cX0_would 69 = .ok (.invokevirtual 175, 3) := by decide +kernel
theorem dX0_would_72 : decode cX0_would 72 = .ok (.ireturn, 1) := by decide +kernel
theorem dX0_would_73 : decode cX0_would 73 = .ok (.aload_n 0, 1) := by decide +kernel
theorem dX0_would_74 : decode cX0_would 74 = .ok (.invokevirtual 178, 3) := by decide +kernel
theorem dX0_would_77 : decode cX0_would 77 = .ok (.ireturn, 1) := by decide +kernel
set_option maxRecDepth 20000 in
theorem ggX0_left_X0_isPot : GoodIn wsX0_left wsX0_isPot := goodIn_r _ [11, 12, 13, 10, 14] (by decide +kernel) (by decide +kernel)
set_option maxRecDepth 20000 in
theorem gX0_left_X0_isPot : GoodIn wsX0_left (va_wsS RX0 78 yX0_isPot wsX0_isPot) := goodIn_app (goodIn_of _ (by decide +kernel)) ggX0_left_X0_isPot
set_option maxRecDepth 20000 in
theorem ggX0_left_X0_at : GoodIn wsX0_left wsX0_at := goodIn_r _ [17, 12, 13, 10, 14] (by decide +kernel) (by decide +kernel)
set_option maxRecDepth 20000 in
theorem gX0_left_X0_at : GoodIn wsX0_left (va_wsS RX0 102 yX0_at wsX0_at) := goodIn_app (goodIn_of _ (by decide +kernel)) ggX0_left_X0_at
set_option maxRecDepth 20000 in
theorem ggX0_left_X0_isToDoAnew : GoodIn wsX0_left wsX0_isToDoAnew := goodIn_r _ [21, 5, 22, 15, 16, 10, 17, 12, 13, 14, 42, 43, 44, 45, 46, 47, 48, 49, 50, 51, 52, 53, 54, 55, 56] (by decide +kernel) (by decide +kernel)
set_option maxRecDepth 20000 in
theorem gX0_left_X0_isToDoAnew : GoodIn wsX0_left (wsV RX0 181 RX0 yX0_isToDoAnew wsX0_isToDoAnew) := goodIn_app (goodIn_of _ (by decide +kernel)) ggX0_left_X0_isToDoAnew
set_option maxRecDepth 20000 in
theorem ggX0_left_X0_stateByLines : GoodIn wsX0_left wsX0_stateByLines := goodIn_r _ [26, 27, 28, 15, 16, 10, 17, 12, 13, 14, 29, 30, 31, 42, 43, 44, 45, 46, 47, 48, 49, 50, 51, 52, 53, 54, 55, 56] (by decide +kernel) (by decide +kernel)
set_option maxRecDepth 20000 in
theorem gX0_left_X0_stateByLines : GoodIn wsX0_left (wsV RX0 184 RX0 yX0_stateByLines wsX0_stateByLines) := goodIn_app (goodIn_of _ (by decide +kernel)) ggX0_left_X0_stateByLines
set_option maxRecDepth 20000 in
theorem ggX0_left_X0_spoonsAfterUndoing : GoodIn wsX0_left wsX0_spoonsAfterUndoing := goodIn_r _ [35, 4, 5, 36, 15, 16, 10, 17, 12, 13, 14, 37, 38, 39, 40, 27, 28, 41, 42, 43, 44, 45, 46, 47, 48, 49, 50, 51, 52, 53, 54, 55, 56] (by decide +kernel) (by decide +kernel)
set_option maxRecDepth 20000 in
theorem gX0_left_X0_spoonsAfterUndoing : GoodIn wsX0_left (wsV RX0 187 RX0 yX0_spoonsAfterUndoing wsX0_spoonsAfterUndoing) := goodIn_app (goodIn_of _ (by decide +kernel)) ggX0_left_X0_spoonsAfterUndoing
theorem dX0_left_0 : decode cX0_left 0 = .ok (.iload_n 1, 1) := by decide +kernel
theorem dX0_left_1 : decode cX0_left 1 = .ok (.invokestatic 78, 3) := by decide +kernel
theorem dX0_left_4 : decode cX0_left 4 = .ok (.ifCond .ne 13, 3) := by decide +kernel
theorem dX0_left_7 : decode cX0_left 7 = .ok (.new 81, 3) := by decide +kernel
theorem dX0_left_10 : decode cX0_left 10 = .ok (.dup, 1) := by decide +kernel
theorem dX0_left_11 : decode cX0_left 11 = .ok (.ldc 121, 2) := by decide +kernel
theorem dX0_left_13 : decode cX0_left 13 = .ok (.invokespecial 85, 3) := by decide +kernel
theorem dX0_left_16 : decode cX0_left 16 = .ok (.athrow, 1) := by decide +kernel
theorem dX0_left_17 : decode cX0_left 17 = .ok (.aload_n 0, 1) := by decide +kernel
theorem dX0_left_18 : decode cX0_left 18 = .ok (.getfield 13, 3) := by decide +kernel
theorem dX0_left_21 : decode cX0_left 21 = .ok (.iload_n 1, 1) := by decide +kernel
theorem dX0_left_22 : decode cX0_left 22 = .ok (.invokestatic 102, 3) := by decide +kernel
theorem dX0_left_25 : decode cX0_left 25 = .ok (.istore_n 2, 1) := by decide +kernel
theorem dX0_left_26 : decode cX0_left 26 = .ok (.iconst 0, 1) := by decide +kernel
theorem dX0_left_27 : decode cX0_left 27 = .ok (.istore_n 3, 1) := by decide +kernel
theorem dX0_left_28 : decode cX0_left 28 = .ok (.iload_n 3, 1) := by decide +kernel
theorem dX0_left_29 : decode cX0_left 29 = .ok (.aload_n 0, 1) := by decide +kernel
theorem dX0_left_30 : decode cX0_left 30 = .ok (.getfield 166, 3) := by decide +kernel
theorem dX0_left_33 : decode cX0_left 33 = .ok (.if_icmp .ge 38, 3) := by decide +kernel
theorem dX0_left_36 : decode cX0_left 36 = .ok (.aload_n 0, 1) := by decide +kernel
theorem dX0_left_37 : decode cX0_left 37 = .ok (.getfield 28, 3) := by decide +kernel
theorem dX0_left_40 : decode cX0_left 40 = .ok (.iload_n 3, 1) := by decide +kernel
theorem dX0_left_41 : decode cX0_left 41 = .ok (.invokestatic 102, 3) := by decide +kernel
theorem dX0_left_44 : decode cX0_left 44 = .ok (.iload_n 1, 1) := by decide +kernel
theorem dX0_left_45 : decode cX0_left 45 = .ok (.if_icmp .ne 20, 3) := by decide +kernel
theorem dX0_left_48 : decode cX0_left 48 = .ok (.aload_n 0, 1) := by decide +kernel
theorem dX0_left_49 : decode cX0_left 49 = .ok (.iload_n 3, 1) := by decide +kernel
theorem dX0_left_50 : decode cX0_left 50 = .ok (.invokevirtual 181, 3) := by decide +kernel
theorem dX0_left_53 : decode cX0_left 53 = .ok (.ifCond .eq 12, 3) := by decide +kernel
theorem dX0_left_56 : decode cX0_left 56 = .ok (.aload_n 0, 1) := by decide +kernel
theorem dX0_left_57 : decode cX0_left 57 = .ok (.getfield 34, 3) := by decide +kernel
theorem dX0_left_60 : decode cX0_left 60 = .ok (.iload_n 3, 1) := by decide +kernel
theorem dX0_left_61 : decode cX0_left 61 = .ok (.invokestatic 102, 3) := by decide +kernel
theorem dX0_left_64 : decode cX0_left 64 = .ok (.istore_n 2, 1) := by decide +kernel
theorem dX0_left_65 : decode cX0_left 65 = .ok (.iinc 3 1, 3) := by decide +kernel
theorem dX0_left_68 : decode cX0_left 68 = .ok (.goto (-40), 3) := by decide +kernel
theorem dX0_left_71 : decode cX0_left 71 = .ok (.aload_n 0, 1) := by decide +kernel
theorem dX0_left_72 : decode cX0_left 72 = .ok (.getfield 49, 3) := by decide +kernel
theorem dX0_left_75 : decode cX0_left 75 = .ok (.iconst 1, 1) := by decide +kernel
theorem dX0_left_76 : decode cX0_left 76 = .ok (.isub, 1) := by decide +kernel
theorem dX0_left_77 : decode cX0_left 77 = .ok (.istore_n 3, 1) := by decide +kernel
theorem dX0_left_78 : decode cX0_left 78 = .ok (.iload_n 3, 1) := by decide +kernel
theorem dX0_left_79 : decode cX0_left 79 = .ok (.ifCond .lt 29, 3) := by decide +kernel
theorem dX0_left_82 : decode cX0_left 82 = .ok (.aload_n 0, 1) := by decide +kernel
theorem dX0_left_83 : decode cX0_left 83 = .ok (.iload_n 3, 1) := by decide +kernel
theorem dX0_left_84 : decode cX0_left 84 = .ok (.aload_n 0, 1) := by decide +kernel
theorem dX0_left_85 : decode cX0_left 85 = .ok (.getfield 166, 3) := by decide +kernel
theorem dX0_left_88 : decode cX0_left 88 = .ok (.invokevirtual 184, 3) := by decide +kernel
theorem dX0_left_91 : decode cX0_left 91 = .ok (.ifCond .ne 11, 3) := by decide +kernel
theorem dX0_left_94 : decode cX0_left 94 = .ok (.aload_n 0, 1) := by decide +kernel
theorem dX0_left_95 : decode cX0_left 95 = .ok (.iload_n 3, 1) := by decide +kernel
theorem dX0_left_96 : decode cX0_left 96 = .ok (.iload_n 1, 1) := by decide +kernel
theorem dX0_left_97 : decode cX0_left 97 = .ok (.iload_n 2, 1) := by decide +kernel
theorem dX0_left_98 : decode cX0_left 98 = .ok (.invokevirtual 187, 3) := by decide +kernel
theorem dX0_left_101 : decode cX0_left 101 = .ok (.istore_n 2, 1) := by decide +kernel
theorem dX0_left_102 : decode cX0_left 102 = .ok (.iinc 3 (-1), 3) := by decide +kernel
theorem dX0_left_105 : decode cX0_left 105 = .ok (.goto (-27), 3) := by decide +kernel
theorem dX0_left_108 : decode cX0_left 108 = .ok (.iload_n 2, 1) := by decide +kernel
theorem dX0_left_109 : decode cX0_left 109 = .ok (.ireturn, 1) := by decide +kernel
set_option maxRecDepth 20000 in
theorem ggX0_mean_X0_sumOf : GoodIn wsX0_mean wsX0_sumOf := goodIn_r _ [6] (by decide +kernel) (by decide +kernel)
set_option maxRecDepth 20000 in
theorem gX0_mean_X0_sumOf : GoodIn wsX0_mean (va_wsS RX0 191 yX0_sumOf wsX0_sumOf) := goodIn_app (goodIn_of _ (by decide +kernel)) ggX0_mean_X0_sumOf
theorem dX0_mean_0 : decode cX0_mean 0 = .ok (.aload_n 0, 1) := by decide +kernel
theorem dX0_mean_1 : decode cX0_mean 1 = .ok (.getfield 9, 3) := by decide +kernel
theorem dX0_mean_4 : decode cX0_mean 4 = .ok (.invokestatic 191, 3) := by decide +kernel
theorem dX0_mean_7 : decode cX0_mean 7 = .ok (.i2d, 1) := by decide +kernel
theorem dX0_mean_8 : decode cX0_mean 8 = .ok (.ldc2_w 195, 3) := by decide +kernel
theorem dX0_mean_11 : decode cX0_mean 11 = .ok (.ddiv, 1) := by decide +kernel
theorem dX0_mean_12 : decode cX0_mean 12 = .ok (.dreturn, 1) := by decide +kernel
set_option maxRecDepth 20000 in
theorem ggX0_digest_X0_countAnswer : GoodIn wsX0_digest wsX0_countAnswer := goodIn_r _ [9, 4, 10, 3, 11, 12, 13, 14, 15, 16, 8, 17, 18, 19, 20, 21, 22, 23, 24, 25, 26, 27, 28, 29, 30, 31, 32, 33, 34, 35, 36, 37, 38, 39, 40, 41, 42, 43, 44, 45, 46, 84, 85, 86, 87, 88, 89, 90, 91, 92, 93, 94, 95, 96, 97, 98] (by decide +kernel) (by decide +kernel)
set_option maxRecDepth 20000 in
theorem gX0_digest_X0_countAnswer : GoodIn wsX0_digest (wsV RX0 163 RX0 yX0_countAnswer wsX0_countAnswer) := goodIn_app (goodIn_of _ (by decide +kernel)) ggX0_digest_X0_countAnswer
set_option maxRecDepth 20000 in
theorem ggX0_digest_X0_potAnswer : GoodIn wsX0_digest wsX0_potAnswer := goodIn_r _ [50, 11, 12, 51, 19, 20, 8, 21, 22, 23, 24, 52, 53, 54, 55, 4, 41, 42, 56, 29, 30, 31, 32, 18, 57, 58, 59, 60, 84, 85, 86, 87, 88, 89, 90, 91, 92, 93, 94, 95, 96, 97, 98] (by decide +kernel) (by decide +kernel)
set_option maxRecDepth 20000 in
theorem gX0_digest_X0_potAnswer : GoodIn wsX0_digest (wsV RX0 147 RX0 yX0_potAnswer wsX0_potAnswer) := goodIn_app (goodIn_of _ (by decide +kernel)) ggX0_digest_X0_potAnswer
set_option maxRecDepth 20000 in
theorem ggX0_digest_X0_dishAnswer : GoodIn wsX0_digest wsX0_dishAnswer := goodIn_r _ [64, 18, 4, 19, 20, 8, 21, 22, 23, 24, 65, 66, 67, 68, 41, 33, 34, 35, 36, 37, 38, 39, 40, 42, 43, 69, 70, 71, 72, 52, 53, 54, 55, 56, 29, 30, 31, 32, 73, 74, 75, 76, 84, 85, 86, 87, 88, 89, 90, 91, 92, 93, 94, 95, 96, 97, 98] (by decide +kernel) (by decide +kernel)
set_option maxRecDepth 20000 in
theorem gX0_digest_X0_dishAnswer : GoodIn wsX0_digest (wsV RX0 153 RX0 yX0_dishAnswer wsX0_dishAnswer) := goodIn_app (goodIn_of _ (by decide +kernel)) ggX0_digest_X0_dishAnswer
set_option maxRecDepth 20000 in
theorem ggX0_digest_X0_lineAnswer : GoodIn wsX0_digest wsX0_lineAnswer := goodIn_r _ [80, 41, 42, 56, 81, 82, 83, 10, 19, 20, 8, 21, 22, 23, 24, 84, 85, 86, 87, 88, 89, 90, 91, 92, 93, 94, 95, 96, 97, 98] (by decide +kernel) (by decide +kernel)
set_option maxRecDepth 20000 in
theorem gX0_digest_X0_lineAnswer : GoodIn wsX0_digest (wsV RX0 158 RX0 yX0_lineAnswer wsX0_lineAnswer) := goodIn_app (goodIn_of _ (by decide +kernel)) ggX0_digest_X0_lineAnswer
theorem dX0_digest_0 : decode cX0_digest 0 = .ok (.ldc2_w 197, 3) := by decide +kernel
theorem dX0_digest_3 : decode cX0_digest 3 = .ok (.lstore_n 1, 1) := by decide +kernel
theorem dX0_digest_4 : decode cX0_digest 4 = .ok (.iconst 0, 1) := by decide +kernel
theorem dX0_digest_5 : decode cX0_digest 5 = .ok (.istore_n 3, 1) := by decide +kernel
theorem dX0_digest_6 : decode cX0_digest 6 = .ok (.iload_n 3, 1) := by decide +kernel
theorem dX0_digest_7 : decode cX0_digest 7 = .ok (.bipush 11, 2) := by decide +kernel
theorem dX0_digest_9 : decode cX0_digest 9 = .ok (.if_icmp .ge 22, 3) := by decide +kernel
theorem dX0_digest_12 : decode cX0_digest 12 = .ok (.lload_n 1, 1) := by decide +kernel
theorem dX0_digest_13 : decode cX0_digest 13 = .ok (.ldc2_w 199, 3) := by decide +kernel
theorem dX0_digest_16 : decode cX0_digest 16 = .ok (.lmul, 1) := by decide +kernel
theorem dX0_digest_17 : decode cX0_digest 17 = .ok (.aload_n 0, 1) := by decide +kernel
theorem dX0_digest_18 : decode cX0_digest 18 = .ok (.iload_n 3, 1) := by decide +kernel
theorem dX0_digest_19 : decode cX0_digest 19 = .ok (.invokevirtual 163, 3) := by decide +kernel
theorem dX0_digest_22 : decode cX0_digest 22 = .ok (.i2l, 1) := by decide +kernel
theorem dX0_digest_23 : decode cX0_digest 23 = .ok (.ladd, 1) := by decide +kernel
theorem dX0_digest_24 : decode cX0_digest 24 = .ok (.lstore_n 1, 1) := by decide +kernel
theorem dX0_digest_25 : decode cX0_digest 25 = .ok (.iinc 3 1, 3) := by decide +kernel
theorem dX0_digest_28 : decode cX0_digest 28 = .ok (.goto (-22), 3) := by decide +kernel
theorem dX0_digest_31 : decode cX0_digest 31 = .ok (.iconst 0, 1) := by decide +kernel
theorem dX0_digest_32 : decode cX0_digest 32 = .ok (.istore_n 3, 1) := by decide +kernel
theorem dX0_digest_33 : decode cX0_digest 33 = .ok (.iload_n 3, 1) := by decide +kernel
theorem dX0_digest_34 : decode cX0_digest 34 = .ok (.bipush 8, 2) := by decide +kernel
theorem dX0_digest_36 : decode cX0_digest 36 = .ok (.if_icmp .ge 39, 3) := by decide +kernel
theorem dX0_digest_39 : decode cX0_digest 39 = .ok (.iconst 0, 1) := by decide +kernel
theorem dX0_digest_40 : decode cX0_digest 40 = .ok (.istore 4, 2) := by decide +kernel
theorem dX0_digest_42 : decode cX0_digest 42 = .ok (.iload 4, 2) := by decide +kernel
theorem dX0_digest_44 : decode cX0_digest 44 = .ok (.iconst 5, 1) := by decide +kernel
theorem dX0_digest_45 : decode cX0_digest 45 = .ok (.if_icmp .ge 24, 3) := by decide +kernel
theorem dX0_digest_48 : decode cX0_digest 48 = .ok (.lload_n 1, 1) := by decide +kernel
theorem dX0_digest_49 : decode cX0_digest 49 = .ok (.ldc2_w 199, 3) := by decide +kernel
theorem dX0_digest_52 : decode cX0_digest 52 = .ok (.lmul, 1) := by decide +kernel
theorem dX0_digest_53 : decode cX0_digest 53 = .ok (.aload_n 0, 1) := by decide +kernel
theorem dX0_digest_54 : decode cX0_digest 54 = .ok (.iload_n 3, 1) := by decide +kernel
theorem dX0_digest_55 : decode cX0_digest 55 = .ok (.iload 4, 2) := by decide +kernel
theorem dX0_digest_57 : decode cX0_digest 57 = .ok (.invokevirtual 147, 3) := by decide +kernel
theorem dX0_digest_60 : decode cX0_digest 60 = .ok (.i2l, 1) := by decide +kernel
theorem dX0_digest_61 : decode cX0_digest 61 = .ok (.ladd, 1) := by decide +kernel
theorem dX0_digest_62 : decode cX0_digest 62 = .ok (.lstore_n 1, 1) := by decide +kernel
theorem dX0_digest_63 : decode cX0_digest 63 = .ok (.iinc 4 1, 3) := by decide +kernel
theorem dX0_digest_66 : decode cX0_digest 66 = .ok (.goto (-24), 3) := by decide +kernel
theorem dX0_digest_69 : decode cX0_digest 69 = .ok (.iinc 3 1, 3) := by decide +kernel
theorem dX0_digest_72 : decode cX0_digest 72 = .ok (.goto (-39), 3) := by decide +kernel
theorem dX0_digest_75 : decode cX0_digest 75 = .ok (.iconst 0, 1) := by decide +kernel
theorem dX0_digest_76 : decode cX0_digest 76 = .ok (.istore_n 3, 1) := by decide +kernel
theorem dX0_digest_77 : decode cX0_digest 77 = .ok (.iload_n 3, 1) := by decide +kernel
theorem dX0_digest_78 : decode cX0_digest 78 = .ok (.aload_n 0, 1) := by decide +kernel
theorem dX0_digest_79 : decode cX0_digest 79 = .ok (.getfield 49, 3) := by decide +kernel
theorem dX0_digest_82 : decode cX0_digest 82 = .ok (.if_icmp .ge 39, 3) := by decide +kernel
