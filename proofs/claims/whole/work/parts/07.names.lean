set_option maxRecDepth 20000 in
theorem ggX1_holder_X1_isHeld : GoodIn wsX1_holder wsX1_isHeld := goodIn_r _ [6, 7, 8, 9, 10, 11, 12, 13, 5, 14, 15, 16, 17, 18, 19, 20, 21, 22, 23, 24, 25, 26, 27, 28, 29] (by decide +kernel) (by decide +kernel)
set_option maxRecDepth 20000 in
theorem gX1_holder_X1_isHeld : GoodIn wsX1_holder (wsV RX1 78 RX1 yX1_isHeld wsX1_isHeld) := goodIn_app (goodIn_of _ (by decide +kernel)) ggX1_holder_X1_isHeld
theorem dX1_holder_0 : decode cX1_holder 0 = .ok (.iconst 0, 1) := by decide +kernel
theorem dX1_holder_1 : decode cX1_holder 1 = .ok (.istore_n 2, 1) := by decide +kernel
theorem dX1_holder_2 : decode cX1_holder 2 = .ok (.iload_n 2, 1) := by decide +kernel
theorem dX1_holder_3 : decode cX1_holder 3 = .ok (.aload_n 0, 1) := by decide +kernel
theorem dX1_holder_4 : decode cX1_holder 4 = .ok (.getfield 3, 3) := by decide +kernel
theorem dX1_holder_7 : decode cX1_holder 7 = .ok (.getfield 68, 3) := by decide +kernel
theorem dX1_holder_10 : decode cX1_holder 10 = .ok (.if_icmp .ge 20, 3) := by decide +kernel
theorem dX1_holder_13 : decode cX1_holder 13 = .ok (.aload_n 0, 1) := by decide +kernel
theorem dX1_holder_14 : decode cX1_holder 14 = .ok (.iload_n 1, 1) := by decide +kernel
theorem dX1_holder_15 : decode cX1_holder 15 = .ok (.iload_n 2, 1) := by decide +kernel
theorem dX1_holder_16 : decode cX1_holder 16 = .ok (.invokevirtual 78, 3) := by decide +kernel
theorem dX1_holder_19 : decode cX1_holder 19 = .ok (.ifCond .eq 5, 3) := by decide +kernel
theorem dX1_holder_22 : decode cX1_holder 22 = .ok (.iload_n 2, 1) := by decide +kernel
theorem dX1_holder_23 : decode cX1_holder 23 = .ok (.ireturn, 1) := by decide +kernel
theorem dX1_holder_24 : decode cX1_holder 24 = .ok (.iinc 2 1, 3) := by decide +kernel
theorem dX1_holder_27 : decode cX1_holder 27 = .ok (.goto (-25), 3) := by decide +kernel
theorem dX1_holder_30 : decode cX1_holder 30 = .ok (.iconst (-1), 1) := by decide +kernel
theorem dX1_holder_31 : decode cX1_holder 31 = .ok (.ireturn, 1) := by decide +kernel
theorem dX1_latest_0 : decode cX1_latest 0 = .ok (.iconst (-1), 1) := by decide +kernel
theorem dX1_latest_1 : decode cX1_latest 1 = .ok (.istore_n 2, 1) := by decide +kernel
theorem dX1_latest_2 : decode cX1_latest 2 = .ok (.iconst 0, 1) := by decide +kernel
theorem dX1_latest_3 : decode cX1_latest 3 = .ok (.istore_n 3, 1) := by decide +kernel
theorem dX1_latest_4 : decode cX1_latest 4 = .ok (.iload_n 3, 1) := by decide +kernel
theorem dX1_latest_5 : decode cX1_latest 5 = .ok (.aload_n 0, 1) := by decide +kernel
theorem dX1_latest_6 : decode cX1_latest 6 = .ok (.getfield 49, 3) := by decide +kernel
theorem dX1_latest_9 : decode cX1_latest 9 = .ok (.if_icmp .ge 21, 3) := by decide +kernel
theorem dX1_latest_12 : decode cX1_latest 12 = .ok (.aload_n 0, 1) := by decide +kernel
theorem dX1_latest_13 : decode cX1_latest 13 = .ok (.getfield 31, 3) := by decide +kernel
theorem dX1_latest_16 : decode cX1_latest 16 = .ok (.iload_n 3, 1) := by decide +kernel
theorem dX1_latest_17 : decode cX1_latest 17 = .ok (.iaload, 1) := by decide +kernel
theorem dX1_latest_18 : decode cX1_latest 18 = .ok (.iload_n 1, 1) := by decide +kernel
theorem dX1_latest_19 : decode cX1_latest 19 = .ok (.if_icmp .ne 5, 3) := by decide +kernel
theorem dX1_latest_22 : decode cX1_latest 22 = .ok (.iload_n 3, 1) := by decide +kernel
theorem dX1_latest_23 : decode cX1_latest 23 = .ok (.istore_n 2, 1) := by decide +kernel
theorem dX1_latest_24 : decode cX1_latest 24 = .ok (.iinc 3 1, 3) := by decide +kernel
theorem dX1_latest_27 : decode cX1_latest 27 = .ok (.goto (-23), 3) := by decide +kernel
theorem dX1_latest_30 : decode cX1_latest 30 = .ok (.iload_n 2, 1) := by decide +kernel
theorem dX1_latest_31 : decode cX1_latest 31 = .ok (.ireturn, 1) := by decide +kernel
theorem dX1_chalk_0 : decode cX1_chalk 0 = .ok (.aload_n 0, 1) := by decide +kernel
theorem dX1_chalk_1 : decode cX1_chalk 1 = .ok (.getfield 25, 3) := by decide +kernel
theorem dX1_chalk_4 : decode cX1_chalk 4 = .ok (.aload_n 0, 1) := by decide +kernel
theorem dX1_chalk_5 : decode cX1_chalk 5 = .ok (.getfield 49, 3) := by decide +kernel
theorem dX1_chalk_8 : decode cX1_chalk 8 = .ok (.iload_n 1, 1) := by decide +kernel
theorem dX1_chalk_9 : decode cX1_chalk 9 = .ok (.iastore, 1) := by decide +kernel
theorem dX1_chalk_10 : decode cX1_chalk 10 = .ok (.aload_n 0, 1) := by decide +kernel
theorem dX1_chalk_11 : decode cX1_chalk 11 = .ok (.getfield 28, 3) := by decide +kernel
theorem dX1_chalk_14 : decode cX1_chalk 14 = .ok (.aload_n 0, 1) := by decide +kernel
theorem dX1_chalk_15 : decode cX1_chalk 15 = .ok (.getfield 49, 3) := by decide +kernel
theorem dX1_chalk_18 : decode cX1_chalk 18 = .ok (.iload_n 2, 1) := by decide +kernel
theorem dX1_chalk_19 : decode cX1_chalk 19 = .ok (.iastore, 1) := by decide +kernel
theorem dX1_chalk_20 : decode cX1_chalk 20 = .ok (.aload_n 0, 1) := by decide +kernel
theorem dX1_chalk_21 : decode cX1_chalk 21 = .ok (.getfield 31, 3) := by decide +kernel
theorem dX1_chalk_24 : decode cX1_chalk 24 = .ok (.aload_n 0, 1) := by decide +kernel
theorem dX1_chalk_25 : decode cX1_chalk 25 = .ok (.getfield 49, 3) := by decide +kernel
theorem dX1_chalk_28 : decode cX1_chalk 28 = .ok (.iconst (-1), 1) := by decide +kernel
theorem dX1_chalk_29 : decode cX1_chalk 29 = .ok (.iastore, 1) := by decide +kernel
theorem dX1_chalk_30 : decode cX1_chalk 30 = .ok (.aload_n 0, 1) := by decide +kernel
theorem dX1_chalk_31 : decode cX1_chalk 31 = .ok (.getfield 34, 3) := by decide +kernel
theorem dX1_chalk_34 : decode cX1_chalk 34 = .ok (.aload_n 0, 1) := by decide +kernel
theorem dX1_chalk_35 : decode cX1_chalk 35 = .ok (.getfield 49, 3) := by decide +kernel
theorem dX1_chalk_38 : decode cX1_chalk 38 = .ok (.iconst (-1), 1) := by decide +kernel
theorem dX1_chalk_39 : decode cX1_chalk 39 = .ok (.iastore, 1) := by decide +kernel
theorem dX1_chalk_40 : decode cX1_chalk 40 = .ok (.aload_n 0, 1) := by decide +kernel
theorem dX1_chalk_41 : decode cX1_chalk 41 = .ok (.getfield 37, 3) := by decide +kernel
theorem dX1_chalk_44 : decode cX1_chalk 44 = .ok (.aload_n 0, 1) := by decide +kernel
theorem dX1_chalk_45 : decode cX1_chalk 45 = .ok (.getfield 49, 3) := by decide +kernel
theorem dX1_chalk_48 : decode cX1_chalk 48 = .ok (.iconst (-1), 1) := by decide +kernel
theorem dX1_chalk_49 : decode cX1_chalk 49 = .ok (.iastore, 1) := by decide +kernel
theorem dX1_chalk_50 : decode cX1_chalk 50 = .ok (.aload_n 0, 1) := by decide +kernel
theorem dX1_chalk_51 : decode cX1_chalk 51 = .ok (.getfield 40, 3) := by decide +kernel
theorem dX1_chalk_54 : decode cX1_chalk 54 = .ok (.aload_n 0, 1) := by decide +kernel
theorem dX1_chalk_55 : decode cX1_chalk 55 = .ok (.getfield 49, 3) := by decide +kernel
theorem dX1_chalk_58 : decode cX1_chalk 58 = .ok (.iconst (-1), 1) := by decide +kernel
theorem dX1_chalk_59 : decode cX1_chalk 59 = .ok (.iastore, 1) := by decide +kernel
theorem dX1_chalk_60 : decode cX1_chalk 60 = .ok (.aload_n 0, 1) := by decide +kernel
theorem dX1_chalk_61 : decode cX1_chalk 61 = .ok (.dup, 1) := by decide +kernel
theorem dX1_chalk_62 : decode cX1_chalk 62 = .ok (.getfield 49, 3) := by decide +kernel
theorem dX1_chalk_65 : decode cX1_chalk 65 = .ok (.iconst 1, 1) := by decide +kernel
theorem dX1_chalk_66 : decode cX1_chalk 66 = .ok (.iadd, 1) := by decide +kernel
theorem dX1_chalk_67 : decode cX1_chalk 67 = .ok (.putfield 49, 3) := by decide +kernel
theorem dX1_chalk_70 : decode cX1_chalk 70 = .ok (.return_, 1) := by decide +kernel
set_option maxRecDepth 20000 in
theorem ggX1_chalk__X1_chalk : GoodIn wsX1_chalk_ wsX1_chalk := goodIn_r _ [11, 12, 2, 13, 1, 3, 5, 6, 14, 15, 16, 17, 18, 19, 20, 21, 22, 23, 24, 25, 26, 27, 28] (by decide +kernel) (by decide +kernel)
set_option maxRecDepth 20000 in
theorem gX1_chalk__X1_chalk : GoodIn wsX1_chalk_ (wsV RX1 81 RX1 yX1_chalk wsX1_chalk) := goodIn_app (goodIn_of _ (by decide +kernel)) ggX1_chalk__X1_chalk
theorem dX1_chalk__0 : decode cX1_chalk_ 0 = .ok (.aload_n 0, 1) := by decide +kernel
theorem dX1_chalk__1 : decode cX1_chalk_ 1 = .ok (.iload_n 1, 1) := by decide +kernel
theorem dX1_chalk__2 : decode cX1_chalk_ 2 = .ok (.iload_n 2, 1) := by decide +kernel
theorem dX1_chalk__3 : decode cX1_chalk_ 3 = .ok (.invokevirtual 81, 3) := by decide +kernel
theorem dX1_chalk__6 : decode cX1_chalk_ 6 = .ok (.aload_n 0, 1) := by decide +kernel
theorem dX1_chalk__7 : decode cX1_chalk_ 7 = .ok (.getfield 31, 3) := by decide +kernel
theorem dX1_chalk__10 : decode cX1_chalk_ 10 = .ok (.aload_n 0, 1) := by decide +kernel
theorem dX1_chalk__11 : decode cX1_chalk_ 11 = .ok (.getfield 49, 3) := by decide +kernel
theorem dX1_chalk__14 : decode cX1_chalk_ 14 = .ok (.iconst 1, 1) := by decide +kernel
theorem dX1_chalk__15 : decode cX1_chalk_ 15 = .ok (.isub, 1) := by decide +kernel
theorem dX1_chalk__16 : decode cX1_chalk_ 16 = .ok (.iload_n 3, 1) := by decide +kernel
theorem dX1_chalk__17 : decode cX1_chalk_ 17 = .ok (.iastore, 1) := by decide +kernel
theorem dX1_chalk__18 : decode cX1_chalk_ 18 = .ok (.aload_n 0, 1) := by decide +kernel
theorem dX1_chalk__19 : decode cX1_chalk_ 19 = .ok (.getfield 34, 3) := by decide +kernel
theorem dX1_chalk__22 : decode cX1_chalk_ 22 = .ok (.aload_n 0, 1) := by decide +kernel
theorem dX1_chalk__23 : decode cX1_chalk_ 23 = .ok (.getfield 49, 3) := by decide +kernel
theorem dX1_chalk__26 : decode cX1_chalk_ 26 = .ok (.iconst 1, 1) := by decide +kernel
theorem dX1_chalk__27 : decode cX1_chalk_ 27 = .ok (.isub, 1) := by decide +kernel
theorem dX1_chalk__28 : decode cX1_chalk_ 28 = .ok (.aload_n 0, 1) := by decide +kernel
theorem dX1_chalk__29 : decode cX1_chalk_ 29 = .ok (.getfield 15, 3) := by decide +kernel
theorem dX1_chalk__32 : decode cX1_chalk_ 32 = .ok (.iload_n 3, 1) := by decide +kernel
theorem dX1_chalk__33 : decode cX1_chalk_ 33 = .ok (.iaload, 1) := by decide +kernel
theorem dX1_chalk__34 : decode cX1_chalk_ 34 = .ok (.iastore, 1) := by decide +kernel
theorem dX1_chalk__35 : decode cX1_chalk_ 35 = .ok (.aload_n 0, 1) := by decide +kernel
theorem dX1_chalk__36 : decode cX1_chalk_ 36 = .ok (.getfield 37, 3) := by decide +kernel
theorem dX1_chalk__39 : decode cX1_chalk_ 39 = .ok (.aload_n 0, 1) := by decide +kernel
theorem dX1_chalk__40 : decode cX1_chalk_ 40 = .ok (.getfield 49, 3) := by decide +kernel
theorem dX1_chalk__43 : decode cX1_chalk_ 43 = .ok (.iconst 1, 1) := by decide +kernel
theorem dX1_chalk__44 : decode cX1_chalk_ 44 = .ok (.isub, 1) := by decide +kernel
theorem dX1_chalk__45 : decode cX1_chalk_ 45 = .ok (.iload 4, 2) := by decide +kernel
theorem dX1_chalk__47 : decode cX1_chalk_ 47 = .ok (.iastore, 1) := by decide +kernel
theorem dX1_chalk__48 : decode cX1_chalk_ 48 = .ok (.aload_n 0, 1) := by decide +kernel
theorem dX1_chalk__49 : decode cX1_chalk_ 49 = .ok (.getfield 40, 3) := by decide +kernel
theorem dX1_chalk__52 : decode cX1_chalk_ 52 = .ok (.aload_n 0, 1) := by decide +kernel
theorem dX1_chalk__53 : decode cX1_chalk_ 53 = .ok (.getfield 49, 3) := by decide +kernel
theorem dX1_chalk__56 : decode cX1_chalk_ 56 = .ok (.iconst 1, 1) := by decide +kernel
theorem dX1_chalk__57 : decode cX1_chalk_ 57 = .ok (.isub, 1) := by decide +kernel
theorem dX1_chalk__58 : decode cX1_chalk_ 58 = .ok (.iload 5, 2) := by decide +kernel
theorem dX1_chalk__60 : decode cX1_chalk_ 60 = .ok (.iastore, 1) := by decide +kernel
theorem dX1_chalk__61 : decode cX1_chalk_ 61 = .ok (.aload_n 0, 1) := by decide +kernel
theorem dX1_chalk__62 : decode cX1_chalk_ 62 = .ok (.getfield 15, 3) := by decide +kernel
theorem dX1_chalk__65 : decode cX1_chalk_ 65 = .ok (.iload_n 3, 1) := by decide +kernel
theorem dX1_chalk__66 : decode cX1_chalk_ 66 = .ok (.iload 4, 2) := by decide +kernel
theorem dX1_chalk__68 : decode cX1_chalk_ 68 = .ok (.iastore, 1) := by decide +kernel
theorem dX1_chalk__69 : decode cX1_chalk_ 69 = .ok (.return_, 1) := by decide +kernel
set_option maxRecDepth 20000 in
theorem ggX1_undo_X1_isKept : GoodIn wsX1_undo wsX1_isKept := goodIn_r _ [8, 9, 10, 11, 12, 13, 7, 14, 1, 15, 26, 27, 28, 29, 30, 31, 32, 33, 34, 35, 36, 37, 38, 39, 40] (by decide +kernel) (by decide +kernel)
set_option maxRecDepth 20000 in
theorem gX1_undo_X1_isKept : GoodIn wsX1_undo (wsV RX1 64 RX1 yX1_isKept wsX1_isKept) := goodIn_app (goodIn_of _ (by decide +kernel)) ggX1_undo_X1_isKept
set_option maxRecDepth 20000 in
theorem ggX1_undo_X1_chalk_ : GoodIn wsX1_undo wsX1_chalk_ := goodIn_r _ [19, 2, 1, 3, 20, 21, 15, 22, 23, 24, 7, 25, 9, 10, 26, 27, 28, 29, 30, 31, 32, 33, 34, 35, 36, 37, 38, 39, 40] (by decide +kernel) (by decide +kernel)
set_option maxRecDepth 20000 in
theorem gX1_undo_X1_chalk_ : GoodIn wsX1_undo (wsV RX1 85 RX1 yX1_chalk_ wsX1_chalk_) := goodIn_app (goodIn_of _ (by decide +kernel)) ggX1_undo_X1_chalk_
set_option maxRecDepth 20000 in
theorem ggX1_undo_X1_chalk : GoodIn wsX1_undo wsX1_chalk := goodIn_r _ [25, 9, 1, 10, 2, 3, 21, 15, 26, 27, 28, 29, 30, 31, 32, 33, 34, 35, 36, 37, 38, 39, 40] (by decide +kernel) (by decide +kernel)
set_option maxRecDepth 20000 in
theorem gX1_undo_X1_chalk : GoodIn wsX1_undo (wsV RX1 81 RX1 yX1_chalk wsX1_chalk) := goodIn_app (goodIn_of _ (by decide +kernel)) ggX1_undo_X1_chalk
theorem dX1_undo_0 : decode cX1_undo 0 = .ok (.iconst 0, 1) := by decide +kernel
theorem dX1_undo_1 : decode cX1_undo 1 = .ok (.istore_n 2, 1) := by decide +kernel
theorem dX1_undo_2 : decode cX1_undo 2 = .ok (.aload_n 0, 1) := by decide +kernel
theorem dX1_undo_3 : decode cX1_undo 3 = .ok (.getfield 49, 3) := by decide +kernel
theorem dX1_undo_6 : decode cX1_undo 6 = .ok (.iconst 1, 1) := by decide +kernel
theorem dX1_undo_7 : decode cX1_undo 7 = .ok (.isub, 1) := by decide +kernel
theorem dX1_undo_8 : decode cX1_undo 8 = .ok (.istore_n 3, 1) := by decide +kernel
theorem dX1_undo_9 : decode cX1_undo 9 = .ok (.iload_n 3, 1) := by decide +kernel
theorem dX1_undo_10 : decode cX1_undo 10 = .ok (.ifCond .lt 43, 3) := by decide +kernel
theorem dX1_undo_13 : decode cX1_undo 13 = .ok (.aload_n 0, 1) := by decide +kernel
theorem dX1_undo_14 : decode cX1_undo 14 = .ok (.iload_n 3, 1) := by decide +kernel
theorem dX1_undo_15 : decode cX1_undo 15 = .ok (.iload_n 1, 1) := by decide +kernel
theorem dX1_undo_16 : decode cX1_undo 16 = .ok (.invokevirtual 64, 3) := by decide +kernel
theorem dX1_undo_19 : decode cX1_undo 19 = .ok (.ifCond .ne 6, 3) := by decide +kernel
theorem dX1_undo_22 : decode cX1_undo 22 = .ok (.goto 25, 3) := by decide +kernel
theorem dX1_undo_25 : decode cX1_undo 25 = .ok (.aload_n 0, 1) := by decide +kernel
theorem dX1_undo_26 : decode cX1_undo 26 = .ok (.iload_n 1, 1) := by decide +kernel
theorem dX1_undo_27 : decode cX1_undo 27 = .ok (.iconst 3, 1) := by decide +kernel
theorem dX1_undo_28 : decode cX1_undo 28 = .ok (.aload_n 0, 1) := by decide +kernel
theorem dX1_undo_29 : decode cX1_undo 29 = .ok (.getfield 31, 3) := by decide +kernel
theorem dX1_undo_32 : decode cX1_undo 32 = .ok (.iload_n 3, 1) := by decide +kernel
theorem dX1_undo_33 : decode cX1_undo 33 = .ok (.iaload, 1) := by decide +kernel
theorem dX1_undo_34 : decode cX1_undo 34 = .ok (.aload_n 0, 1) := by decide +kernel
theorem dX1_undo_35 : decode cX1_undo 35 = .ok (.getfield 34, 3) := by decide +kernel
theorem dX1_undo_38 : decode cX1_undo 38 = .ok (.iload_n 3, 1) := by decide +kernel
theorem dX1_undo_39 : decode cX1_undo 39 = .ok (.iaload, 1) := by decide +kernel
theorem dX1_undo_40 : decode cX1_undo 40 = .ok (.iload_n 3, 1) := by decide +kernel
theorem dX1_undo_41 : decode cX1_undo 41 = .ok (.invokevirtual 85, 3) := by decide +kernel
theorem dX1_undo_44 : decode cX1_undo 44 = .ok (.iinc 2 1, 3) := by decide +kernel
theorem dX1_undo_47 : decode cX1_undo 47 = .ok (.iinc 3 (-1), 3) := by decide +kernel
theorem dX1_undo_50 : decode cX1_undo 50 = .ok (.goto (-41), 3) := by decide +kernel
theorem dX1_undo_53 : decode cX1_undo 53 = .ok (.aload_n 0, 1) := by decide +kernel
theorem dX1_undo_54 : decode cX1_undo 54 = .ok (.iload_n 1, 1) := by decide +kernel
theorem dX1_undo_55 : decode cX1_undo 55 = .ok (.iconst 4, 1) := by decide +kernel
theorem dX1_undo_56 : decode cX1_undo 56 = .ok (.invokevirtual 81, 3) := by decide +kernel
theorem dX1_undo_59 : decode cX1_undo 59 = .ok (.iload_n 2, 1) := by decide +kernel
theorem dX1_undo_60 : decode cX1_undo 60 = .ok (.ireturn, 1) := by decide +kernel
theorem dX1_dries_0 : decode cX1_dries 0 = .ok (.aload_n 0, 1) := by decide +kernel
theorem dX1_dries_1 : decode cX1_dries 1 = .ok (.getfield 53, 3) := by decide +kernel
theorem dX1_dries_4 : decode cX1_dries 4 = .ok (.istore_n 2, 1) := by decide +kernel
theorem dX1_dries_5 : decode cX1_dries 5 = .ok (.aload_n 0, 1) := by decide +kernel
theorem dX1_dries_6 : decode cX1_dries 6 = .ok (.aload_n 0, 1) := by decide +kernel
theorem dX1_dries_7 : decode cX1_dries 7 = .ok (.getfield 53, 3) := by decide +kernel
theorem dX1_dries_10 : decode cX1_dries 10 = .ok (.iload_n 1, 1) := by decide +kernel
theorem dX1_dries_11 : decode cX1_dries 11 = .ok (.iconst 1, 1) := by decide +kernel
theorem dX1_dries_12 : decode cX1_dries 12 = .ok (.iadd, 1) := by decide +kernel
theorem dX1_dries_13 : decode cX1_dries 13 = .ok (.invokestatic 88, 3) := by decide +kernel
theorem dX1_dries_16 : decode cX1_dries 16 = .ok (.putfield 53, 3) := by decide +kernel
theorem dX1_dries_19 : decode cX1_dries 19 = .ok (.aload_n 0, 1) := by decide +kernel
theorem dX1_dries_20 : decode cX1_dries 20 = .ok (.getfield 53, 3) := by decide +kernel
theorem dX1_dries_23 : decode cX1_dries 23 = .ok (.iload_n 2, 1) := by decide +kernel
theorem dX1_dries_24 : decode cX1_dries 24 = .ok (.isub, 1) := by decide +kernel
theorem dX1_dries_25 : decode cX1_dries 25 = .ok (.ireturn, 1) := by decide +kernel
set_option maxRecDepth 20000 in
theorem ggX1_fall_X1_is : GoodIn wsX1_fall wsX1_is := goodIn_r _ [16, 2, 17, 18, 41, 42, 43, 44, 45, 46, 47, 48, 49, 50, 51, 52, 53, 54, 55] (by decide +kernel) (by decide +kernel)
set_option maxRecDepth 20000 in
theorem gX1_fall_X1_is : GoodIn wsX1_fall (wsV RX1 71 RX1 yX1_is wsX1_is) := goodIn_app (goodIn_of _ (by decide +kernel)) ggX1_fall_X1_is
set_option maxRecDepth 20000 in
theorem ggX1_fall_X1_undo : GoodIn wsX1_fall wsX1_undo := goodIn_r _ [22, 2, 8, 23, 24, 25, 26, 15, 27, 17, 18, 28, 29, 30, 31, 32, 33, 34, 35, 36, 6, 10, 37, 38, 39, 40, 41, 42, 43, 44, 45, 46, 47, 48, 49, 50, 51, 52, 53, 54, 55] (by decide +kernel) (by decide +kernel)
set_option maxRecDepth 20000 in
theorem gX1_fall_X1_undo : GoodIn wsX1_fall (wsV RX1 103 RX1 yX1_undo wsX1_undo) := goodIn_app (goodIn_of _ (by decide +kernel)) ggX1_fall_X1_undo
theorem dX1_fall_0 : decode cX1_fall 0 = .ok (.aload_n 0, 1) := by decide +kernel
theorem dX1_fall_1 : decode cX1_fall 1 = .ok (.aload_n 0, 1) := by decide +kernel
theorem dX1_fall_2 : decode cX1_fall 2 = .ok (.getfield 53, 3) := by decide +kernel
theorem dX1_fall_5 : decode cX1_fall 5 = .ok (.putfield 49, 3) := by decide +kernel
theorem dX1_fall_8 : decode cX1_fall 8 = .ok (.aload_n 0, 1) := by decide +kernel
theorem dX1_fall_9 : decode cX1_fall 9 = .ok (.iconst 0, 1) := by decide +kernel
theorem dX1_fall_10 : decode cX1_fall 10 = .ok (.putfield 94, 3) := by decide +kernel
theorem dX1_fall_13 : decode cX1_fall 13 = .ok (.aload_n 0, 1) := by decide +kernel
theorem dX1_fall_14 : decode cX1_fall 14 = .ok (.iconst (-1), 1) := by decide +kernel
theorem dX1_fall_15 : decode cX1_fall 15 = .ok (.putfield 97, 3) := by decide +kernel
theorem dX1_fall_18 : decode cX1_fall 18 = .ok (.aload_n 0, 1) := by decide +kernel
theorem dX1_fall_19 : decode cX1_fall 19 = .ok (.iconst 0, 1) := by decide +kernel
theorem dX1_fall_20 : decode cX1_fall 20 = .ok (.putfield 100, 3) := by decide +kernel
theorem dX1_fall_23 : decode cX1_fall 23 = .ok (.iconst 0, 1) := by decide +kernel
theorem dX1_fall_24 : decode cX1_fall 24 = .ok (.istore_n 1, 1) := by decide +kernel
theorem dX1_fall_25 : decode cX1_fall 25 = .ok (.iload_n 1, 1) := by decide +kernel
theorem dX1_fall_26 : decode cX1_fall 26 = .ok (.bipush 8, 2) := by decide +kernel
theorem dX1_fall_28 : decode cX1_fall 28 = .ok (.if_icmp .ge 21, 3) := by decide +kernel
theorem dX1_fall_31 : decode cX1_fall 31 = .ok (.aload_n 0, 1) := by decide +kernel
theorem dX1_fall_32 : decode cX1_fall 32 = .ok (.getfield 15, 3) := by decide +kernel
theorem dX1_fall_35 : decode cX1_fall 35 = .ok (.iload_n 1, 1) := by decide +kernel
theorem dX1_fall_36 : decode cX1_fall 36 = .ok (.aload_n 0, 1) := by decide +kernel
theorem dX1_fall_37 : decode cX1_fall 37 = .ok (.getfield 19, 3) := by decide +kernel
theorem dX1_fall_40 : decode cX1_fall 40 = .ok (.iload_n 1, 1) := by decide +kernel
theorem dX1_fall_41 : decode cX1_fall 41 = .ok (.iaload, 1) := by decide +kernel
theorem dX1_fall_42 : decode cX1_fall 42 = .ok (.iastore, 1) := by decide +kernel
theorem dX1_fall_43 : decode cX1_fall 43 = .ok (.iinc 1 1, 3) := by decide +kernel
theorem dX1_fall_46 : decode cX1_fall 46 = .ok (.goto (-21), 3) := by decide +kernel
theorem dX1_fall_49 : decode cX1_fall 49 = .ok (.iconst 0, 1) := by decide +kernel
theorem dX1_fall_50 : decode cX1_fall 50 = .ok (.istore_n 1, 1) := by decide +kernel
theorem dX1_fall_51 : decode cX1_fall 51 = .ok (.iload_n 1, 1) := by decide +kernel
theorem dX1_fall_52 : decode cX1_fall 52 = .ok (.aload_n 0, 1) := by decide +kernel
theorem dX1_fall_53 : decode cX1_fall 53 = .ok (.getfield 49, 3) := by decide +kernel
theorem dX1_fall_56 : decode cX1_fall 56 = .ok (.if_icmp .ge 77, 3) := by decide +kernel
theorem dX1_fall_59 : decode cX1_fall 59 = .ok (.aload_n 0, 1) := by decide +kernel
theorem dX1_fall_60 : decode cX1_fall 60 = .ok (.getfield 31, 3) := by decide +kernel
theorem dX1_fall_63 : decode cX1_fall 63 = .ok (.iload_n 1, 1) := by decide +kernel
theorem dX1_fall_64 : decode cX1_fall 64 = .ok (.iaload, 1) := by decide +kernel
theorem dX1_fall_65 : decode cX1_fall 65 = .ok (.iconst (-1), 1) := by decide +kernel
theorem dX1_fall_66 : decode cX1_fall 66 = .ok (.if_icmp .eq 61, 3) := by decide +kernel
theorem dX1_fall_69 : decode cX1_fall 69 = .ok (.iload_n 1, 1) := by decide +kernel
theorem dX1_fall_70 : decode cX1_fall 70 = .ok (.aload_n 0, 1) := by decide +kernel
theorem dX1_fall_71 : decode cX1_fall 71 = .ok (.getfield 22, 3) := by decide +kernel
theorem dX1_fall_74 : decode cX1_fall 74 = .ok (.aload_n 0, 1) := by decide +kernel
theorem dX1_fall_75 : decode cX1_fall 75 = .ok (.getfield 31, 3) := by decide +kernel
theorem dX1_fall_78 : decode cX1_fall 78 = .ok (.iload_n 1, 1) := by decide +kernel
theorem dX1_fall_79 : decode cX1_fall 79 = .ok (.iaload, 1) := by decide +kernel
theorem dX1_fall_80 : decode cX1_fall 80 = .ok (.iaload, 1) := by decide +kernel
theorem dX1_fall_81 : decode cX1_fall 81 = .ok (.if_icmp .gt 6, 3) := by decide +kernel
theorem dX1_fall_84 : decode cX1_fall 84 = .ok (.goto 43, 3) := by decide +kernel
theorem dX1_fall_87 : decode cX1_fall 87 = .ok (.aload_n 0, 1) := by decide +kernel
theorem dX1_fall_88 : decode cX1_fall 88 = .ok (.getfield 15, 3) := by decide +kernel
theorem dX1_fall_91 : decode cX1_fall 91 = .ok (.aload_n 0, 1) := by decide +kernel
theorem dX1_fall_92 : decode cX1_fall 92 = .ok (.getfield 31, 3) := by decide +kernel
theorem dX1_fall_95 : decode cX1_fall 95 = .ok (.iload_n 1, 1) := by decide +kernel
theorem dX1_fall_96 : decode cX1_fall 96 = .ok (.iaload, 1) := by decide +kernel
theorem dX1_fall_97 : decode cX1_fall 97 = .ok (.aload_n 0, 1) := by decide +kernel
theorem dX1_fall_98 : decode cX1_fall 98 = .ok (.getfield 37, 3) := by decide +kernel
theorem dX1_fall_101 : decode cX1_fall 101 = .ok (.iload_n 1, 1) := by decide +kernel
theorem dX1_fall_102 : decode cX1_fall 102 = .ok (.iaload, 1) := by decide +kernel
theorem dX1_fall_103 : decode cX1_fall 103 = .ok (.iastore, 1) := by decide +kernel
theorem dX1_fall_104 : decode cX1_fall 104 = .ok (.aload_n 0, 1) := by decide +kernel
theorem dX1_fall_105 : decode cX1_fall 105 = .ok (.dup, 1) := by decide +kernel
theorem dX1_fall_106 : decode cX1_fall 106 = .ok (.getfield 94, 3) := by decide +kernel
theorem dX1_fall_109 : decode cX1_fall 109 = .ok (.iconst 1, 1) := by decide +kernel
theorem dX1_fall_110 : decode cX1_fall 110 = .ok (.iadd, 1) := by decide +kernel
theorem dX1_fall_111 : decode cX1_fall 111 = .ok (.putfield 94, 3) := by decide +kernel
theorem dX1_fall_114 : decode cX1_fall 114 = .ok (.aload_n 0, 1) := by decide +kernel
theorem dX1_fall_115 : decode cX1_fall 115 = .ok (.getfield 97, 3) := by decide +kernel
theorem dX1_fall_118 : decode cX1_fall 118 = .ok (.iconst (-1), 1) := by decide +kernel
theorem dX1_fall_119 : decode cX1_fall 119 = .ok (.if_icmp .ne 8, 3) := by decide +kernel
theorem dX1_fall_122 : decode cX1_fall 122 = .ok (.aload_n 0, 1) := by decide +kernel
theorem dX1_fall_123 : decode cX1_fall 123 = .ok (.iload_n 1, 1) := by decide +kernel
theorem dX1_fall_124 : decode cX1_fall 124 = .ok (.putfield 97, 3) := by decide +kernel
theorem dX1_fall_127 : decode cX1_fall 127 = .ok (.iinc 1 1, 3) := by decide +kernel
theorem dX1_fall_130 : decode cX1_fall 130 = .ok (.goto (-79), 3) := by decide +kernel
theorem dX1_fall_133 : decode cX1_fall 133 = .ok (.aload_n 0, 1) := by decide +kernel
theorem dX1_fall_134 : decode cX1_fall 134 = .ok (.getfield 3, 3) := by decide +kernel
theorem dX1_fall_137 : decode cX1_fall 137 = .ok (.getfield 68, 3) := by decide +kernel
theorem dX1_fall_140 : decode cX1_fall 140 = .ok (.iconst 1, 1) := by decide +kernel
theorem dX1_fall_141 : decode cX1_fall 141 = .ok (.isub, 1) := by decide +kernel
theorem dX1_fall_142 : decode cX1_fall 142 = .ok (.istore_n 1, 1) := by decide +kernel
theorem dX1_fall_143 : decode cX1_fall 143 = .ok (.iload_n 1, 1) := by decide +kernel
theorem dX1_fall_144 : decode cX1_fall 144 = .ok (.ifCond .lt 31, 3) := by decide +kernel
theorem dX1_fall_147 : decode cX1_fall 147 = .ok (.aload_n 0, 1) := by decide +kernel
theorem dX1_fall_148 : decode cX1_fall 148 = .ok (.iload_n 1, 1) := by decide +kernel
theorem dX1_fall_149 : decode cX1_fall 149 = .ok (.invokevirtual 71, 3) := by decide +kernel
theorem dX1_fall_152 : decode cX1_fall 152 = .ok (.ifCond .ne 17, 3) := by decide +kernel
theorem dX1_fall_155 : decode cX1_fall 155 = .ok (.aload_n 0, 1) := by decide +kernel
theorem dX1_fall_156 : decode cX1_fall 156 = .ok (.dup, 1) := by decide +kernel
theorem dX1_fall_157 : decode cX1_fall 157 = .ok (.getfield 100, 3) := by decide +kernel
theorem dX1_fall_160 : decode cX1_fall 160 = .ok (.aload_n 0, 1) := by decide +kernel
theorem dX1_fall_161 : decode cX1_fall 161 = .ok (.iload_n 1, 1) := by decide +kernel
theorem dX1_fall_162 : decode cX1_fall 162 = .ok (.invokevirtual 103, 3) := by decide +kernel
theorem dX1_fall_165 : decode cX1_fall 165 = .ok (.iadd, 1) := by decide +kernel
theorem dX1_fall_166 : decode cX1_fall 166 = .ok (.putfield 100, 3) := by decide +kernel
theorem dX1_fall_169 : decode cX1_fall 169 = .ok (.iinc 1 (-1), 3) := by decide +kernel
theorem dX1_fall_172 : decode cX1_fall 172 = .ok (.goto (-29), 3) := by decide +kernel
theorem dX1_fall_175 : decode cX1_fall 175 = .ok (.return_, 1) := by decide +kernel
set_option maxRecDepth 20000 in
theorem ggX1_are_X1_is : GoodIn wsX1_are wsX1_is := goodIn_r _ [6, 7, 8, 9, 10, 11, 12, 13, 14, 15, 16, 17, 18, 19, 20, 21, 22, 23, 24] (by decide +kernel) (by decide +kernel)
set_option maxRecDepth 20000 in
theorem gX1_are_X1_is : GoodIn wsX1_are (wsV RX1 71 RX1 yX1_is wsX1_is) := goodIn_app (goodIn_of _ (by decide +kernel)) ggX1_are_X1_is
theorem dX1_are_0 : decode cX1_are 0 = .ok (.iconst 0, 1) := by decide +kernel
theorem dX1_are_1 : decode cX1_are 1 = .ok (.istore_n 2, 1) := by decide +kernel
theorem dX1_are_2 : decode cX1_are 2 = .ok (.iconst 0, 1) := by decide +kernel
theorem dX1_are_3 : decode cX1_are 3 = .ok (.istore_n 3, 1) := by decide +kernel
theorem dX1_are_4 : decode cX1_are 4 = .ok (.iload_n 3, 1) := by decide +kernel
theorem dX1_are_5 : decode cX1_are 5 = .ok (.aload_n 0, 1) := by decide +kernel
theorem dX1_are_6 : decode cX1_are 6 = .ok (.getfield 3, 3) := by decide +kernel
theorem dX1_are_9 : decode cX1_are 9 = .ok (.getfield 68, 3) := by decide +kernel
theorem dX1_are_12 : decode cX1_are 12 = .ok (.if_icmp .ge 26, 3) := by decide +kernel
theorem dX1_are_15 : decode cX1_are 15 = .ok (.iload_n 2, 1) := by decide +kernel
theorem dX1_are_16 : decode cX1_are 16 = .ok (.aload_n 0, 1) := by decide +kernel
theorem dX1_are_17 : decode cX1_are 17 = .ok (.iload_n 3, 1) := by decide +kernel
theorem dX1_are_18 : decode cX1_are 18 = .ok (.invokevirtual 71, 3) := by decide +kernel
theorem dX1_are_21 : decode cX1_are 21 = .ok (.iload_n 1, 1) := by decide +kernel
theorem dX1_are_22 : decode cX1_are 22 = .ok (.if_icmp .ne 7, 3) := by decide +kernel
theorem dX1_are_25 : decode cX1_are 25 = .ok (.iconst 1, 1) := by decide +kernel
theorem dX1_are_26 : decode cX1_are 26 = .ok (.goto 4, 3) := by decide +kernel
theorem dX1_are_29 : decode cX1_are 29 = .ok (.iconst 0, 1) := by decide +kernel
theorem dX1_are_30 : decode cX1_are 30 = .ok (.iadd, 1) := by decide +kernel
theorem dX1_are_31 : decode cX1_are 31 = .ok (.istore_n 2, 1) := by decide +kernel
theorem dX1_are_32 : decode cX1_are 32 = .ok (.iinc 3 1, 3) := by decide +kernel
theorem dX1_are_35 : decode cX1_are 35 = .ok (.goto (-31), 3) := by decide +kernel
theorem dX1_are_38 : decode cX1_are 38 = .ok (.iload_n 2, 1) := by decide +kernel
theorem dX1_are_39 : decode cX1_are 39 = .ok (.ireturn, 1) := by decide +kernel
theorem dX1_sum_0 : decode cX1_sum 0 = .ok (.iconst 0, 1) := by decide +kernel
theorem dX1_sum_1 : decode cX1_sum 1 = .ok (.istore_n 2, 1) := by decide +kernel
theorem dX1_sum_2 : decode cX1_sum 2 = .ok (.aload_n 1, 1) := by decide +kernel
theorem dX1_sum_3 : decode cX1_sum 3 = .ok (.astore_n 3, 1) := by decide +kernel
theorem dX1_sum_4 : decode cX1_sum 4 = .ok (.aload_n 3, 1) := by decide +kernel
theorem dX1_sum_5 : decode cX1_sum 5 = .ok (.arraylength, 1) := by decide +kernel
theorem dX1_sum_6 : decode cX1_sum 6 = .ok (.istore 4, 2) := by decide +kernel
theorem dX1_sum_8 : decode cX1_sum 8 = .ok (.iconst 0, 1) := by decide +kernel
theorem dX1_sum_9 : decode cX1_sum 9 = .ok (.istore 5, 2) := by decide +kernel
theorem dX1_sum_11 : decode cX1_sum 11 = .ok (.iload 5, 2) := by decide +kernel
theorem dX1_sum_13 : decode cX1_sum 13 = .ok (.iload 4, 2) := by decide +kernel
theorem dX1_sum_15 : decode cX1_sum 15 = .ok (.if_icmp .ge 20, 3) := by decide +kernel
theorem dX1_sum_18 : decode cX1_sum 18 = .ok (.aload_n 3, 1) := by decide +kernel
theorem dX1_sum_19 : decode cX1_sum 19 = .ok (.iload 5, 2) := by decide +kernel
theorem dX1_sum_21 : decode cX1_sum 21 = .ok (.iaload, 1) := by decide +kernel
theorem dX1_sum_22 : decode cX1_sum 22 = .ok (.istore 6, 2) := by decide +kernel
theorem dX1_sum_24 : decode cX1_sum 24 = .ok (.iload_n 2, 1) := by decide +kernel
theorem dX1_sum_25 : decode cX1_sum 25 = .ok (.iload 6, 2) := by decide +kernel
theorem dX1_sum_27 : decode cX1_sum 27 = .ok (.iadd, 1) := by decide +kernel
theorem dX1_sum_28 : decode cX1_sum 28 = .ok (.istore_n 2, 1) := by decide +kernel
theorem dX1_sum_29 : decode cX1_sum 29 = .ok (.iinc 5 1, 3) := by decide +kernel
theorem dX1_sum_32 : decode cX1_sum 32 = .ok (.goto (-21), 3) := by decide +kernel
theorem dX1_sum_35 : decode cX1_sum 35 = .ok (.iload_n 2, 1) := by decide +kernel
theorem dX1_sum_36 : decode cX1_sum 36 = .ok (.ireturn, 1) := by decide +kernel
set_option maxRecDepth 20000 in
theorem ggX2_init_X1_init : GoodIn wsX2_init wsX1_init := goodIn_r _ [11, 12, 13, 2, 3, 14, 15, 16, 17, 18, 19, 20, 21, 22, 23, 24, 25, 26, 27, 28, 29, 30, 31, 32, 33, 34, 35, 36, 37, 38] (by decide +kernel) (by decide +kernel)
set_option maxRecDepth 20000 in
theorem gX2_init_X1_init : GoodIn wsX2_init (wsX1_init) := ggX2_init_X1_init
theorem dX2_init_0 : decode cX2_init 0 = .ok (.aload_n 0, 1) := by decide +kernel
theorem dX2_init_1 : decode cX2_init 1 = .ok (.invokespecial 1, 3) := by decide +kernel
theorem dX2_init_4 : decode cX2_init 4 = .ok (.aload_n 0, 1) := by decide +kernel
theorem dX2_init_5 : decode cX2_init 5 = .ok (.new 7, 3) := by decide +kernel
theorem dX2_init_8 : decode cX2_init 8 = .ok (.dup, 1) := by decide +kernel
theorem dX2_init_9 : decode cX2_init 9 = .ok (.aload_n 0, 1) := by decide +kernel
theorem dX2_init_10 : decode cX2_init 10 = .ok (.invokespecial 9, 3) := by decide +kernel
theorem dX2_init_13 : decode cX2_init 13 = .ok (.putfield 12, 3) := by decide +kernel
theorem dX2_init_16 : decode cX2_init 16 = .ok (.aload_n 0, 1) := by decide +kernel
theorem dX2_init_17 : decode cX2_init 17 = .ok (.new 7, 3) := by decide +kernel
theorem dX2_init_20 : decode cX2_init 20 = .ok (.dup, 1) := by decide +kernel
theorem dX2_init_21 : decode cX2_init 21 = .ok (.aload_n 0, 1) := by decide +kernel
theorem dX2_init_22 : decode cX2_init 22 = .ok (.invokespecial 9, 3) := by decide +kernel
theorem dX2_init_25 : decode cX2_init 25 = .ok (.putfield 18, 3) := by decide +kernel
theorem dX2_init_28 : decode cX2_init 28 = .ok (.return_, 1) := by decide +kernel
theorem dX2_thrown_0 : decode cX2_thrown 0 = .ok (.aload_n 0, 1) := by decide +kernel
theorem dX2_thrown_1 : decode cX2_thrown 1 = .ok (.getfield 21, 3) := by decide +kernel
theorem dX2_thrown_4 : decode cX2_thrown 4 = .ok (.ireturn, 1) := by decide +kernel
theorem dX2_no_0 : decode cX2_no 0 = .ok (.aload_n 0, 1) := by decide +kernel
theorem dX2_no_1 : decode cX2_no 1 = .ok (.iload_n 1, 1) := by decide +kernel
theorem dX2_no_2 : decode cX2_no 2 = .ok (.putfield 21, 3) := by decide +kernel
theorem dX2_no_5 : decode cX2_no 5 = .ok (.iconst 0, 1) := by decide +kernel
theorem dX2_no_6 : decode cX2_no 6 = .ok (.ireturn, 1) := by decide +kernel
theorem dX2_isIn_0 : decode cX2_isIn 0 = .ok (.iload_n 0, 1) := by decide +kernel
theorem dX2_isIn_1 : decode cX2_isIn 1 = .ok (.iload_n 1, 1) := by decide +kernel
theorem dX2_isIn_2 : decode cX2_isIn 2 = .ok (.if_icmp .lt 12, 3) := by decide +kernel
theorem dX2_isIn_5 : decode cX2_isIn 5 = .ok (.iload_n 0, 1) := by decide +kernel
theorem dX2_isIn_6 : decode cX2_isIn 6 = .ok (.iload_n 2, 1) := by decide +kernel
theorem dX2_isIn_7 : decode cX2_isIn 7 = .ok (.if_icmp .gt 7, 3) := by decide +kernel
theorem dX2_isIn_10 : decode cX2_isIn 10 = .ok (.iconst 1, 1) := by decide +kernel
theorem dX2_isIn_11 : decode cX2_isIn 11 = .ok (.goto 4, 3) := by decide +kernel
theorem dX2_isIn_14 : decode cX2_isIn 14 = .ok (.iconst 0, 1) := by decide +kernel
theorem dX2_isIn_15 : decode cX2_isIn 15 = .ok (.ireturn, 1) := by decide +kernel
set_option maxRecDepth 20000 in
theorem ggX2_isPot_X2_isIn : GoodIn wsX2_isPot wsX2_isIn := goodIn_r _ [4] (by decide +kernel) (by decide +kernel)
set_option maxRecDepth 20000 in
theorem gX2_isPot_X2_isIn : GoodIn wsX2_isPot (va_wsS RX2 25 yX2_isIn wsX2_isIn) := goodIn_app (goodIn_of _ (by decide +kernel)) ggX2_isPot_X2_isIn
theorem dX2_isPot_0 : decode cX2_isPot 0 = .ok (.iload_n 0, 1) := by decide +kernel
theorem dX2_isPot_1 : decode cX2_isPot 1 = .ok (.iconst 0, 1) := by decide +kernel
theorem dX2_isPot_2 : decode cX2_isPot 2 = .ok (.bipush 7, 2) := by decide +kernel
theorem dX2_isPot_4 : decode cX2_isPot 4 = .ok (.invokestatic 25, 3) := by decide +kernel
theorem dX2_isPot_7 : decode cX2_isPot 7 = .ok (.ireturn, 1) := by decide +kernel
set_option maxRecDepth 20000 in
theorem ggX2_isDish_X2_isIn : GoodIn wsX2_isDish wsX2_isIn := goodIn_r _ [5] (by decide +kernel) (by decide +kernel)
set_option maxRecDepth 20000 in
theorem gX2_isDish_X2_isIn : GoodIn wsX2_isDish (va_wsS RX2 25 yX2_isIn wsX2_isIn) := goodIn_app (goodIn_of _ (by decide +kernel)) ggX2_isDish_X2_isIn
theorem dX2_isDish_0 : decode cX2_isDish 0 = .ok (.iload_n 1, 1) := by decide +kernel
theorem dX2_isDish_1 : decode cX2_isDish 1 = .ok (.iconst 0, 1) := by decide +kernel
theorem dX2_isDish_2 : decode cX2_isDish 2 = .ok (.aload_n 0, 1) := by decide +kernel
theorem dX2_isDish_3 : decode cX2_isDish 3 = .ok (.getfield 29, 3) := by decide +kernel
theorem dX2_isDish_6 : decode cX2_isDish 6 = .ok (.iconst 1, 1) := by decide +kernel
theorem dX2_isDish_7 : decode cX2_isDish 7 = .ok (.isub, 1) := by decide +kernel
theorem dX2_isDish_8 : decode cX2_isDish 8 = .ok (.invokestatic 25, 3) := by decide +kernel
theorem dX2_isDish_11 : decode cX2_isDish 11 = .ok (.ireturn, 1) := by decide +kernel
set_option maxRecDepth 20000 in
theorem ggX2_begin_X1_room : GoodIn wsX2_begin wsX1_room := goodIn_r _ [8, 9, 10, 11, 12, 13, 7, 14, 15, 16, 17, 18, 19, 20, 21, 22, 23, 24, 25, 26, 27, 28, 29, 47, 48, 49, 50, 51, 52, 53, 54, 55, 56, 57, 58, 59, 60, 61, 42, 43, 44, 45, 46] (by decide +kernel) (by decide +kernel)
set_option maxRecDepth 20000 in
theorem gX2_begin_X1_room : GoodIn wsX2_begin (wsV RX2 32 RX1 yX1_room wsX1_room) := goodIn_app (goodIn_of _ (by decide +kernel)) ggX2_begin_X1_room
set_option maxRecDepth 20000 in
theorem ggX2_begin_X2_no : GoodIn wsX2_begin wsX2_no := goodIn_r _ [34, 1, 42, 43, 44, 45, 46] (by decide +kernel) (by decide +kernel)
set_option maxRecDepth 20000 in
theorem gX2_begin_X2_no : GoodIn wsX2_begin (wsV RX2 36 RX2 yX2_no wsX2_no) := goodIn_app (goodIn_of _ (by decide +kernel)) ggX2_begin_X2_no
set_option maxRecDepth 20000 in
theorem ggX2_begin_X1_chalk : GoodIn wsX2_begin wsX1_chalk := goodIn_r _ [38, 15, 9, 16, 39, 40, 41, 29, 47, 48, 49, 50, 51, 52, 53, 54, 55, 56, 57, 58, 59, 60, 61] (by decide +kernel) (by decide +kernel)
set_option maxRecDepth 20000 in
theorem gX2_begin_X1_chalk : GoodIn wsX2_begin (wsV RX2 40 RX1 yX1_chalk wsX1_chalk) := goodIn_app (goodIn_of _ (by decide +kernel)) ggX2_begin_X1_chalk
theorem dX2_begin_0 : decode cX2_begin 0 = .ok (.aload_n 0, 1) := by decide +kernel
theorem dX2_begin_1 : decode cX2_begin 1 = .ok (.iconst 0, 1) := by decide +kernel
theorem dX2_begin_2 : decode cX2_begin 2 = .ok (.putfield 21, 3) := by decide +kernel
theorem dX2_begin_5 : decode cX2_begin 5 = .ok (.aload_n 0, 1) := by decide +kernel
theorem dX2_begin_6 : decode cX2_begin 6 = .ok (.getfield 29, 3) := by decide +kernel
theorem dX2_begin_9 : decode cX2_begin 9 = .ok (.bipush 20, 2) := by decide +kernel
theorem dX2_begin_11 : decode cX2_begin 11 = .ok (.if_icmp .eq 14, 3) := by decide +kernel
theorem dX2_begin_14 : decode cX2_begin 14 = .ok (.aload_n 0, 1) := by decide +kernel
theorem dX2_begin_15 : decode cX2_begin 15 = .ok (.getfield 12, 3) := by decide +kernel
theorem dX2_begin_18 : decode cX2_begin 18 = .ok (.invokevirtual 32, 3) := by decide +kernel
theorem dX2_begin_21 : decode cX2_begin 21 = .ok (.iconst 2, 1) := by decide +kernel
theorem dX2_begin_22 : decode cX2_begin 22 = .ok (.if_icmp .ge 9, 3) := by decide +kernel
theorem dX2_begin_25 : decode cX2_begin 25 = .ok (.aload_n 0, 1) := by decide +kernel
theorem dX2_begin_26 : decode cX2_begin 26 = .ok (.iconst 1, 1) := by decide +kernel
theorem dX2_begin_27 : decode cX2_begin 27 = .ok (.invokevirtual 36, 3) := by decide +kernel
theorem dX2_begin_30 : decode cX2_begin 30 = .ok (.ireturn, 1) := by decide +kernel
theorem dX2_begin_31 : decode cX2_begin 31 = .ok (.aload_n 0, 1) := by decide +kernel
theorem dX2_begin_32 : decode cX2_begin 32 = .ok (.getfield 12, 3) := by decide +kernel
theorem dX2_begin_35 : decode cX2_begin 35 = .ok (.aload_n 0, 1) := by decide +kernel
theorem dX2_begin_36 : decode cX2_begin 36 = .ok (.getfield 29, 3) := by decide +kernel
theorem dX2_begin_39 : decode cX2_begin 39 = .ok (.iconst 0, 1) := by decide +kernel
theorem dX2_begin_40 : decode cX2_begin 40 = .ok (.invokevirtual 40, 3) := by decide +kernel
theorem dX2_begin_43 : decode cX2_begin 43 = .ok (.aload_n 0, 1) := by decide +kernel
theorem dX2_begin_44 : decode cX2_begin 44 = .ok (.dup, 1) := by decide +kernel
theorem dX2_begin_45 : decode cX2_begin 45 = .ok (.getfield 29, 3) := by decide +kernel
theorem dX2_begin_48 : decode cX2_begin 48 = .ok (.iconst 1, 1) := by decide +kernel
theorem dX2_begin_49 : decode cX2_begin 49 = .ok (.iadd, 1) := by decide +kernel
theorem dX2_begin_50 : decode cX2_begin 50 = .ok (.putfield 29, 3) := by decide +kernel
theorem dX2_begin_53 : decode cX2_begin 53 = .ok (.aload_n 0, 1) := by decide +kernel
theorem dX2_begin_54 : decode cX2_begin 54 = .ok (.getfield 29, 3) := by decide +kernel
theorem dX2_begin_57 : decode cX2_begin 57 = .ok (.iconst 1, 1) := by decide +kernel
theorem dX2_begin_58 : decode cX2_begin 58 = .ok (.isub, 1) := by decide +kernel
theorem dX2_begin_59 : decode cX2_begin 59 = .ok (.ireturn, 1) := by decide +kernel
set_option maxRecDepth 20000 in
theorem ggX2_cook_X2_isDish : GoodIn wsX2_cook wsX2_isDish := goodIn_r _ [7, 8, 9, 10, 6, 11, 66, 67, 68, 69, 70] (by decide +kernel) (by decide +kernel)
set_option maxRecDepth 20000 in
theorem gX2_cook_X2_isDish : GoodIn wsX2_cook (wsV RX2 44 RX2 yX2_isDish wsX2_isDish) := goodIn_app (goodIn_of _ (by decide +kernel)) ggX2_cook_X2_isDish
set_option maxRecDepth 20000 in
theorem ggX2_cook_X2_isPot : GoodIn wsX2_cook wsX2_isPot := goodIn_r _ [14, 9, 10, 6, 11] (by decide +kernel) (by decide +kernel)
set_option maxRecDepth 20000 in
theorem gX2_cook_X2_isPot : GoodIn wsX2_cook (va_wsS RX2 48 yX2_isPot wsX2_isPot) := goodIn_app (goodIn_of _ (by decide +kernel)) ggX2_cook_X2_isPot
set_option maxRecDepth 20000 in
theorem ggX2_cook_X2_no : GoodIn wsX2_cook wsX2_no := goodIn_r _ [18, 1, 66, 67, 68, 69, 70] (by decide +kernel) (by decide +kernel)
set_option maxRecDepth 20000 in
theorem gX2_cook_X2_no : GoodIn wsX2_cook (wsV RX2 36 RX2 yX2_no wsX2_no) := goodIn_app (goodIn_of _ (by decide +kernel)) ggX2_cook_X2_no
set_option maxRecDepth 20000 in
theorem ggX2_cook_X2_isIn : GoodIn wsX2_cook wsX2_isIn := goodIn_r _ [11] (by decide +kernel) (by decide +kernel)
set_option maxRecDepth 20000 in
theorem gX2_cook_X2_isIn : GoodIn wsX2_cook (va_wsS RX2 25 yX2_isIn wsX2_isIn) := goodIn_app (goodIn_of _ (by decide +kernel)) ggX2_cook_X2_isIn
set_option maxRecDepth 20000 in
theorem ggX2_cook_X1_holder : GoodIn wsX2_cook wsX1_holder := goodIn_r _ [23, 24, 25, 26, 27, 22, 28, 29, 30, 31, 32, 33, 34, 35, 36, 71, 72, 73, 74, 75, 76, 77, 78, 79, 80, 81, 82, 83, 84, 85, 66, 67, 68, 69, 70] (by decide +kernel) (by decide +kernel)
set_option maxRecDepth 20000 in
theorem gX2_cook_X1_holder : GoodIn wsX2_cook (wsV RX2 51 RX1 yX1_holder wsX1_holder) := goodIn_app (goodIn_of _ (by decide +kernel)) ggX2_cook_X1_holder
set_option maxRecDepth 20000 in
theorem ggX2_cook_X1_is : GoodIn wsX2_cook wsX1_is := goodIn_r _ [36, 29, 30, 31, 71, 72, 73, 74, 75, 76, 77, 78, 79, 80, 81, 82, 83, 84, 85] (by decide +kernel) (by decide +kernel)
set_option maxRecDepth 20000 in
theorem gX2_cook_X1_is : GoodIn wsX2_cook (wsV RX2 54 RX1 yX1_is wsX1_is) := goodIn_app (goodIn_of _ (by decide +kernel)) ggX2_cook_X1_is
set_option maxRecDepth 20000 in
theorem ggX2_cook_X1_room : GoodIn wsX2_cook wsX1_room := goodIn_r _ [41, 29, 24, 33, 34, 35, 22, 36, 30, 31, 42, 43, 44, 45, 46, 47, 48, 49, 50, 51, 52, 53, 54, 71, 72, 73, 74, 75, 76, 77, 78, 79, 80, 81, 82, 83, 84, 85, 66, 67, 68, 69, 70] (by decide +kernel) (by decide +kernel)
set_option maxRecDepth 20000 in
theorem gX2_cook_X1_room : GoodIn wsX2_cook (wsV RX2 32 RX1 yX1_room wsX1_room) := goodIn_app (goodIn_of _ (by decide +kernel)) ggX2_cook_X1_room
set_option maxRecDepth 20000 in
theorem ggX2_cook_X1_chalk_ : GoodIn wsX2_cook wsX1_chalk_ := goodIn_r _ [58, 32, 29, 59, 60, 61, 54, 62, 63, 64, 22, 65, 30, 31, 71, 72, 73, 74, 75, 76, 77, 78, 79, 80, 81, 82, 83, 84, 85] (by decide +kernel) (by decide +kernel)
set_option maxRecDepth 20000 in
theorem gX2_cook_X1_chalk_ : GoodIn wsX2_cook (wsV RX2 61 RX1 yX1_chalk_ wsX1_chalk_) := goodIn_app (goodIn_of _ (by decide +kernel)) ggX2_cook_X1_chalk_
theorem dX2_cook_0 : decode cX2_cook 0 = .ok (.aload_n 0, 1) := by decide +kernel
theorem dX2_cook_1 : decode cX2_cook 1 = .ok (.iconst 0, 1) := by decide +kernel
theorem dX2_cook_2 : decode cX2_cook 2 = .ok (.putfield 21, 3) := by decide +kernel
theorem dX2_cook_5 : decode cX2_cook 5 = .ok (.aload_n 0, 1) := by decide +kernel
theorem dX2_cook_6 : decode cX2_cook 6 = .ok (.iload_n 1, 1) := by decide +kernel
theorem dX2_cook_7 : decode cX2_cook 7 = .ok (.invokevirtual 44, 3) := by decide +kernel
theorem dX2_cook_10 : decode cX2_cook 10 = .ok (.ifCond .eq 10, 3) := by decide +kernel
theorem dX2_cook_13 : decode cX2_cook 13 = .ok (.iload_n 2, 1) := by decide +kernel
theorem dX2_cook_14 : decode cX2_cook 14 = .ok (.invokestatic 48, 3) := by decide +kernel
theorem dX2_cook_17 : decode cX2_cook 17 = .ok (.ifCond .ne 9, 3) := by decide +kernel
theorem dX2_cook_20 : decode cX2_cook 20 = .ok (.aload_n 0, 1) := by decide +kernel
theorem dX2_cook_21 : decode cX2_cook 21 = .ok (.iconst 1, 1) := by decide +kernel
theorem dX2_cook_22 : decode cX2_cook 22 = .ok (.invokevirtual 36, 3) := by decide +kernel
theorem dX2_cook_25 : decode cX2_cook 25 = .ok (.ireturn, 1) := by decide +kernel
theorem dX2_cook_26 : decode cX2_cook 26 = .ok (.iload_n 3, 1) := by decide +kernel
theorem dX2_cook_27 : decode cX2_cook 27 = .ok (.iconst 0, 1) := by decide +kernel
theorem dX2_cook_28 : decode cX2_cook 28 = .ok (.sipush 999, 3) := by decide +kernel
theorem dX2_cook_31 : decode cX2_cook 31 = .ok (.invokestatic 25, 3) := by decide +kernel
theorem dX2_cook_34 : decode cX2_cook 34 = .ok (.ifCond .ne 9, 3) := by decide +kernel
theorem dX2_cook_37 : decode cX2_cook 37 = .ok (.aload_n 0, 1) := by decide +kernel
theorem dX2_cook_38 : decode cX2_cook 38 = .ok (.iconst 2, 1) := by decide +kernel
theorem dX2_cook_39 : decode cX2_cook 39 = .ok (.invokevirtual 36, 3) := by decide +kernel
theorem dX2_cook_42 : decode cX2_cook 42 = .ok (.ireturn, 1) := by decide +kernel
theorem dX2_cook_43 : decode cX2_cook 43 = .ok (.aload_n 0, 1) := by decide +kernel
theorem dX2_cook_44 : decode cX2_cook 44 = .ok (.getfield 12, 3) := by decide +kernel
theorem dX2_cook_47 : decode cX2_cook 47 = .ok (.iload_n 2, 1) := by decide +kernel
theorem dX2_cook_48 : decode cX2_cook 48 = .ok (.invokevirtual 51, 3) := by decide +kernel
theorem dX2_cook_51 : decode cX2_cook 51 = .ok (.istore 4, 2) := by decide +kernel
theorem dX2_cook_53 : decode cX2_cook 53 = .ok (.aload_n 0, 1) := by decide +kernel
theorem dX2_cook_54 : decode cX2_cook 54 = .ok (.getfield 12, 3) := by decide +kernel
theorem dX2_cook_57 : decode cX2_cook 57 = .ok (.iload_n 1, 1) := by decide +kernel
theorem dX2_cook_58 : decode cX2_cook 58 = .ok (.invokevirtual 54, 3) := by decide +kernel
theorem dX2_cook_61 : decode cX2_cook 61 = .ok (.ifCond .ne 26, 3) := by decide +kernel
theorem dX2_cook_64 : decode cX2_cook 64 = .ok (.iload 4, 2) := by decide +kernel
theorem dX2_cook_66 : decode cX2_cook 66 = .ok (.iconst (-1), 1) := by decide +kernel
theorem dX2_cook_67 : decode cX2_cook 67 = .ok (.if_icmp .eq 9, 3) := by decide +kernel
theorem dX2_cook_70 : decode cX2_cook 70 = .ok (.iload 4, 2) := by decide +kernel
theorem dX2_cook_72 : decode cX2_cook 72 = .ok (.iload_n 1, 1) := by decide +kernel
theorem dX2_cook_73 : decode cX2_cook 73 = .ok (.if_icmp .ne 14, 3) := by decide +kernel
theorem dX2_cook_76 : decode cX2_cook 76 = .ok (.aload_n 0, 1) := by decide +kernel
theorem dX2_cook_77 : decode cX2_cook 77 = .ok (.getfield 12, 3) := by decide +kernel
theorem dX2_cook_80 : decode cX2_cook 80 = .ok (.invokevirtual 32, 3) := by decide +kernel
theorem dX2_cook_83 : decode cX2_cook 83 = .ok (.iconst 2, 1) := by decide +kernel
theorem dX2_cook_84 : decode cX2_cook 84 = .ok (.if_icmp .ge 9, 3) := by decide +kernel
theorem dX2_cook_87 : decode cX2_cook 87 = .ok (.aload_n 0, 1) := by decide +kernel
theorem dX2_cook_88 : decode cX2_cook 88 = .ok (.iconst 3, 1) := by decide +kernel
theorem dX2_cook_89 : decode cX2_cook 89 = .ok (.invokevirtual 36, 3) := by decide +kernel
theorem dX2_cook_92 : decode cX2_cook 92 = .ok (.ireturn, 1) := by decide +kernel
theorem dX2_cook_93 : decode cX2_cook 93 = .ok (.aload_n 0, 1) := by decide +kernel
theorem dX2_cook_94 : decode cX2_cook 94 = .ok (.getfield 12, 3) := by decide +kernel
theorem dX2_cook_97 : decode cX2_cook 97 = .ok (.getfield 57, 3) := by decide +kernel
theorem dX2_cook_100 : decode cX2_cook 100 = .ok (.iload_n 2, 1) := by decide +kernel
theorem dX2_cook_101 : decode cX2_cook 101 = .ok (.iaload, 1) := by decide +kernel
theorem dX2_cook_102 : decode cX2_cook 102 = .ok (.istore 5, 2) := by decide +kernel
theorem dX2_cook_104 : decode cX2_cook 104 = .ok (.aload_n 0, 1) := by decide +kernel
theorem dX2_cook_105 : decode cX2_cook 105 = .ok (.getfield 12, 3) := by decide +kernel
theorem dX2_cook_108 : decode cX2_cook 108 = .ok (.iload_n 1, 1) := by decide +kernel
theorem dX2_cook_109 : decode cX2_cook 109 = .ok (.iconst 1, 1) := by decide +kernel
theorem dX2_cook_110 : decode cX2_cook 110 = .ok (.iload_n 2, 1) := by decide +kernel
theorem dX2_cook_111 : decode cX2_cook 111 = .ok (.iload_n 3, 1) := by decide +kernel
theorem dX2_cook_112 : decode cX2_cook 112 = .ok (.iconst (-1), 1) := by decide +kernel
theorem dX2_cook_113 : decode cX2_cook 113 = .ok (.invokevirtual 61, 3) := by decide +kernel
theorem dX2_cook_116 : decode cX2_cook 116 = .ok (.iload 5, 2) := by decide +kernel
theorem dX2_cook_118 : decode cX2_cook 118 = .ok (.ireturn, 1) := by decide +kernel
set_option maxRecDepth 20000 in
theorem ggX2_finish_X2_isDish : GoodIn wsX2_finish wsX2_isDish := goodIn_r _ [7, 8, 9, 10, 6, 11, 41, 42, 43, 44, 45] (by decide +kernel) (by decide +kernel)
set_option maxRecDepth 20000 in
theorem gX2_finish_X2_isDish : GoodIn wsX2_finish (wsV RX2 44 RX2 yX2_isDish wsX2_isDish) := goodIn_app (goodIn_of _ (by decide +kernel)) ggX2_finish_X2_isDish
set_option maxRecDepth 20000 in
theorem ggX2_finish_X2_no : GoodIn wsX2_finish wsX2_no := goodIn_r _ [15, 1, 41, 42, 43, 44, 45] (by decide +kernel) (by decide +kernel)
set_option maxRecDepth 20000 in
theorem gX2_finish_X2_no : GoodIn wsX2_finish (wsV RX2 36 RX2 yX2_no wsX2_no) := goodIn_app (goodIn_of _ (by decide +kernel)) ggX2_finish_X2_no
set_option maxRecDepth 20000 in
theorem ggX2_finish_X1_is : GoodIn wsX2_finish wsX1_is := goodIn_r _ [20, 21, 22, 23, 46, 47, 48, 49, 50, 51, 52, 53, 54, 55, 56, 57, 58, 59, 60] (by decide +kernel) (by decide +kernel)
set_option maxRecDepth 20000 in
theorem gX2_finish_X1_is : GoodIn wsX2_finish (wsV RX2 54 RX1 yX1_is wsX1_is) := goodIn_app (goodIn_of _ (by decide +kernel)) ggX2_finish_X1_is
set_option maxRecDepth 20000 in
theorem ggX2_finish_X1_chalk : GoodIn wsX2_finish wsX1_chalk := goodIn_r _ [27, 22, 21, 23, 28, 29, 30, 31, 46, 47, 48, 49, 50, 51, 52, 53, 54, 55, 56, 57, 58, 59, 60] (by decide +kernel) (by decide +kernel)
set_option maxRecDepth 20000 in
theorem gX2_finish_X1_chalk : GoodIn wsX2_finish (wsV RX2 40 RX1 yX1_chalk wsX1_chalk) := goodIn_app (goodIn_of _ (by decide +kernel)) ggX2_finish_X1_chalk
set_option maxRecDepth 20000 in
theorem ggX2_finish_X1_dries : GoodIn wsX2_finish wsX1_dries := goodIn_r _ [35, 36, 37, 38, 39, 40, 46, 47, 48, 49, 50, 51, 52, 53, 54, 55, 56, 57, 58, 59, 60] (by decide +kernel) (by decide +kernel)
set_option maxRecDepth 20000 in
theorem gX2_finish_X1_dries : GoodIn wsX2_finish (wsV RX2 67 RX1 yX1_dries wsX1_dries) := goodIn_app (goodIn_of _ (by decide +kernel)) ggX2_finish_X1_dries
theorem dX2_finish_0 : decode cX2_finish 0 = .ok (.aload_n 0, 1) := by decide +kernel
theorem dX2_finish_1 : decode cX2_finish 1 = .ok (.iconst 0, 1) := by decide +kernel
theorem dX2_finish_2 : decode cX2_finish 2 = .ok (.putfield 21, 3) := by decide +kernel
theorem dX2_finish_5 : decode cX2_finish 5 = .ok (.aload_n 0, 1) := by decide +kernel
theorem dX2_finish_6 : decode cX2_finish 6 = .ok (.iload_n 1, 1) := by decide +kernel
theorem dX2_finish_7 : decode cX2_finish 7 = .ok (.invokevirtual 44, 3) := by decide +kernel
theorem dX2_finish_10 : decode cX2_finish 10 = .ok (.ifCond .ne 9, 3) := by decide +kernel
theorem dX2_finish_13 : decode cX2_finish 13 = .ok (.aload_n 0, 1) := by decide +kernel
theorem dX2_finish_14 : decode cX2_finish 14 = .ok (.iconst 1, 1) := by decide +kernel
theorem dX2_finish_15 : decode cX2_finish 15 = .ok (.invokevirtual 36, 3) := by decide +kernel
theorem dX2_finish_18 : decode cX2_finish 18 = .ok (.ireturn, 1) := by decide +kernel
theorem dX2_finish_19 : decode cX2_finish 19 = .ok (.aload_n 0, 1) := by decide +kernel
theorem dX2_finish_20 : decode cX2_finish 20 = .ok (.getfield 12, 3) := by decide +kernel
theorem dX2_finish_23 : decode cX2_finish 23 = .ok (.iload_n 1, 1) := by decide +kernel
theorem dX2_finish_24 : decode cX2_finish 24 = .ok (.invokevirtual 54, 3) := by decide +kernel
theorem dX2_finish_27 : decode cX2_finish 27 = .ok (.ifCond .eq 9, 3) := by decide +kernel
theorem dX2_finish_30 : decode cX2_finish 30 = .ok (.aload_n 0, 1) := by decide +kernel
theorem dX2_finish_31 : decode cX2_finish 31 = .ok (.iconst 2, 1) := by decide +kernel
theorem dX2_finish_32 : decode cX2_finish 32 = .ok (.invokevirtual 36, 3) := by decide +kernel
theorem dX2_finish_35 : decode cX2_finish 35 = .ok (.ireturn, 1) := by decide +kernel
theorem dX2_finish_36 : decode cX2_finish 36 = .ok (.aload_n 0, 1) := by decide +kernel
theorem dX2_finish_37 : decode cX2_finish 37 = .ok (.getfield 12, 3) := by decide +kernel
theorem dX2_finish_40 : decode cX2_finish 40 = .ok (.iload_n 1, 1) := by decide +kernel
theorem dX2_finish_41 : decode cX2_finish 41 = .ok (.iconst 2, 1) := by decide +kernel
theorem dX2_finish_42 : decode cX2_finish 42 = .ok (.invokevirtual 40, 3) := by decide +kernel
theorem dX2_finish_45 : decode cX2_finish 45 = .ok (.aload_n 0, 1) := by decide +kernel
theorem dX2_finish_46 : decode cX2_finish 46 = .ok (.getfield 12, 3) := by decide +kernel
theorem dX2_finish_49 : decode cX2_finish 49 = .ok (.aload_n 0, 1) := by decide +kernel
theorem dX2_finish_50 : decode cX2_finish 50 = .ok (.getfield 12, 3) := by decide +kernel
theorem dX2_finish_53 : decode cX2_finish 53 = .ok (.getfield 64, 3) := by decide +kernel
theorem dX2_finish_56 : decode cX2_finish 56 = .ok (.iconst 1, 1) := by decide +kernel
theorem dX2_finish_57 : decode cX2_finish 57 = .ok (.isub, 1) := by decide +kernel
theorem dX2_finish_58 : decode cX2_finish 58 = .ok (.invokevirtual 67, 3) := by decide +kernel
theorem dX2_finish_61 : decode cX2_finish 61 = .ok (.ireturn, 1) := by decide +kernel
set_option maxRecDepth 20000 in
theorem ggX2_drop_X2_isDish : GoodIn wsX2_drop wsX2_isDish := goodIn_r _ [7, 8, 9, 10, 6, 11, 49, 50, 51, 52, 53] (by decide +kernel) (by decide +kernel)
set_option maxRecDepth 20000 in
theorem gX2_drop_X2_isDish : GoodIn wsX2_drop (wsV RX2 44 RX2 yX2_isDish wsX2_isDish) := goodIn_app (goodIn_of _ (by decide +kernel)) ggX2_drop_X2_isDish
set_option maxRecDepth 20000 in
theorem ggX2_drop_X2_no : GoodIn wsX2_drop wsX2_no := goodIn_r _ [15, 1, 49, 50, 51, 52, 53] (by decide +kernel) (by decide +kernel)
set_option maxRecDepth 20000 in
theorem gX2_drop_X2_no : GoodIn wsX2_drop (wsV RX2 36 RX2 yX2_no wsX2_no) := goodIn_app (goodIn_of _ (by decide +kernel)) ggX2_drop_X2_no
set_option maxRecDepth 20000 in
theorem ggX2_drop_X1_is : GoodIn wsX2_drop wsX1_is := goodIn_r _ [20, 21, 22, 23, 54, 55, 56, 57, 58, 59, 60, 61, 62, 63, 64, 65, 66, 67, 68] (by decide +kernel) (by decide +kernel)
set_option maxRecDepth 20000 in
theorem gX2_drop_X1_is : GoodIn wsX2_drop (wsV RX2 54 RX1 yX1_is wsX1_is) := goodIn_app (goodIn_of _ (by decide +kernel)) ggX2_drop_X1_is
set_option maxRecDepth 20000 in
theorem ggX2_drop_X1_undo : GoodIn wsX2_drop wsX1_undo := goodIn_r _ [27, 21, 28, 29, 30, 31, 32, 19, 33, 22, 23, 34, 35, 36, 37, 38, 39, 40, 41, 42, 43, 44, 45, 46, 47, 48, 54, 55, 56, 57, 58, 59, 60, 61, 62, 63, 64, 65, 66, 67, 68] (by decide +kernel) (by decide +kernel)
set_option maxRecDepth 20000 in
theorem gX2_drop_X1_undo : GoodIn wsX2_drop (wsV RX2 70 RX1 yX1_undo wsX1_undo) := goodIn_app (goodIn_of _ (by decide +kernel)) ggX2_drop_X1_undo
theorem dX2_drop_0 : decode cX2_drop 0 = .ok (.aload_n 0, 1) := by decide +kernel
theorem dX2_drop_1 : decode cX2_drop 1 = .ok (.iconst 0, 1) := by decide +kernel
theorem dX2_drop_2 : decode cX2_drop 2 = .ok (.putfield 21, 3) := by decide +kernel
theorem dX2_drop_5 : decode cX2_drop 5 = .ok (.aload_n 0, 1) := by decide +kernel
theorem dX2_drop_6 : decode cX2_drop 6 = .ok (.iload_n 1, 1) := by decide +kernel
theorem dX2_drop_7 : decode cX2_drop 7 = .ok (.invokevirtual 44, 3) := by decide +kernel
theorem dX2_drop_10 : decode cX2_drop 10 = .ok (.ifCond .ne 9, 3) := by decide +kernel
theorem dX2_drop_13 : decode cX2_drop 13 = .ok (.aload_n 0, 1) := by decide +kernel
theorem dX2_drop_14 : decode cX2_drop 14 = .ok (.iconst 1, 1) := by decide +kernel
theorem dX2_drop_15 : decode cX2_drop 15 = .ok (.invokevirtual 36, 3) := by decide +kernel
theorem dX2_drop_18 : decode cX2_drop 18 = .ok (.ireturn, 1) := by decide +kernel
theorem dX2_drop_19 : decode cX2_drop 19 = .ok (.aload_n 0, 1) := by decide +kernel
theorem dX2_drop_20 : decode cX2_drop 20 = .ok (.getfield 12, 3) := by decide +kernel
theorem dX2_drop_23 : decode cX2_drop 23 = .ok (.iload_n 1, 1) := by decide +kernel
theorem dX2_drop_24 : decode cX2_drop 24 = .ok (.invokevirtual 54, 3) := by decide +kernel
theorem dX2_drop_27 : decode cX2_drop 27 = .ok (.ifCond .ne 14, 3) := by decide +kernel
theorem dX2_drop_30 : decode cX2_drop 30 = .ok (.aload_n 0, 1) := by decide +kernel
theorem dX2_drop_31 : decode cX2_drop 31 = .ok (.getfield 12, 3) := by decide +kernel
theorem dX2_drop_34 : decode cX2_drop 34 = .ok (.iload_n 1, 1) := by decide +kernel
theorem dX2_drop_35 : decode cX2_drop 35 = .ok (.invokevirtual 70, 3) := by decide +kernel
theorem dX2_drop_38 : decode cX2_drop 38 = .ok (.goto 8, 3) := by decide +kernel
theorem dX2_drop_41 : decode cX2_drop 41 = .ok (.aload_n 0, 1) := by decide +kernel
theorem dX2_drop_42 : decode cX2_drop 42 = .ok (.iconst 2, 1) := by decide +kernel
theorem dX2_drop_43 : decode cX2_drop 43 = .ok (.invokevirtual 36, 3) := by decide +kernel
theorem dX2_drop_46 : decode cX2_drop 46 = .ok (.ireturn, 1) := by decide +kernel
set_option maxRecDepth 20000 in
theorem ggX2_shelve_X2_isPot : GoodIn wsX2_shelve wsX2_isPot := goodIn_r _ [6, 7, 8, 5, 9] (by decide +kernel) (by decide +kernel)
set_option maxRecDepth 20000 in
theorem gX2_shelve_X2_isPot : GoodIn wsX2_shelve (va_wsS RX2 48 yX2_isPot wsX2_isPot) := goodIn_app (goodIn_of _ (by decide +kernel)) ggX2_shelve_X2_isPot
set_option maxRecDepth 20000 in
theorem ggX2_shelve_X2_no : GoodIn wsX2_shelve wsX2_no := goodIn_r _ [13, 1, 30, 31, 32, 33, 34] (by decide +kernel) (by decide +kernel)
set_option maxRecDepth 20000 in
theorem gX2_shelve_X2_no : GoodIn wsX2_shelve (wsV RX2 36 RX2 yX2_no wsX2_no) := goodIn_app (goodIn_of _ (by decide +kernel)) ggX2_shelve_X2_no
set_option maxRecDepth 20000 in
theorem ggX2_shelve_X1_latest : GoodIn wsX2_shelve wsX1_latest := goodIn_r _ [18, 19, 20, 35, 36, 37, 38, 39, 40, 41, 42, 43, 44, 45, 46, 47, 48, 49] (by decide +kernel) (by decide +kernel)
set_option maxRecDepth 20000 in
theorem gX2_shelve_X1_latest : GoodIn wsX2_shelve (wsV RX2 73 RX1 yX1_latest wsX1_latest) := goodIn_app (goodIn_of _ (by decide +kernel)) ggX2_shelve_X1_latest
set_option maxRecDepth 20000 in
theorem ggX2_shelve_X1_dries : GoodIn wsX2_shelve wsX1_dries := goodIn_r _ [24, 25, 26, 27, 28, 29, 35, 36, 37, 38, 39, 40, 41, 42, 43, 44, 45, 46, 47, 48, 49] (by decide +kernel) (by decide +kernel)
set_option maxRecDepth 20000 in
theorem gX2_shelve_X1_dries : GoodIn wsX2_shelve (wsV RX2 67 RX1 yX1_dries wsX1_dries) := goodIn_app (goodIn_of _ (by decide +kernel)) ggX2_shelve_X1_dries
theorem dX2_shelve_0 : decode cX2_shelve 0 = .ok (.aload_n 0, 1) := by decide +kernel
theorem dX2_shelve_1 : decode cX2_shelve 1 = .ok (.iconst 0, 1) := by decide +kernel
theorem dX2_shelve_2 : decode cX2_shelve 2 = .ok (.putfield 21, 3) := by decide +kernel
theorem dX2_shelve_5 : decode cX2_shelve 5 = .ok (.iload_n 1, 1) := by decide +kernel
theorem dX2_shelve_6 : decode cX2_shelve 6 = .ok (.invokestatic 48, 3) := by decide +kernel
theorem dX2_shelve_9 : decode cX2_shelve 9 = .ok (.ifCond .ne 9, 3) := by decide +kernel
theorem dX2_shelve_12 : decode cX2_shelve 12 = .ok (.aload_n 0, 1) := by decide +kernel
theorem dX2_shelve_13 : decode cX2_shelve 13 = .ok (.iconst 1, 1) := by decide +kernel
theorem dX2_shelve_14 : decode cX2_shelve 14 = .ok (.invokevirtual 36, 3) := by decide +kernel
theorem dX2_shelve_17 : decode cX2_shelve 17 = .ok (.ireturn, 1) := by decide +kernel
theorem dX2_shelve_18 : decode cX2_shelve 18 = .ok (.aload_n 0, 1) := by decide +kernel
theorem dX2_shelve_19 : decode cX2_shelve 19 = .ok (.getfield 12, 3) := by decide +kernel
theorem dX2_shelve_22 : decode cX2_shelve 22 = .ok (.iload_n 1, 1) := by decide +kernel
theorem dX2_shelve_23 : decode cX2_shelve 23 = .ok (.invokevirtual 73, 3) := by decide +kernel
theorem dX2_shelve_26 : decode cX2_shelve 26 = .ok (.istore_n 2, 1) := by decide +kernel
theorem dX2_shelve_27 : decode cX2_shelve 27 = .ok (.aload_n 0, 1) := by decide +kernel
theorem dX2_shelve_28 : decode cX2_shelve 28 = .ok (.getfield 12, 3) := by decide +kernel
theorem dX2_shelve_31 : decode cX2_shelve 31 = .ok (.getfield 76, 3) := by decide +kernel
theorem dX2_shelve_34 : decode cX2_shelve 34 = .ok (.iload_n 1, 1) := by decide +kernel
theorem dX2_shelve_35 : decode cX2_shelve 35 = .ok (.aload_n 0, 1) := by decide +kernel
theorem dX2_shelve_36 : decode cX2_shelve 36 = .ok (.getfield 12, 3) := by decide +kernel
theorem dX2_shelve_39 : decode cX2_shelve 39 = .ok (.getfield 57, 3) := by decide +kernel
theorem dX2_shelve_42 : decode cX2_shelve 42 = .ok (.iload_n 1, 1) := by decide +kernel
theorem dX2_shelve_43 : decode cX2_shelve 43 = .ok (.iaload, 1) := by decide +kernel
theorem dX2_shelve_44 : decode cX2_shelve 44 = .ok (.iastore, 1) := by decide +kernel
theorem dX2_shelve_45 : decode cX2_shelve 45 = .ok (.aload_n 0, 1) := by decide +kernel
theorem dX2_shelve_46 : decode cX2_shelve 46 = .ok (.getfield 12, 3) := by decide +kernel
theorem dX2_shelve_49 : decode cX2_shelve 49 = .ok (.getfield 79, 3) := by decide +kernel
theorem dX2_shelve_52 : decode cX2_shelve 52 = .ok (.iload_n 1, 1) := by decide +kernel
theorem dX2_shelve_53 : decode cX2_shelve 53 = .ok (.iload_n 2, 1) := by decide +kernel
theorem dX2_shelve_54 : decode cX2_shelve 54 = .ok (.iastore, 1) := by decide +kernel
theorem dX2_shelve_55 : decode cX2_shelve 55 = .ok (.aload_n 0, 1) := by decide +kernel
theorem dX2_shelve_56 : decode cX2_shelve 56 = .ok (.getfield 12, 3) := by decide +kernel
theorem dX2_shelve_59 : decode cX2_shelve 59 = .ok (.iload_n 2, 1) := by decide +kernel
theorem dX2_shelve_60 : decode cX2_shelve 60 = .ok (.invokevirtual 67, 3) := by decide +kernel
theorem dX2_shelve_63 : decode cX2_shelve 63 = .ok (.ireturn, 1) := by decide +kernel
set_option maxRecDepth 20000 in
theorem ggX2_blow_X1_dries : GoodIn wsX2_blow wsX1_dries := goodIn_r _ [7, 8, 9, 10, 11, 12, 18, 19, 20, 21, 22, 23, 24, 25, 26, 27, 28, 29, 30, 31, 32] (by decide +kernel) (by decide +kernel)
set_option maxRecDepth 20000 in
theorem gX2_blow_X1_dries : GoodIn wsX2_blow (wsV RX2 67 RX1 yX1_dries wsX1_dries) := goodIn_app (goodIn_of _ (by decide +kernel)) ggX2_blow_X1_dries
theorem dX2_blow_0 : decode cX2_blow 0 = .ok (.aload_n 0, 1) := by decide +kernel
theorem dX2_blow_1 : decode cX2_blow 1 = .ok (.iconst 0, 1) := by decide +kernel
theorem dX2_blow_2 : decode cX2_blow 2 = .ok (.putfield 21, 3) := by decide +kernel
theorem dX2_blow_5 : decode cX2_blow 5 = .ok (.aload_n 0, 1) := by decide +kernel
theorem dX2_blow_6 : decode cX2_blow 6 = .ok (.getfield 12, 3) := by decide +kernel
theorem dX2_blow_9 : decode cX2_blow 9 = .ok (.aload_n 0, 1) := by decide +kernel
theorem dX2_blow_10 : decode cX2_blow 10 = .ok (.getfield 12, 3) := by decide +kernel
theorem dX2_blow_13 : decode cX2_blow 13 = .ok (.getfield 64, 3) := by decide +kernel
theorem dX2_blow_16 : decode cX2_blow 16 = .ok (.iconst 1, 1) := by decide +kernel
theorem dX2_blow_17 : decode cX2_blow 17 = .ok (.isub, 1) := by decide +kernel
theorem dX2_blow_18 : decode cX2_blow 18 = .ok (.invokevirtual 67, 3) := by decide +kernel
theorem dX2_blow_21 : decode cX2_blow 21 = .ok (.ireturn, 1) := by decide +kernel
set_option maxRecDepth 20000 in
theorem ggX2_fall_X1_fall : GoodIn wsX2_fall wsX1_fall := goodIn_r _ [8, 9, 10, 11, 12, 13, 14, 15, 16, 17, 18, 19, 20, 21, 22, 7, 23, 24, 25, 26, 27, 28, 29, 30, 31, 32, 33, 34, 35, 36, 37, 38, 39, 40, 41, 42, 43, 44, 45, 46, 47, 53, 54, 55, 56, 57, 58, 59, 60, 61, 62, 63, 64, 65, 66, 67, 48, 49, 50, 51, 52] (by decide +kernel) (by decide +kernel)
set_option maxRecDepth 20000 in
theorem gX2_fall_X1_fall : GoodIn wsX2_fall (wsV RX2 82 RX1 yX1_fall wsX1_fall) := goodIn_app (goodIn_of _ (by decide +kernel)) ggX2_fall_X1_fall
theorem dX2_fall_0 : decode cX2_fall 0 = .ok (.aload_n 0, 1) := by decide +kernel
theorem dX2_fall_1 : decode cX2_fall 1 = .ok (.iconst 0, 1) := by decide +kernel
theorem dX2_fall_2 : decode cX2_fall 2 = .ok (.putfield 21, 3) := by decide +kernel
theorem dX2_fall_5 : decode cX2_fall 5 = .ok (.aload_n 0, 1) := by decide +kernel
theorem dX2_fall_6 : decode cX2_fall 6 = .ok (.getfield 12, 3) := by decide +kernel
theorem dX2_fall_9 : decode cX2_fall 9 = .ok (.invokevirtual 82, 3) := by decide +kernel
theorem dX2_fall_12 : decode cX2_fall 12 = .ok (.aload_n 0, 1) := by decide +kernel
theorem dX2_fall_13 : decode cX2_fall 13 = .ok (.dup, 1) := by decide +kernel
theorem dX2_fall_14 : decode cX2_fall 14 = .ok (.getfield 85, 3) := by decide +kernel
theorem dX2_fall_17 : decode cX2_fall 17 = .ok (.iconst 1, 1) := by decide +kernel
theorem dX2_fall_18 : decode cX2_fall 18 = .ok (.iadd, 1) := by decide +kernel
theorem dX2_fall_19 : decode cX2_fall 19 = .ok (.putfield 85, 3) := by decide +kernel
theorem dX2_fall_22 : decode cX2_fall 22 = .ok (.aload_n 0, 1) := by decide +kernel
theorem dX2_fall_23 : decode cX2_fall 23 = .ok (.getfield 12, 3) := by decide +kernel
theorem dX2_fall_26 : decode cX2_fall 26 = .ok (.getfield 88, 3) := by decide +kernel
theorem dX2_fall_29 : decode cX2_fall 29 = .ok (.ireturn, 1) := by decide +kernel
set_option maxRecDepth 20000 in
theorem ggX2_potTold_X1_holder : GoodIn wsX2_potTold wsX1_holder := goodIn_r _ [7, 8, 9, 10, 11, 6, 12, 13, 14, 15, 16, 17, 18, 19, 20, 30, 31, 32, 33, 34, 35, 36, 37, 38, 39, 40, 41, 42, 43, 44, 25, 26, 27, 28, 29] (by decide +kernel) (by decide +kernel)
set_option maxRecDepth 20000 in
theorem gX2_potTold_X1_holder : GoodIn wsX2_potTold (wsV RX2 51 RX1 yX1_holder wsX1_holder) := goodIn_app (goodIn_of _ (by decide +kernel)) ggX2_potTold_X1_holder
set_option maxRecDepth 20000 in
theorem ggX2_potTold_X1_latest : GoodIn wsX2_potTold wsX1_latest := goodIn_r _ [24, 13, 16, 30, 31, 32, 33, 34, 35, 36, 37, 38, 39, 40, 41, 42, 43, 44] (by decide +kernel) (by decide +kernel)
set_option maxRecDepth 20000 in
theorem gX2_potTold_X1_latest : GoodIn wsX2_potTold (wsV RX2 73 RX1 yX1_latest wsX1_latest) := goodIn_app (goodIn_of _ (by decide +kernel)) ggX2_potTold_X1_latest
theorem dX2_potTold_0 : decode cX2_potTold 0 = .ok (.iconst 5, 1) := by decide +kernel
theorem dX2_potTold_1 : decode cX2_potTold 1 = .ok (.newarray .int, 2) := by decide +kernel
