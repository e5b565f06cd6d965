set_option maxRecDepth 20000 in
theorem ggX0_takeBack_X0_put : GoodIn wsX0_takeBack wsX0_put := goodIn_r _ [27, 11, 12, 9, 13] (by decide +kernel) (by decide +kernel)
set_option maxRecDepth 20000 in
theorem gX0_takeBack_X0_put : GoodIn wsX0_takeBack (va_wsS RX0 66 yX0_put wsX0_put) := goodIn_app (goodIn_of _ (by decide +kernel)) ggX0_takeBack_X0_put
theorem dX0_takeBack_0 : decode cX0_takeBack 0 = .ok (.aload_n 0, 1) := by decide +kernel
theorem dX0_takeBack_1 : decode cX0_takeBack 1 = .ok (.getfield 112, 3) := by decide +kernel
theorem dX0_takeBack_4 : decode cX0_takeBack 4 = .ok (.istore_n 2, 1) := by decide +kernel
theorem dX0_takeBack_5 : decode cX0_takeBack 5 = .ok (.aload_n 0, 1) := by decide +kernel
theorem dX0_takeBack_6 : decode cX0_takeBack 6 = .ok (.aload_n 0, 1) := by decide +kernel
theorem dX0_takeBack_7 : decode cX0_takeBack 7 = .ok (.getfield 22, 3) := by decide +kernel
theorem dX0_takeBack_10 : decode cX0_takeBack 10 = .ok (.iload_n 1, 1) := by decide +kernel
theorem dX0_takeBack_11 : decode cX0_takeBack 11 = .ok (.invokestatic 102, 3) := by decide +kernel
theorem dX0_takeBack_14 : decode cX0_takeBack 14 = .ok (.iconst 3, 1) := by decide +kernel
theorem dX0_takeBack_15 : decode cX0_takeBack 15 = .ok (.aload_n 0, 1) := by decide +kernel
theorem dX0_takeBack_16 : decode cX0_takeBack 16 = .ok (.getfield 28, 3) := by decide +kernel
theorem dX0_takeBack_19 : decode cX0_takeBack 19 = .ok (.iload_n 1, 1) := by decide +kernel
theorem dX0_takeBack_20 : decode cX0_takeBack 20 = .ok (.invokestatic 102, 3) := by decide +kernel
theorem dX0_takeBack_23 : decode cX0_takeBack 23 = .ok (.aload_n 0, 1) := by decide +kernel
theorem dX0_takeBack_24 : decode cX0_takeBack 24 = .ok (.getfield 31, 3) := by decide +kernel
theorem dX0_takeBack_27 : decode cX0_takeBack 27 = .ok (.iload_n 1, 1) := by decide +kernel
theorem dX0_takeBack_28 : decode cX0_takeBack 28 = .ok (.invokestatic 102, 3) := by decide +kernel
theorem dX0_takeBack_31 : decode cX0_takeBack 31 = .ok (.invokevirtual 106, 3) := by decide +kernel
theorem dX0_takeBack_34 : decode cX0_takeBack 34 = .ok (.aload_n 0, 1) := by decide +kernel
theorem dX0_takeBack_35 : decode cX0_takeBack 35 = .ok (.getfield 37, 3) := by decide +kernel
theorem dX0_takeBack_38 : decode cX0_takeBack 38 = .ok (.iload_n 2, 1) := by decide +kernel
theorem dX0_takeBack_39 : decode cX0_takeBack 39 = .ok (.iload_n 1, 1) := by decide +kernel
theorem dX0_takeBack_40 : decode cX0_takeBack 40 = .ok (.invokestatic 66, 3) := by decide +kernel
theorem dX0_takeBack_43 : decode cX0_takeBack 43 = .ok (.aload_n 0, 1) := by decide +kernel
theorem dX0_takeBack_44 : decode cX0_takeBack 44 = .ok (.getfield 40, 3) := by decide +kernel
theorem dX0_takeBack_47 : decode cX0_takeBack 47 = .ok (.iload_n 1, 1) := by decide +kernel
theorem dX0_takeBack_48 : decode cX0_takeBack 48 = .ok (.iload_n 2, 1) := by decide +kernel
theorem dX0_takeBack_49 : decode cX0_takeBack 49 = .ok (.invokestatic 66, 3) := by decide +kernel
theorem dX0_takeBack_52 : decode cX0_takeBack 52 = .ok (.return_, 1) := by decide +kernel
set_option maxRecDepth 20000 in
theorem ggX0_undo_X0_isChangeNotTakenBack : GoodIn wsX0_undo wsX0_isChangeNotTakenBack := goodIn_r _ [7, 8, 9, 10, 11, 12, 6, 13, 14, 15, 16, 37, 38, 39, 40, 41, 42, 43, 44, 45, 46, 47, 48, 49, 50, 51] (by decide +kernel) (by decide +kernel)
set_option maxRecDepth 20000 in
theorem gX0_undo_X0_isChangeNotTakenBack : GoodIn wsX0_undo (wsV RX0 219 RX0 yX0_isChangeNotTakenBack wsX0_isChangeNotTakenBack) := goodIn_app (goodIn_of _ (by decide +kernel)) ggX0_undo_X0_isChangeNotTakenBack
set_option maxRecDepth 20000 in
theorem ggX0_undo_X0_takeBack : GoodIn wsX0_undo wsX0_takeBack := goodIn_r _ [20, 1, 8, 21, 22, 23, 10, 11, 12, 6, 13, 14, 15, 16, 24, 25, 26, 27, 28, 29, 30, 31, 32, 33, 9, 34, 35, 36, 37, 38, 39, 40, 41, 42, 43, 44, 45, 46, 47, 48, 49, 50, 51] (by decide +kernel) (by decide +kernel)
set_option maxRecDepth 20000 in
theorem gX0_undo_X0_takeBack : GoodIn wsX0_undo (wsV RX0 223 RX0 yX0_takeBack wsX0_takeBack) := goodIn_app (goodIn_of _ (by decide +kernel)) ggX0_undo_X0_takeBack
set_option maxRecDepth 20000 in
theorem ggX0_undo_X0_chalk : GoodIn wsX0_undo wsX0_chalk := goodIn_r _ [33, 8, 1, 9, 21, 22, 29, 23, 10, 34, 35, 6, 36, 14, 15, 16, 37, 38, 39, 40, 41, 42, 43, 44, 45, 46, 47, 48, 49, 50, 51] (by decide +kernel) (by decide +kernel)
set_option maxRecDepth 20000 in
theorem gX0_undo_X0_chalk : GoodIn wsX0_undo (wsV RX0 70 RX0 yX0_chalk wsX0_chalk) := goodIn_app (goodIn_of _ (by decide +kernel)) ggX0_undo_X0_chalk
set_option maxRecDepth 20000 in
theorem ggX0_undo_X0_put : GoodIn wsX0_undo wsX0_put := goodIn_r _ [36, 14, 15, 6, 16] (by decide +kernel) (by decide +kernel)
set_option maxRecDepth 20000 in
theorem gX0_undo_X0_put : GoodIn wsX0_undo (va_wsS RX0 66 yX0_put wsX0_put) := goodIn_app (goodIn_of _ (by decide +kernel)) ggX0_undo_X0_put
theorem dX0_undo_0 : decode cX0_undo 0 = .ok (.iconst 0, 1) := by decide +kernel
theorem dX0_undo_1 : decode cX0_undo 1 = .ok (.istore_n 2, 1) := by decide +kernel
theorem dX0_undo_2 : decode cX0_undo 2 = .ok (.aload_n 0, 1) := by decide +kernel
theorem dX0_undo_3 : decode cX0_undo 3 = .ok (.getfield 112, 3) := by decide +kernel
theorem dX0_undo_6 : decode cX0_undo 6 = .ok (.iconst 1, 1) := by decide +kernel
theorem dX0_undo_7 : decode cX0_undo 7 = .ok (.isub, 1) := by decide +kernel
theorem dX0_undo_8 : decode cX0_undo 8 = .ok (.istore_n 3, 1) := by decide +kernel
theorem dX0_undo_9 : decode cX0_undo 9 = .ok (.iload_n 3, 1) := by decide +kernel
theorem dX0_undo_10 : decode cX0_undo 10 = .ok (.ifCond .lt 30, 3) := by decide +kernel
theorem dX0_undo_13 : decode cX0_undo 13 = .ok (.aload_n 0, 1) := by decide +kernel
theorem dX0_undo_14 : decode cX0_undo 14 = .ok (.iload_n 3, 1) := by decide +kernel
theorem dX0_undo_15 : decode cX0_undo 15 = .ok (.iload_n 1, 1) := by decide +kernel
theorem dX0_undo_16 : decode cX0_undo 16 = .ok (.aload_n 0, 1) := by decide +kernel
theorem dX0_undo_17 : decode cX0_undo 17 = .ok (.getfield 112, 3) := by decide +kernel
theorem dX0_undo_20 : decode cX0_undo 20 = .ok (.invokevirtual 219, 3) := by decide +kernel
theorem dX0_undo_23 : decode cX0_undo 23 = .ok (.ifCond .eq 11, 3) := by decide +kernel
theorem dX0_undo_26 : decode cX0_undo 26 = .ok (.aload_n 0, 1) := by decide +kernel
theorem dX0_undo_27 : decode cX0_undo 27 = .ok (.iload_n 3, 1) := by decide +kernel
theorem dX0_undo_28 : decode cX0_undo 28 = .ok (.invokevirtual 223, 3) := by decide +kernel
theorem dX0_undo_31 : decode cX0_undo 31 = .ok (.iinc 2 1, 3) := by decide +kernel
theorem dX0_undo_34 : decode cX0_undo 34 = .ok (.iinc 3 (-1), 3) := by decide +kernel
theorem dX0_undo_37 : decode cX0_undo 37 = .ok (.goto (-28), 3) := by decide +kernel
theorem dX0_undo_40 : decode cX0_undo 40 = .ok (.aload_n 0, 1) := by decide +kernel
theorem dX0_undo_41 : decode cX0_undo 41 = .ok (.iload_n 1, 1) := by decide +kernel
theorem dX0_undo_42 : decode cX0_undo 42 = .ok (.iconst 4, 1) := by decide +kernel
theorem dX0_undo_43 : decode cX0_undo 43 = .ok (.invokevirtual 70, 3) := by decide +kernel
theorem dX0_undo_46 : decode cX0_undo 46 = .ok (.aload_n 0, 1) := by decide +kernel
theorem dX0_undo_47 : decode cX0_undo 47 = .ok (.getfield 19, 3) := by decide +kernel
theorem dX0_undo_50 : decode cX0_undo 50 = .ok (.iload_n 1, 1) := by decide +kernel
theorem dX0_undo_51 : decode cX0_undo 51 = .ok (.iconst 2, 1) := by decide +kernel
theorem dX0_undo_52 : decode cX0_undo 52 = .ok (.invokestatic 66, 3) := by decide +kernel
theorem dX0_undo_55 : decode cX0_undo 55 = .ok (.iload_n 2, 1) := by decide +kernel
theorem dX0_undo_56 : decode cX0_undo 56 = .ok (.ireturn, 1) := by decide +kernel
theorem dX0_dryUpTo_0 : decode cX0_dryUpTo 0 = .ok (.aload_n 0, 1) := by decide +kernel
theorem dX0_dryUpTo_1 : decode cX0_dryUpTo 1 = .ok (.getfield 166, 3) := by decide +kernel
theorem dX0_dryUpTo_4 : decode cX0_dryUpTo 4 = .ok (.istore_n 2, 1) := by decide +kernel
theorem dX0_dryUpTo_5 : decode cX0_dryUpTo 5 = .ok (.aload_n 0, 1) := by decide +kernel
theorem dX0_dryUpTo_6 : decode cX0_dryUpTo 6 = .ok (.iload_n 2, 1) := by decide +kernel
theorem dX0_dryUpTo_7 : decode cX0_dryUpTo 7 = .ok (.iload_n 1, 1) := by decide +kernel
theorem dX0_dryUpTo_8 : decode cX0_dryUpTo 8 = .ok (.invokestatic 227, 3) := by decide +kernel
theorem dX0_dryUpTo_11 : decode cX0_dryUpTo 11 = .ok (.putfield 166, 3) := by decide +kernel
theorem dX0_dryUpTo_14 : decode cX0_dryUpTo 14 = .ok (.aload_n 0, 1) := by decide +kernel
theorem dX0_dryUpTo_15 : decode cX0_dryUpTo 15 = .ok (.getfield 166, 3) := by decide +kernel
theorem dX0_dryUpTo_18 : decode cX0_dryUpTo 18 = .ok (.iload_n 2, 1) := by decide +kernel
theorem dX0_dryUpTo_19 : decode cX0_dryUpTo 19 = .ok (.isub, 1) := by decide +kernel
theorem dX0_dryUpTo_20 : decode cX0_dryUpTo 20 = .ok (.ireturn, 1) := by decide +kernel
set_option maxRecDepth 20000 in
theorem ggX0_wipeWhatIsNotDry_X0_at : GoodIn wsX0_wipeWhatIsNotDry wsX0_at := goodIn_r _ [9, 10, 11, 8, 12] (by decide +kernel) (by decide +kernel)
set_option maxRecDepth 20000 in
theorem gX0_wipeWhatIsNotDry_X0_at : GoodIn wsX0_wipeWhatIsNotDry (va_wsS RX0 102 yX0_at wsX0_at) := goodIn_app (goodIn_of _ (by decide +kernel)) ggX0_wipeWhatIsNotDry_X0_at
set_option maxRecDepth 20000 in
theorem ggX0_wipeWhatIsNotDry_X0_put : GoodIn wsX0_wipeWhatIsNotDry wsX0_put := goodIn_r _ [15, 10, 11, 8, 12] (by decide +kernel) (by decide +kernel)
set_option maxRecDepth 20000 in
theorem gX0_wipeWhatIsNotDry_X0_put : GoodIn wsX0_wipeWhatIsNotDry (va_wsS RX0 66 yX0_put wsX0_put) := goodIn_app (goodIn_of _ (by decide +kernel)) ggX0_wipeWhatIsNotDry_X0_put
set_option maxRecDepth 20000 in
theorem ggX0_wipeWhatIsNotDry_X0_stateByLines : GoodIn wsX0_wipeWhatIsNotDry wsX0_stateByLines := goodIn_r _ [19, 20, 21, 6, 7, 8, 9, 10, 11, 12, 22, 23, 24, 25, 26, 27, 28, 29, 30, 31, 32, 33, 34, 35, 36, 37, 38, 39] (by decide +kernel) (by decide +kernel)
set_option maxRecDepth 20000 in
theorem gX0_wipeWhatIsNotDry_X0_stateByLines : GoodIn wsX0_wipeWhatIsNotDry (wsV RX0 184 RX0 yX0_stateByLines wsX0_stateByLines) := goodIn_app (goodIn_of _ (by decide +kernel)) ggX0_wipeWhatIsNotDry_X0_stateByLines
theorem dX0_wipeWhatIsNotDry_0 : decode cX0_wipeWhatIsNotDry 0 = .ok (.aload_n 0, 1) := by decide +kernel
theorem dX0_wipeWhatIsNotDry_1 : decode cX0_wipeWhatIsNotDry 1 = .ok (.aload_n 0, 1) := by decide +kernel
theorem dX0_wipeWhatIsNotDry_2 : decode cX0_wipeWhatIsNotDry 2 = .ok (.getfield 166, 3) := by decide +kernel
theorem dX0_wipeWhatIsNotDry_5 : decode cX0_wipeWhatIsNotDry 5 = .ok (.putfield 112, 3) := by decide +kernel
theorem dX0_wipeWhatIsNotDry_8 : decode cX0_wipeWhatIsNotDry 8 = .ok (.iconst 0, 1) := by decide +kernel
theorem dX0_wipeWhatIsNotDry_9 : decode cX0_wipeWhatIsNotDry 9 = .ok (.istore_n 1, 1) := by decide +kernel
theorem dX0_wipeWhatIsNotDry_10 : decode cX0_wipeWhatIsNotDry 10 = .ok (.iload_n 1, 1) := by decide +kernel
theorem dX0_wipeWhatIsNotDry_11 : decode cX0_wipeWhatIsNotDry 11 = .ok (.aload_n 0, 1) := by decide +kernel
theorem dX0_wipeWhatIsNotDry_12 : decode cX0_wipeWhatIsNotDry 12 = .ok (.getfield 112, 3) := by decide +kernel
theorem dX0_wipeWhatIsNotDry_15 : decode cX0_wipeWhatIsNotDry 15 = .ok (.if_icmp .ge 33, 3) := by decide +kernel
theorem dX0_wipeWhatIsNotDry_18 : decode cX0_wipeWhatIsNotDry 18 = .ok (.aload_n 0, 1) := by decide +kernel
theorem dX0_wipeWhatIsNotDry_19 : decode cX0_wipeWhatIsNotDry 19 = .ok (.getfield 40, 3) := by decide +kernel
theorem dX0_wipeWhatIsNotDry_22 : decode cX0_wipeWhatIsNotDry 22 = .ok (.iload_n 1, 1) := by decide +kernel
theorem dX0_wipeWhatIsNotDry_23 : decode cX0_wipeWhatIsNotDry 23 = .ok (.invokestatic 102, 3) := by decide +kernel
theorem dX0_wipeWhatIsNotDry_26 : decode cX0_wipeWhatIsNotDry 26 = .ok (.aload_n 0, 1) := by decide +kernel
theorem dX0_wipeWhatIsNotDry_27 : decode cX0_wipeWhatIsNotDry 27 = .ok (.getfield 112, 3) := by decide +kernel
theorem dX0_wipeWhatIsNotDry_30 : decode cX0_wipeWhatIsNotDry 30 = .ok (.if_icmp .lt 12, 3) := by decide +kernel
theorem dX0_wipeWhatIsNotDry_33 : decode cX0_wipeWhatIsNotDry 33 = .ok (.aload_n 0, 1) := by decide +kernel
theorem dX0_wipeWhatIsNotDry_34 : decode cX0_wipeWhatIsNotDry 34 = .ok (.getfield 40, 3) := by decide +kernel
theorem dX0_wipeWhatIsNotDry_37 : decode cX0_wipeWhatIsNotDry 37 = .ok (.iload_n 1, 1) := by decide +kernel
theorem dX0_wipeWhatIsNotDry_38 : decode cX0_wipeWhatIsNotDry 38 = .ok (.iconst (-1), 1) := by decide +kernel
theorem dX0_wipeWhatIsNotDry_39 : decode cX0_wipeWhatIsNotDry 39 = .ok (.invokestatic 66, 3) := by decide +kernel
theorem dX0_wipeWhatIsNotDry_42 : decode cX0_wipeWhatIsNotDry 42 = .ok (.iinc 1 1, 3) := by decide +kernel
theorem dX0_wipeWhatIsNotDry_45 : decode cX0_wipeWhatIsNotDry 45 = .ok (.goto (-35), 3) := by decide +kernel
theorem dX0_wipeWhatIsNotDry_48 : decode cX0_wipeWhatIsNotDry 48 = .ok (.iconst 0, 1) := by decide +kernel
theorem dX0_wipeWhatIsNotDry_49 : decode cX0_wipeWhatIsNotDry 49 = .ok (.istore_n 1, 1) := by decide +kernel
theorem dX0_wipeWhatIsNotDry_50 : decode cX0_wipeWhatIsNotDry 50 = .ok (.iload_n 1, 1) := by decide +kernel
theorem dX0_wipeWhatIsNotDry_51 : decode cX0_wipeWhatIsNotDry 51 = .ok (.aload_n 0, 1) := by decide +kernel
theorem dX0_wipeWhatIsNotDry_52 : decode cX0_wipeWhatIsNotDry 52 = .ok (.getfield 49, 3) := by decide +kernel
theorem dX0_wipeWhatIsNotDry_55 : decode cX0_wipeWhatIsNotDry 55 = .ok (.if_icmp .ge 26, 3) := by decide +kernel
theorem dX0_wipeWhatIsNotDry_58 : decode cX0_wipeWhatIsNotDry 58 = .ok (.aload_n 0, 1) := by decide +kernel
theorem dX0_wipeWhatIsNotDry_59 : decode cX0_wipeWhatIsNotDry 59 = .ok (.getfield 19, 3) := by decide +kernel
theorem dX0_wipeWhatIsNotDry_62 : decode cX0_wipeWhatIsNotDry 62 = .ok (.iload_n 1, 1) := by decide +kernel
theorem dX0_wipeWhatIsNotDry_63 : decode cX0_wipeWhatIsNotDry 63 = .ok (.aload_n 0, 1) := by decide +kernel
theorem dX0_wipeWhatIsNotDry_64 : decode cX0_wipeWhatIsNotDry 64 = .ok (.iload_n 1, 1) := by decide +kernel
theorem dX0_wipeWhatIsNotDry_65 : decode cX0_wipeWhatIsNotDry 65 = .ok (.aload_n 0, 1) := by decide +kernel
theorem dX0_wipeWhatIsNotDry_66 : decode cX0_wipeWhatIsNotDry 66 = .ok (.getfield 112, 3) := by decide +kernel
theorem dX0_wipeWhatIsNotDry_69 : decode cX0_wipeWhatIsNotDry 69 = .ok (.invokevirtual 184, 3) := by decide +kernel
theorem dX0_wipeWhatIsNotDry_72 : decode cX0_wipeWhatIsNotDry 72 = .ok (.invokestatic 66, 3) := by decide +kernel
theorem dX0_wipeWhatIsNotDry_75 : decode cX0_wipeWhatIsNotDry 75 = .ok (.iinc 1 1, 3) := by decide +kernel
theorem dX0_wipeWhatIsNotDry_78 : decode cX0_wipeWhatIsNotDry 78 = .ok (.goto (-28), 3) := by decide +kernel
theorem dX0_wipeWhatIsNotDry_81 : decode cX0_wipeWhatIsNotDry 81 = .ok (.return_, 1) := by decide +kernel
set_option maxRecDepth 20000 in
theorem ggX0_doAnew_X0_isToDoAnew : GoodIn wsX0_doAnew wsX0_isToDoAnew := goodIn_r _ [9, 3, 10, 11, 12, 8, 13, 14, 15, 16, 20, 21, 22, 23, 24, 25, 26, 27, 28, 29, 30, 31, 32, 33, 34] (by decide +kernel) (by decide +kernel)
set_option maxRecDepth 20000 in
theorem gX0_doAnew_X0_isToDoAnew : GoodIn wsX0_doAnew (wsV RX0 181 RX0 yX0_isToDoAnew wsX0_isToDoAnew) := goodIn_app (goodIn_of _ (by decide +kernel)) ggX0_doAnew_X0_isToDoAnew
set_option maxRecDepth 20000 in
theorem ggX0_doAnew_X0_at : GoodIn wsX0_doAnew wsX0_at := goodIn_r _ [13, 14, 15, 8, 16] (by decide +kernel) (by decide +kernel)
set_option maxRecDepth 20000 in
theorem gX0_doAnew_X0_at : GoodIn wsX0_doAnew (va_wsS RX0 102 yX0_at wsX0_at) := goodIn_app (goodIn_of _ (by decide +kernel)) ggX0_doAnew_X0_at
set_option maxRecDepth 20000 in
theorem ggX0_doAnew_X0_put : GoodIn wsX0_doAnew wsX0_put := goodIn_r _ [19, 14, 15, 8, 16] (by decide +kernel) (by decide +kernel)
set_option maxRecDepth 20000 in
theorem gX0_doAnew_X0_put : GoodIn wsX0_doAnew (va_wsS RX0 66 yX0_put wsX0_put) := goodIn_app (goodIn_of _ (by decide +kernel)) ggX0_doAnew_X0_put
theorem dX0_doAnew_0 : decode cX0_doAnew 0 = .ok (.iconst 0, 1) := by decide +kernel
theorem dX0_doAnew_1 : decode cX0_doAnew 1 = .ok (.istore_n 1, 1) := by decide +kernel
theorem dX0_doAnew_2 : decode cX0_doAnew 2 = .ok (.iconst 0, 1) := by decide +kernel
theorem dX0_doAnew_3 : decode cX0_doAnew 3 = .ok (.istore_n 2, 1) := by decide +kernel
theorem dX0_doAnew_4 : decode cX0_doAnew 4 = .ok (.iload_n 2, 1) := by decide +kernel
theorem dX0_doAnew_5 : decode cX0_doAnew 5 = .ok (.aload_n 0, 1) := by decide +kernel
theorem dX0_doAnew_6 : decode cX0_doAnew 6 = .ok (.getfield 112, 3) := by decide +kernel
theorem dX0_doAnew_9 : decode cX0_doAnew 9 = .ok (.if_icmp .ge 43, 3) := by decide +kernel
theorem dX0_doAnew_12 : decode cX0_doAnew 12 = .ok (.aload_n 0, 1) := by decide +kernel
theorem dX0_doAnew_13 : decode cX0_doAnew 13 = .ok (.iload_n 2, 1) := by decide +kernel
theorem dX0_doAnew_14 : decode cX0_doAnew 14 = .ok (.invokevirtual 181, 3) := by decide +kernel
theorem dX0_doAnew_17 : decode cX0_doAnew 17 = .ok (.ifCond .eq 29, 3) := by decide +kernel
theorem dX0_doAnew_20 : decode cX0_doAnew 20 = .ok (.aload_n 0, 1) := by decide +kernel
theorem dX0_doAnew_21 : decode cX0_doAnew 21 = .ok (.getfield 9, 3) := by decide +kernel
theorem dX0_doAnew_24 : decode cX0_doAnew 24 = .ok (.aload_n 0, 1) := by decide +kernel
theorem dX0_doAnew_25 : decode cX0_doAnew 25 = .ok (.getfield 28, 3) := by decide +kernel
theorem dX0_doAnew_28 : decode cX0_doAnew 28 = .ok (.iload_n 2, 1) := by decide +kernel
theorem dX0_doAnew_29 : decode cX0_doAnew 29 = .ok (.invokestatic 102, 3) := by decide +kernel
theorem dX0_doAnew_32 : decode cX0_doAnew 32 = .ok (.aload_n 0, 1) := by decide +kernel
theorem dX0_doAnew_33 : decode cX0_doAnew 33 = .ok (.getfield 34, 3) := by decide +kernel
theorem dX0_doAnew_36 : decode cX0_doAnew 36 = .ok (.iload_n 2, 1) := by decide +kernel
theorem dX0_doAnew_37 : decode cX0_doAnew 37 = .ok (.invokestatic 102, 3) := by decide +kernel
theorem dX0_doAnew_40 : decode cX0_doAnew 40 = .ok (.invokestatic 66, 3) := by decide +kernel
theorem dX0_doAnew_43 : decode cX0_doAnew 43 = .ok (.iinc 1 1, 3) := by decide +kernel
theorem dX0_doAnew_46 : decode cX0_doAnew 46 = .ok (.iinc 2 1, 3) := by decide +kernel
theorem dX0_doAnew_49 : decode cX0_doAnew 49 = .ok (.goto (-45), 3) := by decide +kernel
theorem dX0_doAnew_52 : decode cX0_doAnew 52 = .ok (.iload_n 1, 1) := by decide +kernel
theorem dX0_doAnew_53 : decode cX0_doAnew 53 = .ok (.ireturn, 1) := by decide +kernel
set_option maxRecDepth 20000 in
theorem ggX0_isToDoAnew_X0_at : GoodIn wsX0_isToDoAnew wsX0_at := goodIn_r _ [6, 7, 8, 5, 9] (by decide +kernel) (by decide +kernel)
set_option maxRecDepth 20000 in
theorem gX0_isToDoAnew_X0_at : GoodIn wsX0_isToDoAnew (va_wsS RX0 102 yX0_at wsX0_at) := goodIn_app (goodIn_of _ (by decide +kernel)) ggX0_isToDoAnew_X0_at
theorem dX0_isToDoAnew_0 : decode cX0_isToDoAnew 0 = .ok (.aload_n 0, 1) := by decide +kernel
theorem dX0_isToDoAnew_1 : decode cX0_isToDoAnew 1 = .ok (.getfield 28, 3) := by decide +kernel
theorem dX0_isToDoAnew_4 : decode cX0_isToDoAnew 4 = .ok (.iload_n 1, 1) := by decide +kernel
theorem dX0_isToDoAnew_5 : decode cX0_isToDoAnew 5 = .ok (.invokestatic 102, 3) := by decide +kernel
theorem dX0_isToDoAnew_8 : decode cX0_isToDoAnew 8 = .ok (.istore_n 2, 1) := by decide +kernel
theorem dX0_isToDoAnew_9 : decode cX0_isToDoAnew 9 = .ok (.iload_n 2, 1) := by decide +kernel
theorem dX0_isToDoAnew_10 : decode cX0_isToDoAnew 10 = .ok (.iconst (-1), 1) := by decide +kernel
theorem dX0_isToDoAnew_11 : decode cX0_isToDoAnew 11 = .ok (.if_icmp .eq 19, 3) := by decide +kernel
theorem dX0_isToDoAnew_14 : decode cX0_isToDoAnew 14 = .ok (.iload_n 1, 1) := by decide +kernel
theorem dX0_isToDoAnew_15 : decode cX0_isToDoAnew 15 = .ok (.aload_n 0, 1) := by decide +kernel
theorem dX0_isToDoAnew_16 : decode cX0_isToDoAnew 16 = .ok (.getfield 16, 3) := by decide +kernel
theorem dX0_isToDoAnew_19 : decode cX0_isToDoAnew 19 = .ok (.iload_n 2, 1) := by decide +kernel
theorem dX0_isToDoAnew_20 : decode cX0_isToDoAnew 20 = .ok (.invokestatic 102, 3) := by decide +kernel
theorem dX0_isToDoAnew_23 : decode cX0_isToDoAnew 23 = .ok (.if_icmp .le 7, 3) := by decide +kernel
theorem dX0_isToDoAnew_26 : decode cX0_isToDoAnew 26 = .ok (.iconst 1, 1) := by decide +kernel
theorem dX0_isToDoAnew_27 : decode cX0_isToDoAnew 27 = .ok (.goto 4, 3) := by decide +kernel
theorem dX0_isToDoAnew_30 : decode cX0_isToDoAnew 30 = .ok (.iconst 0, 1) := by decide +kernel
theorem dX0_isToDoAnew_31 : decode cX0_isToDoAnew 31 = .ok (.ireturn, 1) := by decide +kernel
set_option maxRecDepth 20000 in
theorem ggX0_linesToDoAnew_X0_isToDoAnew : GoodIn wsX0_linesToDoAnew wsX0_isToDoAnew := goodIn_r _ [6, 7, 8, 9, 10, 5, 11, 12, 13, 14, 15, 16, 17, 18, 19, 20, 21, 22, 23, 24, 25, 26, 27, 28, 29] (by decide +kernel) (by decide +kernel)
set_option maxRecDepth 20000 in
theorem gX0_linesToDoAnew_X0_isToDoAnew : GoodIn wsX0_linesToDoAnew (wsV RX0 181 RX0 yX0_isToDoAnew wsX0_isToDoAnew) := goodIn_app (goodIn_of _ (by decide +kernel)) ggX0_linesToDoAnew_X0_isToDoAnew
theorem dX0_linesToDoAnew_0 : decode cX0_linesToDoAnew 0 = .ok (.iconst 0, 1) := by decide +kernel
theorem dX0_linesToDoAnew_1 : decode cX0_linesToDoAnew 1 = .ok (.istore_n 1, 1) := by decide +kernel
theorem dX0_linesToDoAnew_2 : decode cX0_linesToDoAnew 2 = .ok (.iconst 0, 1) := by decide +kernel
theorem dX0_linesToDoAnew_3 : decode cX0_linesToDoAnew 3 = .ok (.istore_n 2, 1) := by decide +kernel
theorem dX0_linesToDoAnew_4 : decode cX0_linesToDoAnew 4 = .ok (.iload_n 2, 1) := by decide +kernel
theorem dX0_linesToDoAnew_5 : decode cX0_linesToDoAnew 5 = .ok (.aload_n 0, 1) := by decide +kernel
theorem dX0_linesToDoAnew_6 : decode cX0_linesToDoAnew 6 = .ok (.getfield 166, 3) := by decide +kernel
theorem dX0_linesToDoAnew_9 : decode cX0_linesToDoAnew 9 = .ok (.if_icmp .ge 20, 3) := by decide +kernel
theorem dX0_linesToDoAnew_12 : decode cX0_linesToDoAnew 12 = .ok (.aload_n 0, 1) := by decide +kernel
theorem dX0_linesToDoAnew_13 : decode cX0_linesToDoAnew 13 = .ok (.iload_n 2, 1) := by decide +kernel
theorem dX0_linesToDoAnew_14 : decode cX0_linesToDoAnew 14 = .ok (.invokevirtual 181, 3) := by decide +kernel
theorem dX0_linesToDoAnew_17 : decode cX0_linesToDoAnew 17 = .ok (.ifCond .eq 6, 3) := by decide +kernel
theorem dX0_linesToDoAnew_20 : decode cX0_linesToDoAnew 20 = .ok (.iinc 1 1, 3) := by decide +kernel
theorem dX0_linesToDoAnew_23 : decode cX0_linesToDoAnew 23 = .ok (.iinc 2 1, 3) := by decide +kernel
theorem dX0_linesToDoAnew_26 : decode cX0_linesToDoAnew 26 = .ok (.goto (-22), 3) := by decide +kernel
theorem dX0_linesToDoAnew_29 : decode cX0_linesToDoAnew 29 = .ok (.iload_n 1, 1) := by decide +kernel
theorem dX0_linesToDoAnew_30 : decode cX0_linesToDoAnew 30 = .ok (.ireturn, 1) := by decide +kernel
set_option maxRecDepth 20000 in
theorem ggX0_firstLineToDoAnew_X0_isToDoAnew : GoodIn wsX0_firstLineToDoAnew wsX0_isToDoAnew := goodIn_r _ [6, 7, 8, 9, 10, 5, 11, 12, 13, 14, 15, 16, 17, 18, 19, 20, 21, 22, 23, 24, 25, 26, 27, 28, 29] (by decide +kernel) (by decide +kernel)
set_option maxRecDepth 20000 in
theorem gX0_firstLineToDoAnew_X0_isToDoAnew : GoodIn wsX0_firstLineToDoAnew (wsV RX0 181 RX0 yX0_isToDoAnew wsX0_isToDoAnew) := goodIn_app (goodIn_of _ (by decide +kernel)) ggX0_firstLineToDoAnew_X0_isToDoAnew
theorem dX0_firstLineToDoAnew_0 : decode cX0_firstLineToDoAnew 0 = .ok (.iconst 0, 1) := by decide +kernel
theorem dX0_firstLineToDoAnew_1 : decode cX0_firstLineToDoAnew 1 = .ok (.istore_n 1, 1) := by decide +kernel
theorem dX0_firstLineToDoAnew_2 : decode cX0_firstLineToDoAnew 2 = .ok (.iload_n 1, 1) := by decide +kernel
theorem dX0_firstLineToDoAnew_3 : decode cX0_firstLineToDoAnew 3 = .ok (.aload_n 0, 1) := by decide +kernel
theorem dX0_firstLineToDoAnew_4 : decode cX0_firstLineToDoAnew 4 = .ok (.getfield 166, 3) := by decide +kernel
theorem dX0_firstLineToDoAnew_7 : decode cX0_firstLineToDoAnew 7 = .ok (.if_icmp .ge 19, 3) := by decide +kernel
theorem dX0_firstLineToDoAnew_10 : decode cX0_firstLineToDoAnew 10 = .ok (.aload_n 0, 1) := by decide +kernel
theorem dX0_firstLineToDoAnew_11 : decode cX0_firstLineToDoAnew 11 = .ok (.iload_n 1, 1) := by decide +kernel
theorem dX0_firstLineToDoAnew_12 : decode cX0_firstLineToDoAnew 12 = .ok (.invokevirtual 181, 3) := by decide +kernel
theorem dX0_firstLineToDoAnew_15 : decode cX0_firstLineToDoAnew 15 = .ok (.ifCond .eq 5, 3) := by decide +kernel
theorem dX0_firstLineToDoAnew_18 : decode cX0_firstLineToDoAnew 18 = .ok (.iload_n 1, 1) := by decide +kernel
theorem dX0_firstLineToDoAnew_19 : decode cX0_firstLineToDoAnew 19 = .ok (.ireturn, 1) := by decide +kernel
theorem dX0_firstLineToDoAnew_20 : decode cX0_firstLineToDoAnew 20 = .ok (.iinc 1 1, 3) := by decide +kernel
theorem dX0_firstLineToDoAnew_23 : decode cX0_firstLineToDoAnew 23 = .ok (.goto (-21), 3) := by decide +kernel
theorem dX0_firstLineToDoAnew_26 : decode cX0_firstLineToDoAnew 26 = .ok (.iconst (-1), 1) := by decide +kernel
theorem dX0_firstLineToDoAnew_27 : decode cX0_firstLineToDoAnew 27 = .ok (.ireturn, 1) := by decide +kernel
set_option maxRecDepth 20000 in
theorem ggX0_linesToTakeBack_X0_stateByLines : GoodIn wsX0_linesToTakeBack wsX0_stateByLines := goodIn_r _ [7, 8, 9, 10, 11, 6, 12, 13, 14, 15, 16, 17, 18, 28, 29, 30, 31, 32, 33, 34, 35, 36, 37, 38, 39, 40, 41, 42] (by decide +kernel) (by decide +kernel)
set_option maxRecDepth 20000 in
theorem gX0_linesToTakeBack_X0_stateByLines : GoodIn wsX0_linesToTakeBack (wsV RX0 184 RX0 yX0_stateByLines wsX0_stateByLines) := goodIn_app (goodIn_of _ (by decide +kernel)) ggX0_linesToTakeBack_X0_stateByLines
set_option maxRecDepth 20000 in
theorem ggX0_linesToTakeBack_X0_changesNotTakenBack : GoodIn wsX0_linesToTakeBack wsX0_changesNotTakenBack := goodIn_r _ [22, 23, 24, 25, 6, 26, 8, 9, 27, 10, 11, 12, 13, 14, 15, 28, 29, 30, 31, 32, 33, 34, 35, 36, 37, 38, 39, 40, 41, 42] (by decide +kernel) (by decide +kernel)
set_option maxRecDepth 20000 in
theorem gX0_linesToTakeBack_X0_changesNotTakenBack : GoodIn wsX0_linesToTakeBack (wsV RX0 204 RX0 yX0_changesNotTakenBack wsX0_changesNotTakenBack) := goodIn_app (goodIn_of _ (by decide +kernel)) ggX0_linesToTakeBack_X0_changesNotTakenBack
theorem dX0_linesToTakeBack_0 : decode cX0_linesToTakeBack 0 = .ok (.iconst 0, 1) := by decide +kernel
theorem dX0_linesToTakeBack_1 : decode cX0_linesToTakeBack 1 = .ok (.istore_n 1, 1) := by decide +kernel
theorem dX0_linesToTakeBack_2 : decode cX0_linesToTakeBack 2 = .ok (.iconst 0, 1) := by decide +kernel
theorem dX0_linesToTakeBack_3 : decode cX0_linesToTakeBack 3 = .ok (.istore_n 2, 1) := by decide +kernel
theorem dX0_linesToTakeBack_4 : decode cX0_linesToTakeBack 4 = .ok (.iload_n 2, 1) := by decide +kernel
theorem dX0_linesToTakeBack_5 : decode cX0_linesToTakeBack 5 = .ok (.aload_n 0, 1) := by decide +kernel
theorem dX0_linesToTakeBack_6 : decode cX0_linesToTakeBack 6 = .ok (.getfield 49, 3) := by decide +kernel
theorem dX0_linesToTakeBack_9 : decode cX0_linesToTakeBack 9 = .ok (.if_icmp .ge 33, 3) := by decide +kernel
theorem dX0_linesToTakeBack_12 : decode cX0_linesToTakeBack 12 = .ok (.aload_n 0, 1) := by decide +kernel
theorem dX0_linesToTakeBack_13 : decode cX0_linesToTakeBack 13 = .ok (.iload_n 2, 1) := by decide +kernel
theorem dX0_linesToTakeBack_14 : decode cX0_linesToTakeBack 14 = .ok (.aload_n 0, 1) := by decide +kernel
theorem dX0_linesToTakeBack_15 : decode cX0_linesToTakeBack 15 = .ok (.getfield 166, 3) := by decide +kernel
theorem dX0_linesToTakeBack_18 : decode cX0_linesToTakeBack 18 = .ok (.invokevirtual 184, 3) := by decide +kernel
theorem dX0_linesToTakeBack_21 : decode cX0_linesToTakeBack 21 = .ok (.ifCond .ne 15, 3) := by decide +kernel
theorem dX0_linesToTakeBack_24 : decode cX0_linesToTakeBack 24 = .ok (.iload_n 1, 1) := by decide +kernel
theorem dX0_linesToTakeBack_25 : decode cX0_linesToTakeBack 25 = .ok (.aload_n 0, 1) := by decide +kernel
theorem dX0_linesToTakeBack_26 : decode cX0_linesToTakeBack 26 = .ok (.iload_n 2, 1) := by decide +kernel
theorem dX0_linesToTakeBack_27 : decode cX0_linesToTakeBack 27 = .ok (.aload_n 0, 1) := by decide +kernel
theorem dX0_linesToTakeBack_28 : decode cX0_linesToTakeBack 28 = .ok (.getfield 166, 3) := by decide +kernel
theorem dX0_linesToTakeBack_31 : decode cX0_linesToTakeBack 31 = .ok (.invokevirtual 204, 3) := by decide +kernel
theorem dX0_linesToTakeBack_34 : decode cX0_linesToTakeBack 34 = .ok (.iadd, 1) := by decide +kernel
theorem dX0_linesToTakeBack_35 : decode cX0_linesToTakeBack 35 = .ok (.istore_n 1, 1) := by decide +kernel
theorem dX0_linesToTakeBack_36 : decode cX0_linesToTakeBack 36 = .ok (.iinc 2 1, 3) := by decide +kernel
theorem dX0_linesToTakeBack_39 : decode cX0_linesToTakeBack 39 = .ok (.goto (-35), 3) := by decide +kernel
theorem dX0_linesToTakeBack_42 : decode cX0_linesToTakeBack 42 = .ok (.iload_n 1, 1) := by decide +kernel
theorem dX0_linesToTakeBack_43 : decode cX0_linesToTakeBack 43 = .ok (.ireturn, 1) := by decide +kernel
set_option maxRecDepth 20000 in
theorem ggX0_dishesToForget_X0_at : GoodIn wsX0_dishesToForget wsX0_at := goodIn_r _ [7, 8, 9, 6, 10] (by decide +kernel) (by decide +kernel)
set_option maxRecDepth 20000 in
theorem gX0_dishesToForget_X0_at : GoodIn wsX0_dishesToForget (va_wsS RX0 102 yX0_at wsX0_at) := goodIn_app (goodIn_of _ (by decide +kernel)) ggX0_dishesToForget_X0_at
set_option maxRecDepth 20000 in
theorem ggX0_dishesToForget_X0_stateByLines : GoodIn wsX0_dishesToForget wsX0_stateByLines := goodIn_r _ [14, 15, 16, 4, 5, 6, 7, 8, 9, 10, 17, 18, 19, 20, 21, 22, 23, 24, 25, 26, 27, 28, 29, 30, 31, 32, 33, 34] (by decide +kernel) (by decide +kernel)
set_option maxRecDepth 20000 in
theorem gX0_dishesToForget_X0_stateByLines : GoodIn wsX0_dishesToForget (wsV RX0 184 RX0 yX0_stateByLines wsX0_stateByLines) := goodIn_app (goodIn_of _ (by decide +kernel)) ggX0_dishesToForget_X0_stateByLines
theorem dX0_dishesToForget_0 : decode cX0_dishesToForget 0 = .ok (.iconst 0, 1) := by decide +kernel
theorem dX0_dishesToForget_1 : decode cX0_dishesToForget 1 = .ok (.istore_n 1, 1) := by decide +kernel
theorem dX0_dishesToForget_2 : decode cX0_dishesToForget 2 = .ok (.iconst 0, 1) := by decide +kernel
theorem dX0_dishesToForget_3 : decode cX0_dishesToForget 3 = .ok (.istore_n 2, 1) := by decide +kernel
theorem dX0_dishesToForget_4 : decode cX0_dishesToForget 4 = .ok (.iload_n 2, 1) := by decide +kernel
theorem dX0_dishesToForget_5 : decode cX0_dishesToForget 5 = .ok (.aload_n 0, 1) := by decide +kernel
theorem dX0_dishesToForget_6 : decode cX0_dishesToForget 6 = .ok (.getfield 49, 3) := by decide +kernel
theorem dX0_dishesToForget_9 : decode cX0_dishesToForget 9 = .ok (.if_icmp .ge 47, 3) := by decide +kernel
theorem dX0_dishesToForget_12 : decode cX0_dishesToForget 12 = .ok (.aload_n 0, 1) := by decide +kernel
theorem dX0_dishesToForget_13 : decode cX0_dishesToForget 13 = .ok (.getfield 19, 3) := by decide +kernel
theorem dX0_dishesToForget_16 : decode cX0_dishesToForget 16 = .ok (.iload_n 2, 1) := by decide +kernel
theorem dX0_dishesToForget_17 : decode cX0_dishesToForget 17 = .ok (.invokestatic 102, 3) := by decide +kernel
theorem dX0_dishesToForget_20 : decode cX0_dishesToForget 20 = .ok (.iconst 3, 1) := by decide +kernel
theorem dX0_dishesToForget_21 : decode cX0_dishesToForget 21 = .ok (.if_icmp .ne 7, 3) := by decide +kernel
theorem dX0_dishesToForget_24 : decode cX0_dishesToForget 24 = .ok (.iconst 1, 1) := by decide +kernel
theorem dX0_dishesToForget_25 : decode cX0_dishesToForget 25 = .ok (.goto 4, 3) := by decide +kernel
theorem dX0_dishesToForget_28 : decode cX0_dishesToForget 28 = .ok (.iconst 0, 1) := by decide +kernel
theorem dX0_dishesToForget_29 : decode cX0_dishesToForget 29 = .ok (.istore_n 3, 1) := by decide +kernel
theorem dX0_dishesToForget_30 : decode cX0_dishesToForget 30 = .ok (.iload_n 3, 1) := by decide +kernel
theorem dX0_dishesToForget_31 : decode cX0_dishesToForget 31 = .ok (.ifCond .ne 19, 3) := by decide +kernel
theorem dX0_dishesToForget_34 : decode cX0_dishesToForget 34 = .ok (.aload_n 0, 1) := by decide +kernel
theorem dX0_dishesToForget_35 : decode cX0_dishesToForget 35 = .ok (.iload_n 2, 1) := by decide +kernel
theorem dX0_dishesToForget_36 : decode cX0_dishesToForget 36 = .ok (.aload_n 0, 1) := by decide +kernel
theorem dX0_dishesToForget_37 : decode cX0_dishesToForget 37 = .ok (.getfield 166, 3) := by decide +kernel
theorem dX0_dishesToForget_40 : decode cX0_dishesToForget 40 = .ok (.invokevirtual 184, 3) := by decide +kernel
theorem dX0_dishesToForget_43 : decode cX0_dishesToForget 43 = .ok (.iconst 3, 1) := by decide +kernel
theorem dX0_dishesToForget_44 : decode cX0_dishesToForget 44 = .ok (.if_icmp .ne 6, 3) := by decide +kernel
theorem dX0_dishesToForget_47 : decode cX0_dishesToForget 47 = .ok (.iinc 1 1, 3) := by decide +kernel
theorem dX0_dishesToForget_50 : decode cX0_dishesToForget 50 = .ok (.iinc 2 1, 3) := by decide +kernel
theorem dX0_dishesToForget_53 : decode cX0_dishesToForget 53 = .ok (.goto (-49), 3) := by decide +kernel
theorem dX0_dishesToForget_56 : decode cX0_dishesToForget 56 = .ok (.iload_n 1, 1) := by decide +kernel
theorem dX0_dishesToForget_57 : decode cX0_dishesToForget 57 = .ok (.ireturn, 1) := by decide +kernel
set_option maxRecDepth 20000 in
theorem ggX0_spoonsAfterUndoing_X0_at : GoodIn wsX0_spoonsAfterUndoing wsX0_at := goodIn_r _ [7, 8, 9, 6, 10] (by decide +kernel) (by decide +kernel)
set_option maxRecDepth 20000 in
theorem gX0_spoonsAfterUndoing_X0_at : GoodIn wsX0_spoonsAfterUndoing (va_wsS RX0 102 yX0_at wsX0_at) := goodIn_app (goodIn_of _ (by decide +kernel)) ggX0_spoonsAfterUndoing_X0_at
set_option maxRecDepth 20000 in
theorem ggX0_spoonsAfterUndoing_X0_isChangeNotTakenBack : GoodIn wsX0_spoonsAfterUndoing wsX0_isChangeNotTakenBack := goodIn_r _ [14, 15, 16, 17, 4, 5, 6, 7, 8, 9, 10, 18, 19, 20, 21, 22, 23, 24, 25, 26, 27, 28, 29, 30, 31, 32] (by decide +kernel) (by decide +kernel)
set_option maxRecDepth 20000 in
theorem gX0_spoonsAfterUndoing_X0_isChangeNotTakenBack : GoodIn wsX0_spoonsAfterUndoing (wsV RX0 219 RX0 yX0_isChangeNotTakenBack wsX0_isChangeNotTakenBack) := goodIn_app (goodIn_of _ (by decide +kernel)) ggX0_spoonsAfterUndoing_X0_isChangeNotTakenBack
theorem dX0_spoonsAfterUndoing_0 : decode cX0_spoonsAfterUndoing 0 = .ok (.iload_n 3, 1) := by decide +kernel
theorem dX0_spoonsAfterUndoing_1 : decode cX0_spoonsAfterUndoing 1 = .ok (.istore 4, 2) := by decide +kernel
theorem dX0_spoonsAfterUndoing_3 : decode cX0_spoonsAfterUndoing 3 = .ok (.aload_n 0, 1) := by decide +kernel
theorem dX0_spoonsAfterUndoing_4 : decode cX0_spoonsAfterUndoing 4 = .ok (.getfield 166, 3) := by decide +kernel
theorem dX0_spoonsAfterUndoing_7 : decode cX0_spoonsAfterUndoing 7 = .ok (.iconst 1, 1) := by decide +kernel
theorem dX0_spoonsAfterUndoing_8 : decode cX0_spoonsAfterUndoing 8 = .ok (.isub, 1) := by decide +kernel
theorem dX0_spoonsAfterUndoing_9 : decode cX0_spoonsAfterUndoing 9 = .ok (.istore 5, 2) := by decide +kernel
theorem dX0_spoonsAfterUndoing_11 : decode cX0_spoonsAfterUndoing 11 = .ok (.iload 5, 2) := by decide +kernel
theorem dX0_spoonsAfterUndoing_13 : decode cX0_spoonsAfterUndoing 13 = .ok (.ifCond .lt 47, 3) := by decide +kernel
theorem dX0_spoonsAfterUndoing_16 : decode cX0_spoonsAfterUndoing 16 = .ok (.aload_n 0, 1) := by decide +kernel
theorem dX0_spoonsAfterUndoing_17 : decode cX0_spoonsAfterUndoing 17 = .ok (.getfield 28, 3) := by decide +kernel
theorem dX0_spoonsAfterUndoing_20 : decode cX0_spoonsAfterUndoing 20 = .ok (.iload 5, 2) := by decide +kernel
theorem dX0_spoonsAfterUndoing_22 : decode cX0_spoonsAfterUndoing 22 = .ok (.invokestatic 102, 3) := by decide +kernel
theorem dX0_spoonsAfterUndoing_25 : decode cX0_spoonsAfterUndoing 25 = .ok (.iload_n 2, 1) := by decide +kernel
theorem dX0_spoonsAfterUndoing_26 : decode cX0_spoonsAfterUndoing 26 = .ok (.if_icmp .ne 28, 3) := by decide +kernel
theorem dX0_spoonsAfterUndoing_29 : decode cX0_spoonsAfterUndoing 29 = .ok (.aload_n 0, 1) := by decide +kernel
theorem dX0_spoonsAfterUndoing_30 : decode cX0_spoonsAfterUndoing 30 = .ok (.iload 5, 2) := by decide +kernel
theorem dX0_spoonsAfterUndoing_32 : decode cX0_spoonsAfterUndoing 32 = .ok (.iload_n 1, 1) := by decide +kernel
theorem dX0_spoonsAfterUndoing_33 : decode cX0_spoonsAfterUndoing 33 = .ok (.aload_n 0, 1) := by decide +kernel
theorem dX0_spoonsAfterUndoing_34 : decode cX0_spoonsAfterUndoing 34 = .ok (.getfield 166, 3) := by decide +kernel
theorem dX0_spoonsAfterUndoing_37 : decode cX0_spoonsAfterUndoing 37 = .ok (.invokevirtual 219, 3) := by decide +kernel
theorem dX0_spoonsAfterUndoing_40 : decode cX0_spoonsAfterUndoing 40 = .ok (.ifCond .eq 14, 3) := by decide +kernel
theorem dX0_spoonsAfterUndoing_43 : decode cX0_spoonsAfterUndoing 43 = .ok (.aload_n 0, 1) := by decide +kernel
theorem dX0_spoonsAfterUndoing_44 : decode cX0_spoonsAfterUndoing 44 = .ok (.getfield 31, 3) := by decide +kernel
theorem dX0_spoonsAfterUndoing_47 : decode cX0_spoonsAfterUndoing 47 = .ok (.iload 5, 2) := by decide +kernel
theorem dX0_spoonsAfterUndoing_49 : decode cX0_spoonsAfterUndoing 49 = .ok (.invokestatic 102, 3) := by decide +kernel
theorem dX0_spoonsAfterUndoing_52 : decode cX0_spoonsAfterUndoing 52 = .ok (.istore 4, 2) := by decide +kernel
theorem dX0_spoonsAfterUndoing_54 : decode cX0_spoonsAfterUndoing 54 = .ok (.iinc 5 (-1), 3) := by decide +kernel
theorem dX0_spoonsAfterUndoing_57 : decode cX0_spoonsAfterUndoing 57 = .ok (.goto (-46), 3) := by decide +kernel
theorem dX0_spoonsAfterUndoing_60 : decode cX0_spoonsAfterUndoing 60 = .ok (.iload 4, 2) := by decide +kernel
theorem dX0_spoonsAfterUndoing_62 : decode cX0_spoonsAfterUndoing 62 = .ok (.ireturn, 1) := by decide +kernel
theorem dX1_init_0 : decode cX1_init 0 = .ok (.aload_n 0, 1) := by decide +kernel
theorem dX1_init_1 : decode cX1_init 1 = .ok (.aload_n 1, 1) := by decide +kernel
theorem dX1_init_2 : decode cX1_init 2 = .ok (.putfield 3, 3) := by decide +kernel
theorem dX1_init_5 : decode cX1_init 5 = .ok (.aload_n 0, 1) := by decide +kernel
theorem dX1_init_6 : decode cX1_init 6 = .ok (.invokespecial 9, 3) := by decide +kernel
theorem dX1_init_9 : decode cX1_init 9 = .ok (.aload_n 0, 1) := by decide +kernel
theorem dX1_init_10 : decode cX1_init 10 = .ok (.bipush 8, 2) := by decide +kernel
theorem dX1_init_12 : decode cX1_init 12 = .ok (.newarray .int, 2) := by decide +kernel
theorem dX1_init_14 : decode cX1_init 14 = .ok (.putfield 15, 3) := by decide +kernel
theorem dX1_init_17 : decode cX1_init 17 = .ok (.aload_n 0, 1) := by decide +kernel
theorem dX1_init_18 : decode cX1_init 18 = .ok (.bipush 8, 2) := by decide +kernel
theorem dX1_init_20 : decode cX1_init 20 = .ok (.newarray .int, 2) := by decide +kernel
theorem dX1_init_22 : decode cX1_init 22 = .ok (.putfield 19, 3) := by decide +kernel
theorem dX1_init_25 : decode cX1_init 25 = .ok (.aload_n 0, 1) := by decide +kernel
theorem dX1_init_26 : decode cX1_init 26 = .ok (.bipush 8, 2) := by decide +kernel
theorem dX1_init_28 : decode cX1_init 28 = .ok (.newarray .int, 2) := by decide +kernel
theorem dX1_init_30 : decode cX1_init 30 = .ok (.putfield 22, 3) := by decide +kernel
theorem dX1_init_33 : decode cX1_init 33 = .ok (.aload_n 0, 1) := by decide +kernel
theorem dX1_init_34 : decode cX1_init 34 = .ok (.bipush 120, 2) := by decide +kernel
theorem dX1_init_36 : decode cX1_init 36 = .ok (.newarray .int, 2) := by decide +kernel
theorem dX1_init_38 : decode cX1_init 38 = .ok (.putfield 25, 3) := by decide +kernel
theorem dX1_init_41 : decode cX1_init 41 = .ok (.aload_n 0, 1) := by decide +kernel
theorem dX1_init_42 : decode cX1_init 42 = .ok (.bipush 120, 2) := by decide +kernel
theorem dX1_init_44 : decode cX1_init 44 = .ok (.newarray .int, 2) := by decide +kernel
theorem dX1_init_46 : decode cX1_init 46 = .ok (.putfield 28, 3) := by decide +kernel
theorem dX1_init_49 : decode cX1_init 49 = .ok (.aload_n 0, 1) := by decide +kernel
theorem dX1_init_50 : decode cX1_init 50 = .ok (.bipush 120, 2) := by decide +kernel
theorem dX1_init_52 : decode cX1_init 52 = .ok (.newarray .int, 2) := by decide +kernel
theorem dX1_init_54 : decode cX1_init 54 = .ok (.putfield 31, 3) := by decide +kernel
theorem dX1_init_57 : decode cX1_init 57 = .ok (.aload_n 0, 1) := by decide +kernel
theorem dX1_init_58 : decode cX1_init 58 = .ok (.bipush 120, 2) := by decide +kernel
theorem dX1_init_60 : decode cX1_init 60 = .ok (.newarray .int, 2) := by decide +kernel
theorem dX1_init_62 : decode cX1_init 62 = .ok (.putfield 34, 3) := by decide +kernel
theorem dX1_init_65 : decode cX1_init 65 = .ok (.aload_n 0, 1) := by decide +kernel
theorem dX1_init_66 : decode cX1_init 66 = .ok (.bipush 120, 2) := by decide +kernel
theorem dX1_init_68 : decode cX1_init 68 = .ok (.newarray .int, 2) := by decide +kernel
theorem dX1_init_70 : decode cX1_init 70 = .ok (.putfield 37, 3) := by decide +kernel
theorem dX1_init_73 : decode cX1_init 73 = .ok (.aload_n 0, 1) := by decide +kernel
theorem dX1_init_74 : decode cX1_init 74 = .ok (.bipush 120, 2) := by decide +kernel
theorem dX1_init_76 : decode cX1_init 76 = .ok (.newarray .int, 2) := by decide +kernel
theorem dX1_init_78 : decode cX1_init 78 = .ok (.putfield 40, 3) := by decide +kernel
theorem dX1_init_81 : decode cX1_init 81 = .ok (.iconst 0, 1) := by decide +kernel
theorem dX1_init_82 : decode cX1_init 82 = .ok (.istore_n 2, 1) := by decide +kernel
theorem dX1_init_83 : decode cX1_init 83 = .ok (.iload_n 2, 1) := by decide +kernel
theorem dX1_init_84 : decode cX1_init 84 = .ok (.bipush 8, 2) := by decide +kernel
theorem dX1_init_86 : decode cX1_init 86 = .ok (.if_icmp .ge 16, 3) := by decide +kernel
theorem dX1_init_89 : decode cX1_init 89 = .ok (.aload_n 0, 1) := by decide +kernel
theorem dX1_init_90 : decode cX1_init 90 = .ok (.getfield 22, 3) := by decide +kernel
theorem dX1_init_93 : decode cX1_init 93 = .ok (.iload_n 2, 1) := by decide +kernel
theorem dX1_init_94 : decode cX1_init 94 = .ok (.iconst (-1), 1) := by decide +kernel
theorem dX1_init_95 : decode cX1_init 95 = .ok (.iastore, 1) := by decide +kernel
theorem dX1_init_96 : decode cX1_init 96 = .ok (.iinc 2 1, 3) := by decide +kernel
theorem dX1_init_99 : decode cX1_init 99 = .ok (.goto (-16), 3) := by decide +kernel
theorem dX1_init_102 : decode cX1_init 102 = .ok (.return_, 1) := by decide +kernel
theorem dX1_copy_0 : decode cX1_copy 0 = .ok (.aload_n 1, 1) := by decide +kernel
theorem dX1_copy_1 : decode cX1_copy 1 = .ok (.iconst 0, 1) := by decide +kernel
theorem dX1_copy_2 : decode cX1_copy 2 = .ok (.aload_n 2, 1) := by decide +kernel
theorem dX1_copy_3 : decode cX1_copy 3 = .ok (.iconst 0, 1) := by decide +kernel
theorem dX1_copy_4 : decode cX1_copy 4 = .ok (.aload_n 1, 1) := by decide +kernel
theorem dX1_copy_5 : decode cX1_copy 5 = .ok (.arraylength, 1) := by decide +kernel
theorem dX1_copy_6 : decode cX1_copy 6 = .ok (.invokestatic 43, 3) := by decide +kernel
theorem dX1_copy_9 : decode cX1_copy 9 = .ok (.return_, 1) := by decide +kernel
set_option maxRecDepth 20000 in
theorem ggX1_become_X1_copy : GoodIn wsX1_become wsX1_copy := goodIn_r _ [16, 17, 18, 19, 20] (by decide +kernel) (by decide +kernel)
set_option maxRecDepth 20000 in
theorem gX1_become_X1_copy : GoodIn wsX1_become (wsV RX1 56 RX1 yX1_copy wsX1_copy) := goodIn_app (goodIn_of _ (by decide +kernel)) ggX1_become_X1_copy
theorem dX1_become_0 : decode cX1_become 0 = .ok (.aload_n 0, 1) := by decide +kernel
theorem dX1_become_1 : decode cX1_become 1 = .ok (.aload_n 1, 1) := by decide +kernel
theorem dX1_become_2 : decode cX1_become 2 = .ok (.getfield 49, 3) := by decide +kernel
theorem dX1_become_5 : decode cX1_become 5 = .ok (.putfield 49, 3) := by decide +kernel
theorem dX1_become_8 : decode cX1_become 8 = .ok (.aload_n 0, 1) := by decide +kernel
theorem dX1_become_9 : decode cX1_become 9 = .ok (.aload_n 1, 1) := by decide +kernel
theorem dX1_become_10 : decode cX1_become 10 = .ok (.getfield 53, 3) := by decide +kernel
theorem dX1_become_13 : decode cX1_become 13 = .ok (.putfield 53, 3) := by decide +kernel
theorem dX1_become_16 : decode cX1_become 16 = .ok (.aload_n 0, 1) := by decide +kernel
theorem dX1_become_17 : decode cX1_become 17 = .ok (.aload_n 1, 1) := by decide +kernel
theorem dX1_become_18 : decode cX1_become 18 = .ok (.getfield 15, 3) := by decide +kernel
theorem dX1_become_21 : decode cX1_become 21 = .ok (.aload_n 0, 1) := by decide +kernel
theorem dX1_become_22 : decode cX1_become 22 = .ok (.getfield 15, 3) := by decide +kernel
theorem dX1_become_25 : decode cX1_become 25 = .ok (.invokevirtual 56, 3) := by decide +kernel
theorem dX1_become_28 : decode cX1_become 28 = .ok (.aload_n 0, 1) := by decide +kernel
theorem dX1_become_29 : decode cX1_become 29 = .ok (.aload_n 1, 1) := by decide +kernel
theorem dX1_become_30 : decode cX1_become 30 = .ok (.getfield 19, 3) := by decide +kernel
theorem dX1_become_33 : decode cX1_become 33 = .ok (.aload_n 0, 1) := by decide +kernel
theorem dX1_become_34 : decode cX1_become 34 = .ok (.getfield 19, 3) := by decide +kernel
theorem dX1_become_37 : decode cX1_become 37 = .ok (.invokevirtual 56, 3) := by decide +kernel
theorem dX1_become_40 : decode cX1_become 40 = .ok (.aload_n 0, 1) := by decide +kernel
theorem dX1_become_41 : decode cX1_become 41 = .ok (.aload_n 1, 1) := by decide +kernel
theorem dX1_become_42 : decode cX1_become 42 = .ok (.getfield 22, 3) := by decide +kernel
theorem dX1_become_45 : decode cX1_become 45 = .ok (.aload_n 0, 1) := by decide +kernel
theorem dX1_become_46 : decode cX1_become 46 = .ok (.getfield 22, 3) := by decide +kernel
theorem dX1_become_49 : decode cX1_become 49 = .ok (.invokevirtual 56, 3) := by decide +kernel
theorem dX1_become_52 : decode cX1_become 52 = .ok (.aload_n 0, 1) := by decide +kernel
theorem dX1_become_53 : decode cX1_become 53 = .ok (.aload_n 1, 1) := by decide +kernel
theorem dX1_become_54 : decode cX1_become 54 = .ok (.getfield 25, 3) := by decide +kernel
theorem dX1_become_57 : decode cX1_become 57 = .ok (.aload_n 0, 1) := by decide +kernel
theorem dX1_become_58 : decode cX1_become 58 = .ok (.getfield 25, 3) := by decide +kernel
theorem dX1_become_61 : decode cX1_become 61 = .ok (.invokevirtual 56, 3) := by decide +kernel
theorem dX1_become_64 : decode cX1_become 64 = .ok (.aload_n 0, 1) := by decide +kernel
theorem dX1_become_65 : decode cX1_become 65 = .ok (.aload_n 1, 1) := by decide +kernel
theorem dX1_become_66 : decode cX1_become 66 = .ok (.getfield 28, 3) := by decide +kernel
theorem dX1_become_69 : decode cX1_become 69 = .ok (.aload_n 0, 1) := by decide +kernel
theorem dX1_become_70 : decode cX1_become 70 = .ok (.getfield 28, 3) := by decide +kernel
theorem dX1_become_73 : decode cX1_become 73 = .ok (.invokevirtual 56, 3) := by decide +kernel
theorem dX1_become_76 : decode cX1_become 76 = .ok (.aload_n 0, 1) := by decide +kernel
theorem dX1_become_77 : decode cX1_become 77 = .ok (.aload_n 1, 1) := by decide +kernel
theorem dX1_become_78 : decode cX1_become 78 = .ok (.getfield 31, 3) := by decide +kernel
theorem dX1_become_81 : decode cX1_become 81 = .ok (.aload_n 0, 1) := by decide +kernel
theorem dX1_become_82 : decode cX1_become 82 = .ok (.getfield 31, 3) := by decide +kernel
theorem dX1_become_85 : decode cX1_become 85 = .ok (.invokevirtual 56, 3) := by decide +kernel
theorem dX1_become_88 : decode cX1_become 88 = .ok (.aload_n 0, 1) := by decide +kernel
theorem dX1_become_89 : decode cX1_become 89 = .ok (.aload_n 1, 1) := by decide +kernel
theorem dX1_become_90 : decode cX1_become 90 = .ok (.getfield 34, 3) := by decide +kernel
theorem dX1_become_93 : decode cX1_become 93 = .ok (.aload_n 0, 1) := by decide +kernel
theorem dX1_become_94 : decode cX1_become 94 = .ok (.getfield 34, 3) := by decide +kernel
theorem dX1_become_97 : decode cX1_become 97 = .ok (.invokevirtual 56, 3) := by decide +kernel
theorem dX1_become_100 : decode cX1_become 100 = .ok (.aload_n 0, 1) := by decide +kernel
theorem dX1_become_101 : decode cX1_become 101 = .ok (.aload_n 1, 1) := by decide +kernel
theorem dX1_become_102 : decode cX1_become 102 = .ok (.getfield 37, 3) := by decide +kernel
theorem dX1_become_105 : decode cX1_become 105 = .ok (.aload_n 0, 1) := by decide +kernel
theorem dX1_become_106 : decode cX1_become 106 = .ok (.getfield 37, 3) := by decide +kernel
theorem dX1_become_109 : decode cX1_become 109 = .ok (.invokevirtual 56, 3) := by decide +kernel
theorem dX1_become_112 : decode cX1_become 112 = .ok (.aload_n 0, 1) := by decide +kernel
theorem dX1_become_113 : decode cX1_become 113 = .ok (.aload_n 1, 1) := by decide +kernel
theorem dX1_become_114 : decode cX1_become 114 = .ok (.getfield 40, 3) := by decide +kernel
theorem dX1_become_117 : decode cX1_become 117 = .ok (.aload_n 0, 1) := by decide +kernel
theorem dX1_become_118 : decode cX1_become 118 = .ok (.getfield 40, 3) := by decide +kernel
theorem dX1_become_121 : decode cX1_become 121 = .ok (.invokevirtual 56, 3) := by decide +kernel
theorem dX1_become_124 : decode cX1_become 124 = .ok (.return_, 1) := by decide +kernel
theorem dX1_is_0 : decode cX1_is 0 = .ok (.iconst 3, 1) := by decide +kernel
theorem dX1_is_1 : decode cX1_is 1 = .ok (.istore_n 2, 1) := by decide +kernel
theorem dX1_is_2 : decode cX1_is 2 = .ok (.iconst 0, 1) := by decide +kernel
theorem dX1_is_3 : decode cX1_is 3 = .ok (.istore_n 3, 1) := by decide +kernel
theorem dX1_is_4 : decode cX1_is 4 = .ok (.iload_n 3, 1) := by decide +kernel
theorem dX1_is_5 : decode cX1_is 5 = .ok (.aload_n 0, 1) := by decide +kernel
theorem dX1_is_6 : decode cX1_is 6 = .ok (.getfield 49, 3) := by decide +kernel
theorem dX1_is_9 : decode cX1_is 9 = .ok (.if_icmp .ge 57, 3) := by decide +kernel
theorem dX1_is_12 : decode cX1_is 12 = .ok (.aload_n 0, 1) := by decide +kernel
theorem dX1_is_13 : decode cX1_is 13 = .ok (.getfield 25, 3) := by decide +kernel
theorem dX1_is_16 : decode cX1_is 16 = .ok (.iload_n 3, 1) := by decide +kernel
theorem dX1_is_17 : decode cX1_is 17 = .ok (.iaload, 1) := by decide +kernel
theorem dX1_is_18 : decode cX1_is 18 = .ok (.iload_n 1, 1) := by decide +kernel
theorem dX1_is_19 : decode cX1_is 19 = .ok (.if_icmp .eq 6, 3) := by decide +kernel
theorem dX1_is_22 : decode cX1_is 22 = .ok (.goto 38, 3) := by decide +kernel
theorem dX1_is_25 : decode cX1_is 25 = .ok (.aload_n 0, 1) := by decide +kernel
theorem dX1_is_26 : decode cX1_is 26 = .ok (.getfield 28, 3) := by decide +kernel
theorem dX1_is_29 : decode cX1_is 29 = .ok (.iload_n 3, 1) := by decide +kernel
theorem dX1_is_30 : decode cX1_is 30 = .ok (.iaload, 1) := by decide +kernel
theorem dX1_is_31 : decode cX1_is 31 = .ok (.ifCond .ne 5, 3) := by decide +kernel
theorem dX1_is_34 : decode cX1_is 34 = .ok (.iconst 0, 1) := by decide +kernel
theorem dX1_is_35 : decode cX1_is 35 = .ok (.istore_n 2, 1) := by decide +kernel
theorem dX1_is_36 : decode cX1_is 36 = .ok (.aload_n 0, 1) := by decide +kernel
theorem dX1_is_37 : decode cX1_is 37 = .ok (.getfield 28, 3) := by decide +kernel
theorem dX1_is_40 : decode cX1_is 40 = .ok (.iload_n 3, 1) := by decide +kernel
theorem dX1_is_41 : decode cX1_is 41 = .ok (.iaload, 1) := by decide +kernel
theorem dX1_is_42 : decode cX1_is 42 = .ok (.iconst 2, 1) := by decide +kernel
theorem dX1_is_43 : decode cX1_is 43 = .ok (.if_icmp .ne 5, 3) := by decide +kernel
theorem dX1_is_46 : decode cX1_is 46 = .ok (.iconst 1, 1) := by decide +kernel
theorem dX1_is_47 : decode cX1_is 47 = .ok (.istore_n 2, 1) := by decide +kernel
theorem dX1_is_48 : decode cX1_is 48 = .ok (.aload_n 0, 1) := by decide +kernel
theorem dX1_is_49 : decode cX1_is 49 = .ok (.getfield 28, 3) := by decide +kernel
theorem dX1_is_52 : decode cX1_is 52 = .ok (.iload_n 3, 1) := by decide +kernel
theorem dX1_is_53 : decode cX1_is 53 = .ok (.iaload, 1) := by decide +kernel
theorem dX1_is_54 : decode cX1_is 54 = .ok (.iconst 4, 1) := by decide +kernel
theorem dX1_is_55 : decode cX1_is 55 = .ok (.if_icmp .ne 5, 3) := by decide +kernel
theorem dX1_is_58 : decode cX1_is 58 = .ok (.iconst 2, 1) := by decide +kernel
theorem dX1_is_59 : decode cX1_is 59 = .ok (.istore_n 2, 1) := by decide +kernel
theorem dX1_is_60 : decode cX1_is 60 = .ok (.iinc 3 1, 3) := by decide +kernel
theorem dX1_is_63 : decode cX1_is 63 = .ok (.goto (-59), 3) := by decide +kernel
theorem dX1_is_66 : decode cX1_is 66 = .ok (.iload_n 2, 1) := by decide +kernel
theorem dX1_is_67 : decode cX1_is 67 = .ok (.ireturn, 1) := by decide +kernel
theorem dX1_isTakenBack_0 : decode cX1_isTakenBack 0 = .ok (.iload_n 1, 1) := by decide +kernel
theorem dX1_isTakenBack_1 : decode cX1_isTakenBack 1 = .ok (.iconst 1, 1) := by decide +kernel
theorem dX1_isTakenBack_2 : decode cX1_isTakenBack 2 = .ok (.iadd, 1) := by decide +kernel
theorem dX1_isTakenBack_3 : decode cX1_isTakenBack 3 = .ok (.istore_n 2, 1) := by decide +kernel
theorem dX1_isTakenBack_4 : decode cX1_isTakenBack 4 = .ok (.iload_n 2, 1) := by decide +kernel
theorem dX1_isTakenBack_5 : decode cX1_isTakenBack 5 = .ok (.aload_n 0, 1) := by decide +kernel
theorem dX1_isTakenBack_6 : decode cX1_isTakenBack 6 = .ok (.getfield 49, 3) := by decide +kernel
theorem dX1_isTakenBack_9 : decode cX1_isTakenBack 9 = .ok (.if_icmp .ge 31, 3) := by decide +kernel
theorem dX1_isTakenBack_12 : decode cX1_isTakenBack 12 = .ok (.aload_n 0, 1) := by decide +kernel
theorem dX1_isTakenBack_13 : decode cX1_isTakenBack 13 = .ok (.getfield 28, 3) := by decide +kernel
theorem dX1_isTakenBack_16 : decode cX1_isTakenBack 16 = .ok (.iload_n 2, 1) := by decide +kernel
theorem dX1_isTakenBack_17 : decode cX1_isTakenBack 17 = .ok (.iaload, 1) := by decide +kernel
theorem dX1_isTakenBack_18 : decode cX1_isTakenBack 18 = .ok (.iconst 3, 1) := by decide +kernel
theorem dX1_isTakenBack_19 : decode cX1_isTakenBack 19 = .ok (.if_icmp .ne 15, 3) := by decide +kernel
theorem dX1_isTakenBack_22 : decode cX1_isTakenBack 22 = .ok (.aload_n 0, 1) := by decide +kernel
theorem dX1_isTakenBack_23 : decode cX1_isTakenBack 23 = .ok (.getfield 40, 3) := by decide +kernel
theorem dX1_isTakenBack_26 : decode cX1_isTakenBack 26 = .ok (.iload_n 2, 1) := by decide +kernel
theorem dX1_isTakenBack_27 : decode cX1_isTakenBack 27 = .ok (.iaload, 1) := by decide +kernel
theorem dX1_isTakenBack_28 : decode cX1_isTakenBack 28 = .ok (.iload_n 1, 1) := by decide +kernel
theorem dX1_isTakenBack_29 : decode cX1_isTakenBack 29 = .ok (.if_icmp .ne 5, 3) := by decide +kernel
theorem dX1_isTakenBack_32 : decode cX1_isTakenBack 32 = .ok (.iconst 1, 1) := by decide +kernel
theorem dX1_isTakenBack_33 : decode cX1_isTakenBack 33 = .ok (.ireturn, 1) := by decide +kernel
theorem dX1_isTakenBack_34 : decode cX1_isTakenBack 34 = .ok (.iinc 2 1, 3) := by decide +kernel
theorem dX1_isTakenBack_37 : decode cX1_isTakenBack 37 = .ok (.goto (-33), 3) := by decide +kernel
theorem dX1_isTakenBack_40 : decode cX1_isTakenBack 40 = .ok (.iconst 0, 1) := by decide +kernel
theorem dX1_isTakenBack_41 : decode cX1_isTakenBack 41 = .ok (.ireturn, 1) := by decide +kernel
set_option maxRecDepth 20000 in
theorem ggX1_isKept_X1_isTakenBack : GoodIn wsX1_isKept wsX1_isTakenBack := goodIn_r _ [7, 8, 2, 9, 10, 11, 12, 13, 14, 15, 16, 17, 18, 19, 20, 21, 22, 23, 24] (by decide +kernel) (by decide +kernel)
set_option maxRecDepth 20000 in
theorem gX1_isKept_X1_isTakenBack : GoodIn wsX1_isKept (wsV RX1 60 RX1 yX1_isTakenBack wsX1_isTakenBack) := goodIn_app (goodIn_of _ (by decide +kernel)) ggX1_isKept_X1_isTakenBack
theorem dX1_isKept_0 : decode cX1_isKept 0 = .ok (.aload_n 0, 1) := by decide +kernel
theorem dX1_isKept_1 : decode cX1_isKept 1 = .ok (.getfield 25, 3) := by decide +kernel
theorem dX1_isKept_4 : decode cX1_isKept 4 = .ok (.iload_n 1, 1) := by decide +kernel
theorem dX1_isKept_5 : decode cX1_isKept 5 = .ok (.iaload, 1) := by decide +kernel
theorem dX1_isKept_6 : decode cX1_isKept 6 = .ok (.iload_n 2, 1) := by decide +kernel
theorem dX1_isKept_7 : decode cX1_isKept 7 = .ok (.if_icmp .ne 25, 3) := by decide +kernel
theorem dX1_isKept_10 : decode cX1_isKept 10 = .ok (.aload_n 0, 1) := by decide +kernel
theorem dX1_isKept_11 : decode cX1_isKept 11 = .ok (.getfield 28, 3) := by decide +kernel
theorem dX1_isKept_14 : decode cX1_isKept 14 = .ok (.iload_n 1, 1) := by decide +kernel
theorem dX1_isKept_15 : decode cX1_isKept 15 = .ok (.iaload, 1) := by decide +kernel
theorem dX1_isKept_16 : decode cX1_isKept 16 = .ok (.iconst 1, 1) := by decide +kernel
theorem dX1_isKept_17 : decode cX1_isKept 17 = .ok (.if_icmp .ne 15, 3) := by decide +kernel
theorem dX1_isKept_20 : decode cX1_isKept 20 = .ok (.aload_n 0, 1) := by decide +kernel
theorem dX1_isKept_21 : decode cX1_isKept 21 = .ok (.iload_n 1, 1) := by decide +kernel
theorem dX1_isKept_22 : decode cX1_isKept 22 = .ok (.invokevirtual 60, 3) := by decide +kernel
theorem dX1_isKept_25 : decode cX1_isKept 25 = .ok (.ifCond .ne 7, 3) := by decide +kernel
theorem dX1_isKept_28 : decode cX1_isKept 28 = .ok (.iconst 1, 1) := by decide +kernel
theorem dX1_isKept_29 : decode cX1_isKept 29 = .ok (.goto 4, 3) := by decide +kernel
theorem dX1_isKept_32 : decode cX1_isKept 32 = .ok (.iconst 0, 1) := by decide +kernel
theorem dX1_isKept_33 : decode cX1_isKept 33 = .ok (.ireturn, 1) := by decide +kernel
set_option maxRecDepth 20000 in
theorem ggX1_kept_X1_isKept : GoodIn wsX1_kept wsX1_isKept := goodIn_r _ [6, 7, 8, 9, 10, 11, 5, 12, 1, 13, 14, 15, 16, 17, 18, 19, 20, 21, 22, 23, 24, 25, 26, 27, 28] (by decide +kernel) (by decide +kernel)
set_option maxRecDepth 20000 in
theorem gX1_kept_X1_isKept : GoodIn wsX1_kept (wsV RX1 64 RX1 yX1_isKept wsX1_isKept) := goodIn_app (goodIn_of _ (by decide +kernel)) ggX1_kept_X1_isKept
theorem dX1_kept_0 : decode cX1_kept 0 = .ok (.iconst 0, 1) := by decide +kernel
theorem dX1_kept_1 : decode cX1_kept 1 = .ok (.istore_n 2, 1) := by decide +kernel
theorem dX1_kept_2 : decode cX1_kept 2 = .ok (.iconst 0, 1) := by decide +kernel
theorem dX1_kept_3 : decode cX1_kept 3 = .ok (.istore_n 3, 1) := by decide +kernel
theorem dX1_kept_4 : decode cX1_kept 4 = .ok (.iload_n 3, 1) := by decide +kernel
theorem dX1_kept_5 : decode cX1_kept 5 = .ok (.aload_n 0, 1) := by decide +kernel
theorem dX1_kept_6 : decode cX1_kept 6 = .ok (.getfield 49, 3) := by decide +kernel
theorem dX1_kept_9 : decode cX1_kept 9 = .ok (.if_icmp .ge 26, 3) := by decide +kernel
theorem dX1_kept_12 : decode cX1_kept 12 = .ok (.iload_n 2, 1) := by decide +kernel
theorem dX1_kept_13 : decode cX1_kept 13 = .ok (.aload_n 0, 1) := by decide +kernel
theorem dX1_kept_14 : decode cX1_kept 14 = .ok (.iload_n 3, 1) := by decide +kernel
theorem dX1_kept_15 : decode cX1_kept 15 = .ok (.iload_n 1, 1) := by decide +kernel
theorem dX1_kept_16 : decode cX1_kept 16 = .ok (.invokevirtual 64, 3) := by decide +kernel
theorem dX1_kept_19 : decode cX1_kept 19 = .ok (.ifCond .eq 7, 3) := by decide +kernel
theorem dX1_kept_22 : decode cX1_kept 22 = .ok (.iconst 1, 1) := by decide +kernel
theorem dX1_kept_23 : decode cX1_kept 23 = .ok (.goto 4, 3) := by decide +kernel
theorem dX1_kept_26 : decode cX1_kept 26 = .ok (.iconst 0, 1) := by decide +kernel
theorem dX1_kept_27 : decode cX1_kept 27 = .ok (.iadd, 1) := by decide +kernel
theorem dX1_kept_28 : decode cX1_kept 28 = .ok (.istore_n 2, 1) := by decide +kernel
theorem dX1_kept_29 : decode cX1_kept 29 = .ok (.iinc 3 1, 3) := by decide +kernel
theorem dX1_kept_32 : decode cX1_kept 32 = .ok (.goto (-28), 3) := by decide +kernel
theorem dX1_kept_35 : decode cX1_kept 35 = .ok (.iload_n 2, 1) := by decide +kernel
theorem dX1_kept_36 : decode cX1_kept 36 = .ok (.ireturn, 1) := by decide +kernel
set_option maxRecDepth 20000 in
theorem ggX1_room_X1_is : GoodIn wsX1_room wsX1_is := goodIn_r _ [7, 1, 8, 9, 23, 24, 25, 26, 27, 28, 29, 30, 31, 32, 33, 34, 35, 36, 37] (by decide +kernel) (by decide +kernel)
set_option maxRecDepth 20000 in
theorem gX1_room_X1_is : GoodIn wsX1_room (wsV RX1 71 RX1 yX1_is wsX1_is) := goodIn_app (goodIn_of _ (by decide +kernel)) ggX1_room_X1_is
set_option maxRecDepth 20000 in
theorem ggX1_room_X1_kept : GoodIn wsX1_room wsX1_kept := goodIn_r _ [13, 1, 14, 15, 16, 6, 17, 8, 9, 18, 19, 20, 21, 22, 23, 24, 25, 26, 27, 28, 29, 30, 31, 32, 33, 34, 35, 36, 37] (by decide +kernel) (by decide +kernel)
set_option maxRecDepth 20000 in
theorem gX1_room_X1_kept : GoodIn wsX1_room (wsV RX1 75 RX1 yX1_kept wsX1_kept) := goodIn_app (goodIn_of _ (by decide +kernel)) ggX1_room_X1_kept
theorem dX1_room_0 : decode cX1_room 0 = .ok (.bipush 120, 2) := by decide +kernel
theorem dX1_room_2 : decode cX1_room 2 = .ok (.aload_n 0, 1) := by decide +kernel
theorem dX1_room_3 : decode cX1_room 3 = .ok (.getfield 49, 3) := by decide +kernel
theorem dX1_room_6 : decode cX1_room 6 = .ok (.isub, 1) := by decide +kernel
theorem dX1_room_7 : decode cX1_room 7 = .ok (.istore_n 1, 1) := by decide +kernel
theorem dX1_room_8 : decode cX1_room 8 = .ok (.iconst 0, 1) := by decide +kernel
theorem dX1_room_9 : decode cX1_room 9 = .ok (.istore_n 2, 1) := by decide +kernel
theorem dX1_room_10 : decode cX1_room 10 = .ok (.iload_n 2, 1) := by decide +kernel
theorem dX1_room_11 : decode cX1_room 11 = .ok (.aload_n 0, 1) := by decide +kernel
theorem dX1_room_12 : decode cX1_room 12 = .ok (.getfield 3, 3) := by decide +kernel
theorem dX1_room_15 : decode cX1_room 15 = .ok (.getfield 68, 3) := by decide +kernel
theorem dX1_room_18 : decode cX1_room 18 = .ok (.if_icmp .ge 31, 3) := by decide +kernel
theorem dX1_room_21 : decode cX1_room 21 = .ok (.iload_n 1, 1) := by decide +kernel
theorem dX1_room_22 : decode cX1_room 22 = .ok (.aload_n 0, 1) := by decide +kernel
theorem dX1_room_23 : decode cX1_room 23 = .ok (.iload_n 2, 1) := by decide +kernel
theorem dX1_room_24 : decode cX1_room 24 = .ok (.invokevirtual 71, 3) := by decide +kernel
theorem dX1_room_27 : decode cX1_room 27 = .ok (.ifCond .ne 13, 3) := by decide +kernel
theorem dX1_room_30 : decode cX1_room 30 = .ok (.iconst 1, 1) := by decide +kernel
theorem dX1_room_31 : decode cX1_room 31 = .ok (.aload_n 0, 1) := by decide +kernel
theorem dX1_room_32 : decode cX1_room 32 = .ok (.iload_n 2, 1) := by decide +kernel
theorem dX1_room_33 : decode cX1_room 33 = .ok (.invokevirtual 75, 3) := by decide +kernel
theorem dX1_room_36 : decode cX1_room 36 = .ok (.iadd, 1) := by decide +kernel
theorem dX1_room_37 : decode cX1_room 37 = .ok (.goto 4, 3) := by decide +kernel
theorem dX1_room_40 : decode cX1_room 40 = .ok (.iconst 0, 1) := by decide +kernel
theorem dX1_room_41 : decode cX1_room 41 = .ok (.isub, 1) := by decide +kernel
theorem dX1_room_42 : decode cX1_room 42 = .ok (.istore_n 1, 1) := by decide +kernel
theorem dX1_room_43 : decode cX1_room 43 = .ok (.iinc 2 1, 3) := by decide +kernel
theorem dX1_room_46 : decode cX1_room 46 = .ok (.goto (-36), 3) := by decide +kernel
theorem dX1_room_49 : decode cX1_room 49 = .ok (.iload_n 1, 1) := by decide +kernel
theorem dX1_room_50 : decode cX1_room 50 = .ok (.ireturn, 1) := by decide +kernel
set_option maxRecDepth 20000 in
theorem ggX1_isHeld_X1_is : GoodIn wsX1_isHeld wsX1_is := goodIn_r _ [9, 1, 2, 3, 10, 11, 12, 13, 14, 15, 16, 17, 18, 19, 20, 21, 22, 23, 24] (by decide +kernel) (by decide +kernel)
set_option maxRecDepth 20000 in
theorem gX1_isHeld_X1_is : GoodIn wsX1_isHeld (wsV RX1 71 RX1 yX1_is wsX1_is) := goodIn_app (goodIn_of _ (by decide +kernel)) ggX1_isHeld_X1_is
theorem dX1_isHeld_0 : decode cX1_isHeld 0 = .ok (.iconst 0, 1) := by decide +kernel
theorem dX1_isHeld_1 : decode cX1_isHeld 1 = .ok (.istore_n 3, 1) := by decide +kernel
theorem dX1_isHeld_2 : decode cX1_isHeld 2 = .ok (.iconst 0, 1) := by decide +kernel
theorem dX1_isHeld_3 : decode cX1_isHeld 3 = .ok (.istore 4, 2) := by decide +kernel
theorem dX1_isHeld_5 : decode cX1_isHeld 5 = .ok (.iload 4, 2) := by decide +kernel
theorem dX1_isHeld_7 : decode cX1_isHeld 7 = .ok (.aload_n 0, 1) := by decide +kernel
theorem dX1_isHeld_8 : decode cX1_isHeld 8 = .ok (.getfield 49, 3) := by decide +kernel
theorem dX1_isHeld_11 : decode cX1_isHeld 11 = .ok (.if_icmp .ge 50, 3) := by decide +kernel
theorem dX1_isHeld_14 : decode cX1_isHeld 14 = .ok (.iload_n 3, 1) := by decide +kernel
theorem dX1_isHeld_15 : decode cX1_isHeld 15 = .ok (.aload_n 0, 1) := by decide +kernel
theorem dX1_isHeld_16 : decode cX1_isHeld 16 = .ok (.getfield 25, 3) := by decide +kernel
theorem dX1_isHeld_19 : decode cX1_isHeld 19 = .ok (.iload 4, 2) := by decide +kernel
theorem dX1_isHeld_21 : decode cX1_isHeld 21 = .ok (.iaload, 1) := by decide +kernel
theorem dX1_isHeld_22 : decode cX1_isHeld 22 = .ok (.iload_n 2, 1) := by decide +kernel
theorem dX1_isHeld_23 : decode cX1_isHeld 23 = .ok (.if_icmp .ne 29, 3) := by decide +kernel
theorem dX1_isHeld_26 : decode cX1_isHeld 26 = .ok (.aload_n 0, 1) := by decide +kernel
theorem dX1_isHeld_27 : decode cX1_isHeld 27 = .ok (.getfield 28, 3) := by decide +kernel
theorem dX1_isHeld_30 : decode cX1_isHeld 30 = .ok (.iload 4, 2) := by decide +kernel
theorem dX1_isHeld_32 : decode cX1_isHeld 32 = .ok (.iaload, 1) := by decide +kernel
theorem dX1_isHeld_33 : decode cX1_isHeld 33 = .ok (.iconst 1, 1) := by decide +kernel
theorem dX1_isHeld_34 : decode cX1_isHeld 34 = .ok (.if_icmp .ne 18, 3) := by decide +kernel
theorem dX1_isHeld_37 : decode cX1_isHeld 37 = .ok (.aload_n 0, 1) := by decide +kernel
theorem dX1_isHeld_38 : decode cX1_isHeld 38 = .ok (.getfield 31, 3) := by decide +kernel
theorem dX1_isHeld_41 : decode cX1_isHeld 41 = .ok (.iload 4, 2) := by decide +kernel
theorem dX1_isHeld_43 : decode cX1_isHeld 43 = .ok (.iaload, 1) := by decide +kernel
theorem dX1_isHeld_44 : decode cX1_isHeld 44 = .ok (.iload_n 1, 1) := by decide +kernel
theorem dX1_isHeld_45 : decode cX1_isHeld 45 = .ok (.if_icmp .ne 7, 3) := by decide +kernel
theorem dX1_isHeld_48 : decode cX1_isHeld 48 = .ok (.iconst 1, 1) := by decide +kernel
theorem dX1_isHeld_49 : decode cX1_isHeld 49 = .ok (.goto 4, 3) := by decide +kernel
theorem dX1_isHeld_52 : decode cX1_isHeld 52 = .ok (.iconst 0, 1) := by decide +kernel
theorem dX1_isHeld_53 : decode cX1_isHeld 53 = .ok (.ior, 1) := by decide +kernel
theorem dX1_isHeld_54 : decode cX1_isHeld 54 = .ok (.istore_n 3, 1) := by decide +kernel
theorem dX1_isHeld_55 : decode cX1_isHeld 55 = .ok (.iinc 4 1, 3) := by decide +kernel
theorem dX1_isHeld_58 : decode cX1_isHeld 58 = .ok (.goto (-53), 3) := by decide +kernel
theorem dX1_isHeld_61 : decode cX1_isHeld 61 = .ok (.iload_n 3, 1) := by decide +kernel
theorem dX1_isHeld_62 : decode cX1_isHeld 62 = .ok (.ifCond .eq 15, 3) := by decide +kernel
theorem dX1_isHeld_65 : decode cX1_isHeld 65 = .ok (.aload_n 0, 1) := by decide +kernel
theorem dX1_isHeld_66 : decode cX1_isHeld 66 = .ok (.iload_n 2, 1) := by decide +kernel
theorem dX1_isHeld_67 : decode cX1_isHeld 67 = .ok (.invokevirtual 71, 3) := by decide +kernel
theorem dX1_isHeld_70 : decode cX1_isHeld 70 = .ok (.ifCond .ne 7, 3) := by decide +kernel
theorem dX1_isHeld_73 : decode cX1_isHeld 73 = .ok (.iconst 1, 1) := by decide +kernel
theorem dX1_isHeld_74 : decode cX1_isHeld 74 = .ok (.goto 4, 3) := by decide +kernel
theorem dX1_isHeld_77 : decode cX1_isHeld 77 = .ok (.iconst 0, 1) := by decide +kernel
theorem dX1_isHeld_78 : decode cX1_isHeld 78 = .ok (.ireturn, 1) := by decide +kernel
