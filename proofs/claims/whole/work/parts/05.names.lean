theorem dX0_digest_85 : decode cX0_digest 85 = .ok (.iconst 0, 1) := by decide +kernel
theorem dX0_digest_86 : decode cX0_digest 86 = .ok (.istore 4, 2) := by decide +kernel
theorem dX0_digest_88 : decode cX0_digest 88 = .ok (.iload 4, 2) := by decide +kernel
theorem dX0_digest_90 : decode cX0_digest 90 = .ok (.iconst 5, 1) := by decide +kernel
theorem dX0_digest_91 : decode cX0_digest 91 = .ok (.if_icmp .ge 24, 3) := by decide +kernel
theorem dX0_digest_94 : decode cX0_digest 94 = .ok (.lload_n 1, 1) := by decide +kernel
theorem dX0_digest_95 : decode cX0_digest 95 = .ok (.ldc2_w 199, 3) := by decide +kernel
theorem dX0_digest_98 : decode cX0_digest 98 = .ok (.lmul, 1) := by decide +kernel
theorem dX0_digest_99 : decode cX0_digest 99 = .ok (.aload_n 0, 1) := by decide +kernel
theorem dX0_digest_100 : decode cX0_digest 100 = .ok (.iload_n 3, 1) := by decide +kernel
theorem dX0_digest_101 : decode cX0_digest 101 = .ok (.iload 4, 2) := by decide +kernel
theorem dX0_digest_103 : decode cX0_digest 103 = .ok (.invokevirtual 153, 3) := by decide +kernel
theorem dX0_digest_106 : decode cX0_digest 106 = .ok (.i2l, 1) := by decide +kernel
theorem dX0_digest_107 : decode cX0_digest 107 = .ok (.ladd, 1) := by decide +kernel
theorem dX0_digest_108 : decode cX0_digest 108 = .ok (.lstore_n 1, 1) := by decide +kernel
theorem dX0_digest_109 : decode cX0_digest 109 = .ok (.iinc 4 1, 3) := by decide +kernel
theorem dX0_digest_112 : decode cX0_digest 112 = .ok (.goto (-24), 3) := by decide +kernel
theorem dX0_digest_115 : decode cX0_digest 115 = .ok (.iinc 3 1, 3) := by decide +kernel
theorem dX0_digest_118 : decode cX0_digest 118 = .ok (.goto (-41), 3) := by decide +kernel
theorem dX0_digest_121 : decode cX0_digest 121 = .ok (.iconst 0, 1) := by decide +kernel
theorem dX0_digest_122 : decode cX0_digest 122 = .ok (.istore_n 3, 1) := by decide +kernel
theorem dX0_digest_123 : decode cX0_digest 123 = .ok (.iload_n 3, 1) := by decide +kernel
theorem dX0_digest_124 : decode cX0_digest 124 = .ok (.aload_n 0, 1) := by decide +kernel
theorem dX0_digest_125 : decode cX0_digest 125 = .ok (.getfield 112, 3) := by decide +kernel
theorem dX0_digest_128 : decode cX0_digest 128 = .ok (.if_icmp .ge 40, 3) := by decide +kernel
theorem dX0_digest_131 : decode cX0_digest 131 = .ok (.iconst 0, 1) := by decide +kernel
theorem dX0_digest_132 : decode cX0_digest 132 = .ok (.istore 4, 2) := by decide +kernel
theorem dX0_digest_134 : decode cX0_digest 134 = .ok (.iload 4, 2) := by decide +kernel
theorem dX0_digest_136 : decode cX0_digest 136 = .ok (.bipush 7, 2) := by decide +kernel
theorem dX0_digest_138 : decode cX0_digest 138 = .ok (.if_icmp .ge 24, 3) := by decide +kernel
theorem dX0_digest_141 : decode cX0_digest 141 = .ok (.lload_n 1, 1) := by decide +kernel
theorem dX0_digest_142 : decode cX0_digest 142 = .ok (.ldc2_w 199, 3) := by decide +kernel
theorem dX0_digest_145 : decode cX0_digest 145 = .ok (.lmul, 1) := by decide +kernel
theorem dX0_digest_146 : decode cX0_digest 146 = .ok (.aload_n 0, 1) := by decide +kernel
theorem dX0_digest_147 : decode cX0_digest 147 = .ok (.iload_n 3, 1) := by decide +kernel
theorem dX0_digest_148 : decode cX0_digest 148 = .ok (.iload 4, 2) := by decide +kernel
theorem dX0_digest_150 : decode cX0_digest 150 = .ok (.invokevirtual 158, 3) := by decide +kernel
theorem dX0_digest_153 : decode cX0_digest 153 = .ok (.i2l, 1) := by decide +kernel
theorem dX0_digest_154 : decode cX0_digest 154 = .ok (.ladd, 1) := by decide +kernel
theorem dX0_digest_155 : decode cX0_digest 155 = .ok (.lstore_n 1, 1) := by decide +kernel
theorem dX0_digest_156 : decode cX0_digest 156 = .ok (.iinc 4 1, 3) := by decide +kernel
theorem dX0_digest_159 : decode cX0_digest 159 = .ok (.goto (-25), 3) := by decide +kernel
theorem dX0_digest_162 : decode cX0_digest 162 = .ok (.iinc 3 1, 3) := by decide +kernel
theorem dX0_digest_165 : decode cX0_digest 165 = .ok (.goto (-42), 3) := by decide +kernel
theorem dX0_digest_168 : decode cX0_digest 168 = .ok (.lload_n 1, 1) := by decide +kernel
theorem dX0_digest_169 : decode cX0_digest 169 = .ok (.lreturn, 1) := by decide +kernel
set_option maxRecDepth 20000 in
theorem ggX0_at_X0_isBelow : GoodIn wsX0_at wsX0_isBelow := goodIn_r _ [4] (by decide +kernel) (by decide +kernel)
set_option maxRecDepth 20000 in
theorem gX0_at_X0_isBelow : GoodIn wsX0_at (va_wsS RX0 141 yX0_isBelow wsX0_isBelow) := goodIn_app (goodIn_of _ (by decide +kernel)) ggX0_at_X0_isBelow
theorem dX0_at_0 : decode cX0_at 0 = .ok (.iload_n 1, 1) := by decide +kernel
theorem dX0_at_1 : decode cX0_at 1 = .ok (.aload_n 0, 1) := by decide +kernel
theorem dX0_at_2 : decode cX0_at 2 = .ok (.arraylength, 1) := by decide +kernel
theorem dX0_at_3 : decode cX0_at 3 = .ok (.invokestatic 141, 3) := by decide +kernel
theorem dX0_at_6 : decode cX0_at 6 = .ok (.ifCond .eq 9, 3) := by decide +kernel
theorem dX0_at_9 : decode cX0_at 9 = .ok (.aload_n 0, 1) := by decide +kernel
theorem dX0_at_10 : decode cX0_at 10 = .ok (.iload_n 1, 1) := by decide +kernel
theorem dX0_at_11 : decode cX0_at 11 = .ok (.iaload, 1) := by decide +kernel
theorem dX0_at_12 : decode cX0_at 12 = .ok (.goto 4, 3) := by decide +kernel
theorem dX0_at_15 : decode cX0_at 15 = .ok (.iconst (-1), 1) := by decide +kernel
theorem dX0_at_16 : decode cX0_at 16 = .ok (.ireturn, 1) := by decide +kernel
set_option maxRecDepth 20000 in
theorem ggX0_put_X0_isBelow : GoodIn wsX0_put wsX0_isBelow := goodIn_r _ [4] (by decide +kernel) (by decide +kernel)
set_option maxRecDepth 20000 in
theorem gX0_put_X0_isBelow : GoodIn wsX0_put (va_wsS RX0 141 yX0_isBelow wsX0_isBelow) := goodIn_app (goodIn_of _ (by decide +kernel)) ggX0_put_X0_isBelow
theorem dX0_put_0 : decode cX0_put 0 = .ok (.iload_n 1, 1) := by decide +kernel
theorem dX0_put_1 : decode cX0_put 1 = .ok (.aload_n 0, 1) := by decide +kernel
theorem dX0_put_2 : decode cX0_put 2 = .ok (.arraylength, 1) := by decide +kernel
theorem dX0_put_3 : decode cX0_put 3 = .ok (.invokestatic 141, 3) := by decide +kernel
theorem dX0_put_6 : decode cX0_put 6 = .ok (.ifCond .eq 7, 3) := by decide +kernel
theorem dX0_put_9 : decode cX0_put 9 = .ok (.aload_n 0, 1) := by decide +kernel
theorem dX0_put_10 : decode cX0_put 10 = .ok (.iload_n 1, 1) := by decide +kernel
theorem dX0_put_11 : decode cX0_put 11 = .ok (.iload_n 2, 1) := by decide +kernel
theorem dX0_put_12 : decode cX0_put 12 = .ok (.iastore, 1) := by decide +kernel
theorem dX0_put_13 : decode cX0_put 13 = .ok (.return_, 1) := by decide +kernel
theorem dX0_isBelow_0 : decode cX0_isBelow 0 = .ok (.iload_n 0, 1) := by decide +kernel
theorem dX0_isBelow_1 : decode cX0_isBelow 1 = .ok (.ifCond .lt 12, 3) := by decide +kernel
theorem dX0_isBelow_4 : decode cX0_isBelow 4 = .ok (.iload_n 0, 1) := by decide +kernel
theorem dX0_isBelow_5 : decode cX0_isBelow 5 = .ok (.iload_n 1, 1) := by decide +kernel
theorem dX0_isBelow_6 : decode cX0_isBelow 6 = .ok (.if_icmp .ge 7, 3) := by decide +kernel
theorem dX0_isBelow_9 : decode cX0_isBelow 9 = .ok (.iconst 1, 1) := by decide +kernel
theorem dX0_isBelow_10 : decode cX0_isBelow 10 = .ok (.goto 4, 3) := by decide +kernel
theorem dX0_isBelow_13 : decode cX0_isBelow 13 = .ok (.iconst 0, 1) := by decide +kernel
theorem dX0_isBelow_14 : decode cX0_isBelow 14 = .ok (.ireturn, 1) := by decide +kernel
theorem dX0_sumOf_0 : decode cX0_sumOf 0 = .ok (.iconst 0, 1) := by decide +kernel
theorem dX0_sumOf_1 : decode cX0_sumOf 1 = .ok (.istore_n 1, 1) := by decide +kernel
theorem dX0_sumOf_2 : decode cX0_sumOf 2 = .ok (.iconst 0, 1) := by decide +kernel
theorem dX0_sumOf_3 : decode cX0_sumOf 3 = .ok (.istore_n 2, 1) := by decide +kernel
theorem dX0_sumOf_4 : decode cX0_sumOf 4 = .ok (.iload_n 2, 1) := by decide +kernel
theorem dX0_sumOf_5 : decode cX0_sumOf 5 = .ok (.aload_n 0, 1) := by decide +kernel
theorem dX0_sumOf_6 : decode cX0_sumOf 6 = .ok (.arraylength, 1) := by decide +kernel
theorem dX0_sumOf_7 : decode cX0_sumOf 7 = .ok (.if_icmp .ge 15, 3) := by decide +kernel
theorem dX0_sumOf_10 : decode cX0_sumOf 10 = .ok (.iload_n 1, 1) := by decide +kernel
theorem dX0_sumOf_11 : decode cX0_sumOf 11 = .ok (.aload_n 0, 1) := by decide +kernel
theorem dX0_sumOf_12 : decode cX0_sumOf 12 = .ok (.iload_n 2, 1) := by decide +kernel
theorem dX0_sumOf_13 : decode cX0_sumOf 13 = .ok (.iaload, 1) := by decide +kernel
theorem dX0_sumOf_14 : decode cX0_sumOf 14 = .ok (.iadd, 1) := by decide +kernel
theorem dX0_sumOf_15 : decode cX0_sumOf 15 = .ok (.istore_n 1, 1) := by decide +kernel
theorem dX0_sumOf_16 : decode cX0_sumOf 16 = .ok (.iinc 2 1, 3) := by decide +kernel
theorem dX0_sumOf_19 : decode cX0_sumOf 19 = .ok (.goto (-15), 3) := by decide +kernel
theorem dX0_sumOf_22 : decode cX0_sumOf 22 = .ok (.iload_n 1, 1) := by decide +kernel
theorem dX0_sumOf_23 : decode cX0_sumOf 23 = .ok (.ireturn, 1) := by decide +kernel
set_option maxRecDepth 20000 in
theorem ggX0_potAnswer_X0_at : GoodIn wsX0_potAnswer wsX0_at := goodIn_r _ [7, 8, 9, 6, 10] (by decide +kernel) (by decide +kernel)
set_option maxRecDepth 20000 in
theorem gX0_potAnswer_X0_at : GoodIn wsX0_potAnswer (va_wsS RX0 102 yX0_at wsX0_at) := goodIn_app (goodIn_of _ (by decide +kernel)) ggX0_potAnswer_X0_at
set_option maxRecDepth 20000 in
theorem ggX0_potAnswer_X0_holderOf : GoodIn wsX0_potAnswer wsX0_holderOf := goodIn_r _ [14, 15, 16, 17, 18, 4, 5, 6, 7, 8, 9, 10, 19, 20, 21, 22, 23, 28, 29, 30, 31, 32, 33, 34, 35, 36, 37, 38, 39, 40, 41, 42] (by decide +kernel) (by decide +kernel)
set_option maxRecDepth 20000 in
theorem gX0_potAnswer_X0_holderOf : GoodIn wsX0_potAnswer (wsV RX0 96 RX0 yX0_holderOf wsX0_holderOf) := goodIn_app (goodIn_of _ (by decide +kernel)) ggX0_potAnswer_X0_holderOf
set_option maxRecDepth 20000 in
theorem ggX0_potAnswer_X0_latestLineOf : GoodIn wsX0_potAnswer wsX0_latestLineOf := goodIn_r _ [27, 15, 18, 4, 5, 6, 7, 8, 9, 10, 28, 29, 30, 31, 32, 33, 34, 35, 36, 37, 38, 39, 40, 41, 42] (by decide +kernel) (by decide +kernel)
set_option maxRecDepth 20000 in
theorem gX0_potAnswer_X0_latestLineOf : GoodIn wsX0_potAnswer (wsV RX0 123 RX0 yX0_latestLineOf wsX0_latestLineOf) := goodIn_app (goodIn_of _ (by decide +kernel)) ggX0_potAnswer_X0_latestLineOf
theorem dX0_potAnswer_0 : decode cX0_potAnswer 0 = .ok (.iload_n 2, 1) := by decide +kernel
theorem dX0_potAnswer_1 : decode cX0_potAnswer 1 = .ok (.tableswitch 64 0 3 #[31, 40, 49, 58], 31) := by decide +kernel
theorem dX0_potAnswer_32 : decode cX0_potAnswer 32 = .ok (.aload_n 0, 1) := by decide +kernel
theorem dX0_potAnswer_33 : decode cX0_potAnswer 33 = .ok (.getfield 9, 3) := by decide +kernel
theorem dX0_potAnswer_36 : decode cX0_potAnswer 36 = .ok (.iload_n 1, 1) := by decide +kernel
theorem dX0_potAnswer_37 : decode cX0_potAnswer 37 = .ok (.invokestatic 102, 3) := by decide +kernel
theorem dX0_potAnswer_40 : decode cX0_potAnswer 40 = .ok (.ireturn, 1) := by decide +kernel
theorem dX0_potAnswer_41 : decode cX0_potAnswer 41 = .ok (.aload_n 0, 1) := by decide +kernel
theorem dX0_potAnswer_42 : decode cX0_potAnswer 42 = .ok (.getfield 13, 3) := by decide +kernel
theorem dX0_potAnswer_45 : decode cX0_potAnswer 45 = .ok (.iload_n 1, 1) := by decide +kernel
theorem dX0_potAnswer_46 : decode cX0_potAnswer 46 = .ok (.invokestatic 102, 3) := by decide +kernel
theorem dX0_potAnswer_49 : decode cX0_potAnswer 49 = .ok (.ireturn, 1) := by decide +kernel
theorem dX0_potAnswer_50 : decode cX0_potAnswer 50 = .ok (.aload_n 0, 1) := by decide +kernel
theorem dX0_potAnswer_51 : decode cX0_potAnswer 51 = .ok (.getfield 16, 3) := by decide +kernel
theorem dX0_potAnswer_54 : decode cX0_potAnswer 54 = .ok (.iload_n 1, 1) := by decide +kernel
theorem dX0_potAnswer_55 : decode cX0_potAnswer 55 = .ok (.invokestatic 102, 3) := by decide +kernel
theorem dX0_potAnswer_58 : decode cX0_potAnswer 58 = .ok (.ireturn, 1) := by decide +kernel
theorem dX0_potAnswer_59 : decode cX0_potAnswer 59 = .ok (.aload_n 0, 1) := by decide +kernel
theorem dX0_potAnswer_60 : decode cX0_potAnswer 60 = .ok (.iload_n 1, 1) := by decide +kernel
theorem dX0_potAnswer_61 : decode cX0_potAnswer 61 = .ok (.invokevirtual 96, 3) := by decide +kernel
theorem dX0_potAnswer_64 : decode cX0_potAnswer 64 = .ok (.ireturn, 1) := by decide +kernel
theorem dX0_potAnswer_65 : decode cX0_potAnswer 65 = .ok (.aload_n 0, 1) := by decide +kernel
theorem dX0_potAnswer_66 : decode cX0_potAnswer 66 = .ok (.iload_n 1, 1) := by decide +kernel
theorem dX0_potAnswer_67 : decode cX0_potAnswer 67 = .ok (.invokevirtual 123, 3) := by decide +kernel
theorem dX0_potAnswer_70 : decode cX0_potAnswer 70 = .ok (.ireturn, 1) := by decide +kernel
set_option maxRecDepth 20000 in
theorem ggX0_dishAnswer_X0_at : GoodIn wsX0_dishAnswer wsX0_at := goodIn_r _ [6, 7, 8, 5, 9] (by decide +kernel) (by decide +kernel)
set_option maxRecDepth 20000 in
theorem gX0_dishAnswer_X0_at : GoodIn wsX0_dishAnswer (va_wsS RX0 102 yX0_at wsX0_at) := goodIn_app (goodIn_of _ (by decide +kernel)) ggX0_dishAnswer_X0_at
set_option maxRecDepth 20000 in
theorem ggX0_dishAnswer_X0_linesOf : GoodIn wsX0_dishAnswer wsX0_linesOf := goodIn_r _ [13, 2, 14, 3, 4, 5, 6, 7, 8, 9, 42, 43, 44, 45, 46, 47, 48, 49, 50, 51, 52, 53, 54, 55, 56] (by decide +kernel) (by decide +kernel)
set_option maxRecDepth 20000 in
theorem gX0_dishAnswer_X0_linesOf : GoodIn wsX0_dishAnswer (wsV RX0 201 RX0 yX0_linesOf wsX0_linesOf) := goodIn_app (goodIn_of _ (by decide +kernel)) ggX0_dishAnswer_X0_linesOf
set_option maxRecDepth 20000 in
theorem ggX0_dishAnswer_X0_changesNotTakenBack : GoodIn wsX0_dishAnswer wsX0_changesNotTakenBack := goodIn_r _ [18, 19, 20, 21, 5, 22, 14, 23, 24, 3, 4, 6, 7, 8, 9, 42, 43, 44, 45, 46, 47, 48, 49, 50, 51, 52, 53, 54, 55, 56] (by decide +kernel) (by decide +kernel)
set_option maxRecDepth 20000 in
theorem gX0_dishAnswer_X0_changesNotTakenBack : GoodIn wsX0_dishAnswer (wsV RX0 204 RX0 yX0_changesNotTakenBack wsX0_changesNotTakenBack) := goodIn_app (goodIn_of _ (by decide +kernel)) ggX0_dishAnswer_X0_changesNotTakenBack
set_option maxRecDepth 20000 in
theorem ggX0_dishAnswer_X0_potsHeldBy : GoodIn wsX0_dishAnswer wsX0_potsHeldBy := goodIn_r _ [28, 29, 30, 31, 5, 32, 2, 14, 23, 33, 3, 4, 6, 7, 8, 9, 34, 35, 36, 37, 1, 42, 43, 44, 45, 46, 47, 48, 49, 50, 51, 52, 53, 54, 55, 56] (by decide +kernel) (by decide +kernel)
set_option maxRecDepth 20000 in
theorem gX0_dishAnswer_X0_potsHeldBy : GoodIn wsX0_dishAnswer (wsV RX0 207 RX0 yX0_potsHeldBy wsX0_potsHeldBy) := goodIn_app (goodIn_of _ (by decide +kernel)) ggX0_dishAnswer_X0_potsHeldBy
set_option maxRecDepth 20000 in
theorem ggX0_dishAnswer_X0_lastLineOf : GoodIn wsX0_dishAnswer wsX0_lastLineOf := goodIn_r _ [41, 2, 14, 3, 4, 5, 6, 7, 8, 9, 42, 43, 44, 45, 46, 47, 48, 49, 50, 51, 52, 53, 54, 55, 56] (by decide +kernel) (by decide +kernel)
set_option maxRecDepth 20000 in
theorem gX0_dishAnswer_X0_lastLineOf : GoodIn wsX0_dishAnswer (wsV RX0 210 RX0 yX0_lastLineOf wsX0_lastLineOf) := goodIn_app (goodIn_of _ (by decide +kernel)) ggX0_dishAnswer_X0_lastLineOf
theorem dX0_dishAnswer_0 : decode cX0_dishAnswer 0 = .ok (.iload_n 2, 1) := by decide +kernel
theorem dX0_dishAnswer_1 : decode cX0_dishAnswer 1 = .ok (.tableswitch 62 0 3 #[31, 40, 46, 56], 31) := by decide +kernel
theorem dX0_dishAnswer_32 : decode cX0_dishAnswer 32 = .ok (.aload_n 0, 1) := by decide +kernel
theorem dX0_dishAnswer_33 : decode cX0_dishAnswer 33 = .ok (.getfield 19, 3) := by decide +kernel
theorem dX0_dishAnswer_36 : decode cX0_dishAnswer 36 = .ok (.iload_n 1, 1) := by decide +kernel
theorem dX0_dishAnswer_37 : decode cX0_dishAnswer 37 = .ok (.invokestatic 102, 3) := by decide +kernel
theorem dX0_dishAnswer_40 : decode cX0_dishAnswer 40 = .ok (.ireturn, 1) := by decide +kernel
theorem dX0_dishAnswer_41 : decode cX0_dishAnswer 41 = .ok (.aload_n 0, 1) := by decide +kernel
theorem dX0_dishAnswer_42 : decode cX0_dishAnswer 42 = .ok (.iload_n 1, 1) := by decide +kernel
theorem dX0_dishAnswer_43 : decode cX0_dishAnswer 43 = .ok (.invokevirtual 201, 3) := by decide +kernel
theorem dX0_dishAnswer_46 : decode cX0_dishAnswer 46 = .ok (.ireturn, 1) := by decide +kernel
theorem dX0_dishAnswer_47 : decode cX0_dishAnswer 47 = .ok (.aload_n 0, 1) := by decide +kernel
theorem dX0_dishAnswer_48 : decode cX0_dishAnswer 48 = .ok (.iload_n 1, 1) := by decide +kernel
theorem dX0_dishAnswer_49 : decode cX0_dishAnswer 49 = .ok (.aload_n 0, 1) := by decide +kernel
theorem dX0_dishAnswer_50 : decode cX0_dishAnswer 50 = .ok (.getfield 112, 3) := by decide +kernel
theorem dX0_dishAnswer_53 : decode cX0_dishAnswer 53 = .ok (.invokevirtual 204, 3) := by decide +kernel
theorem dX0_dishAnswer_56 : decode cX0_dishAnswer 56 = .ok (.ireturn, 1) := by decide +kernel
theorem dX0_dishAnswer_57 : decode cX0_dishAnswer 57 = .ok (.aload_n 0, 1) := by decide +kernel
theorem dX0_dishAnswer_58 : decode cX0_dishAnswer 58 = .ok (.iload_n 1, 1) := by decide +kernel
theorem dX0_dishAnswer_59 : decode cX0_dishAnswer 59 = .ok (.invokevirtual 207, 3) := by decide +kernel
theorem dX0_dishAnswer_62 : decode cX0_dishAnswer 62 = .ok (.ireturn, 1) := by decide +kernel
theorem dX0_dishAnswer_63 : decode cX0_dishAnswer 63 = .ok (.aload_n 0, 1) := by decide +kernel
theorem dX0_dishAnswer_64 : decode cX0_dishAnswer 64 = .ok (.iload_n 1, 1) := by decide +kernel
theorem dX0_dishAnswer_65 : decode cX0_dishAnswer 65 = .ok (.invokevirtual 210, 3) := by decide +kernel
theorem dX0_dishAnswer_68 : decode cX0_dishAnswer 68 = .ok (.ireturn, 1) := by decide +kernel
set_option maxRecDepth 20000 in
theorem ggX0_lineAnswer_X0_at : GoodIn wsX0_lineAnswer wsX0_at := goodIn_r _ [11, 12, 13, 10, 14] (by decide +kernel) (by decide +kernel)
set_option maxRecDepth 20000 in
theorem gX0_lineAnswer_X0_at : GoodIn wsX0_lineAnswer (va_wsS RX0 102 yX0_at wsX0_at) := goodIn_app (goodIn_of _ (by decide +kernel)) ggX0_lineAnswer_X0_at
theorem dX0_lineAnswer_0 : decode cX0_lineAnswer 0 = .ok (.iload_n 2, 1) := by decide +kernel
theorem dX0_lineAnswer_1 : decode cX0_lineAnswer 1 = .ok (.tableswitch 93 0 5 #[39, 48, 57, 66, 75, 84], 39) := by decide +kernel
theorem dX0_lineAnswer_40 : decode cX0_lineAnswer 40 = .ok (.aload_n 0, 1) := by decide +kernel
theorem dX0_lineAnswer_41 : decode cX0_lineAnswer 41 = .ok (.getfield 22, 3) := by decide +kernel
theorem dX0_lineAnswer_44 : decode cX0_lineAnswer 44 = .ok (.iload_n 1, 1) := by decide +kernel
theorem dX0_lineAnswer_45 : decode cX0_lineAnswer 45 = .ok (.invokestatic 102, 3) := by decide +kernel
theorem dX0_lineAnswer_48 : decode cX0_lineAnswer 48 = .ok (.ireturn, 1) := by decide +kernel
theorem dX0_lineAnswer_49 : decode cX0_lineAnswer 49 = .ok (.aload_n 0, 1) := by decide +kernel
theorem dX0_lineAnswer_50 : decode cX0_lineAnswer 50 = .ok (.getfield 25, 3) := by decide +kernel
theorem dX0_lineAnswer_53 : decode cX0_lineAnswer 53 = .ok (.iload_n 1, 1) := by decide +kernel
theorem dX0_lineAnswer_54 : decode cX0_lineAnswer 54 = .ok (.invokestatic 102, 3) := by decide +kernel
theorem dX0_lineAnswer_57 : decode cX0_lineAnswer 57 = .ok (.ireturn, 1) := by decide +kernel
theorem dX0_lineAnswer_58 : decode cX0_lineAnswer 58 = .ok (.aload_n 0, 1) := by decide +kernel
theorem dX0_lineAnswer_59 : decode cX0_lineAnswer 59 = .ok (.getfield 28, 3) := by decide +kernel
theorem dX0_lineAnswer_62 : decode cX0_lineAnswer 62 = .ok (.iload_n 1, 1) := by decide +kernel
theorem dX0_lineAnswer_63 : decode cX0_lineAnswer 63 = .ok (.invokestatic 102, 3) := by decide +kernel
theorem dX0_lineAnswer_66 : decode cX0_lineAnswer 66 = .ok (.ireturn, 1) := by decide +kernel
theorem dX0_lineAnswer_67 : decode cX0_lineAnswer 67 = .ok (.aload_n 0, 1) := by decide +kernel
theorem dX0_lineAnswer_68 : decode cX0_lineAnswer 68 = .ok (.getfield 31, 3) := by decide +kernel
theorem dX0_lineAnswer_71 : decode cX0_lineAnswer 71 = .ok (.iload_n 1, 1) := by decide +kernel
theorem dX0_lineAnswer_72 : decode cX0_lineAnswer 72 = .ok (.invokestatic 102, 3) := by decide +kernel
theorem dX0_lineAnswer_75 : decode cX0_lineAnswer 75 = .ok (.ireturn, 1) := by decide +kernel
theorem dX0_lineAnswer_76 : decode cX0_lineAnswer 76 = .ok (.aload_n 0, 1) := by decide +kernel
theorem dX0_lineAnswer_77 : decode cX0_lineAnswer 77 = .ok (.getfield 34, 3) := by decide +kernel
theorem dX0_lineAnswer_80 : decode cX0_lineAnswer 80 = .ok (.iload_n 1, 1) := by decide +kernel
theorem dX0_lineAnswer_81 : decode cX0_lineAnswer 81 = .ok (.invokestatic 102, 3) := by decide +kernel
theorem dX0_lineAnswer_84 : decode cX0_lineAnswer 84 = .ok (.ireturn, 1) := by decide +kernel
theorem dX0_lineAnswer_85 : decode cX0_lineAnswer 85 = .ok (.aload_n 0, 1) := by decide +kernel
theorem dX0_lineAnswer_86 : decode cX0_lineAnswer 86 = .ok (.getfield 37, 3) := by decide +kernel
theorem dX0_lineAnswer_89 : decode cX0_lineAnswer 89 = .ok (.iload_n 1, 1) := by decide +kernel
theorem dX0_lineAnswer_90 : decode cX0_lineAnswer 90 = .ok (.invokestatic 102, 3) := by decide +kernel
theorem dX0_lineAnswer_93 : decode cX0_lineAnswer 93 = .ok (.ireturn, 1) := by decide +kernel
theorem dX0_lineAnswer_94 : decode cX0_lineAnswer 94 = .ok (.iload_n 1, 1) := by decide +kernel
theorem dX0_lineAnswer_95 : decode cX0_lineAnswer 95 = .ok (.aload_n 0, 1) := by decide +kernel
theorem dX0_lineAnswer_96 : decode cX0_lineAnswer 96 = .ok (.getfield 166, 3) := by decide +kernel
theorem dX0_lineAnswer_99 : decode cX0_lineAnswer 99 = .ok (.if_icmp .ge 7, 3) := by decide +kernel
theorem dX0_lineAnswer_102 : decode cX0_lineAnswer 102 = .ok (.iconst 1, 1) := by decide +kernel
theorem dX0_lineAnswer_103 : decode cX0_lineAnswer 103 = .ok (.goto 4, 3) := by decide +kernel
theorem dX0_lineAnswer_106 : decode cX0_lineAnswer 106 = .ok (.iconst 0, 1) := by decide +kernel
theorem dX0_lineAnswer_107 : decode cX0_lineAnswer 107 = .ok (.ireturn, 1) := by decide +kernel
set_option maxRecDepth 20000 in
theorem ggX0_countAnswer_X0_dishesThatAre : GoodIn wsX0_countAnswer wsX0_dishesThatAre := goodIn_r _ [11, 3, 12, 13, 14, 10, 15, 16, 17, 18, 41, 42, 43, 44, 45, 46, 47, 48, 49, 50, 51, 52, 53, 54, 55] (by decide +kernel) (by decide +kernel)
set_option maxRecDepth 20000 in
theorem gX0_countAnswer_X0_dishesThatAre : GoodIn wsX0_countAnswer (wsV RX0 213 RX0 yX0_dishesThatAre wsX0_dishesThatAre) := goodIn_app (goodIn_of _ (by decide +kernel)) ggX0_countAnswer_X0_dishesThatAre
set_option maxRecDepth 20000 in
theorem ggX0_countAnswer_X0_roomLeft : GoodIn wsX0_countAnswer wsX0_roomLeft := goodIn_r _ [22, 1, 3, 23, 24, 25, 10, 26, 12, 13, 14, 15, 16, 17, 18, 27, 28, 29, 30, 31, 32, 33, 34, 35, 36, 37, 41, 42, 43, 44, 45, 46, 47, 48, 49, 50, 51, 52, 53, 54, 55] (by decide +kernel) (by decide +kernel)
set_option maxRecDepth 20000 in
theorem gX0_countAnswer_X0_roomLeft : GoodIn wsX0_countAnswer (wsV RX0 60 RX0 yX0_roomLeft wsX0_roomLeft) := goodIn_app (goodIn_of _ (by decide +kernel)) ggX0_countAnswer_X0_roomLeft
set_option maxRecDepth 20000 in
theorem ggX0_countAnswer_X0_sumOf : GoodIn wsX0_countAnswer wsX0_sumOf := goodIn_r _ [40] (by decide +kernel) (by decide +kernel)
set_option maxRecDepth 20000 in
theorem gX0_countAnswer_X0_sumOf : GoodIn wsX0_countAnswer (va_wsS RX0 191 yX0_sumOf wsX0_sumOf) := goodIn_app (goodIn_of _ (by decide +kernel)) ggX0_countAnswer_X0_sumOf
theorem dX0_countAnswer_0 : decode cX0_countAnswer 0 = .ok (.iload_n 1, 1) := by decide +kernel
theorem dX0_countAnswer_1 : decode cX0_countAnswer 1 = .ok (.tableswitch 115 0 9 #[55, 60, 65, 70, 76, 82, 88, 94, 99, 107], 55) := by decide +kernel
theorem dX0_countAnswer_56 : decode cX0_countAnswer 56 = .ok (.aload_n 0, 1) := by decide +kernel
theorem dX0_countAnswer_57 : decode cX0_countAnswer 57 = .ok (.getfield 112, 3) := by decide +kernel
theorem dX0_countAnswer_60 : decode cX0_countAnswer 60 = .ok (.ireturn, 1) := by decide +kernel
theorem dX0_countAnswer_61 : decode cX0_countAnswer 61 = .ok (.aload_n 0, 1) := by decide +kernel
theorem dX0_countAnswer_62 : decode cX0_countAnswer 62 = .ok (.getfield 166, 3) := by decide +kernel
theorem dX0_countAnswer_65 : decode cX0_countAnswer 65 = .ok (.ireturn, 1) := by decide +kernel
theorem dX0_countAnswer_66 : decode cX0_countAnswer 66 = .ok (.aload_n 0, 1) := by decide +kernel
theorem dX0_countAnswer_67 : decode cX0_countAnswer 67 = .ok (.getfield 49, 3) := by decide +kernel
theorem dX0_countAnswer_70 : decode cX0_countAnswer 70 = .ok (.ireturn, 1) := by decide +kernel
theorem dX0_countAnswer_71 : decode cX0_countAnswer 71 = .ok (.aload_n 0, 1) := by decide +kernel
theorem dX0_countAnswer_72 : decode cX0_countAnswer 72 = .ok (.iconst 0, 1) := by decide +kernel
theorem dX0_countAnswer_73 : decode cX0_countAnswer 73 = .ok (.invokevirtual 213, 3) := by decide +kernel
theorem dX0_countAnswer_76 : decode cX0_countAnswer 76 = .ok (.ireturn, 1) := by decide +kernel
theorem dX0_countAnswer_77 : decode cX0_countAnswer 77 = .ok (.aload_n 0, 1) := by decide +kernel
theorem dX0_countAnswer_78 : decode cX0_countAnswer 78 = .ok (.iconst 1, 1) := by decide +kernel
theorem dX0_countAnswer_79 : decode cX0_countAnswer 79 = .ok (.invokevirtual 213, 3) := by decide +kernel
theorem dX0_countAnswer_82 : decode cX0_countAnswer 82 = .ok (.ireturn, 1) := by decide +kernel
theorem dX0_countAnswer_83 : decode cX0_countAnswer 83 = .ok (.aload_n 0, 1) := by decide +kernel
theorem dX0_countAnswer_84 : decode cX0_countAnswer 84 = .ok (.iconst 2, 1) := by decide +kernel
theorem dX0_countAnswer_85 : decode cX0_countAnswer 85 = .ok (.invokevirtual 213, 3) := by decide +kernel
theorem dX0_countAnswer_88 : decode cX0_countAnswer 88 = .ok (.ireturn, 1) := by decide +kernel
theorem dX0_countAnswer_89 : decode cX0_countAnswer 89 = .ok (.aload_n 0, 1) := by decide +kernel
theorem dX0_countAnswer_90 : decode cX0_countAnswer 90 = .ok (.iconst 3, 1) := by decide +kernel
theorem dX0_countAnswer_91 : decode cX0_countAnswer 91 = .ok (.invokevirtual 213, 3) := by decide +kernel
theorem dX0_countAnswer_94 : decode cX0_countAnswer 94 = .ok (.ireturn, 1) := by decide +kernel
theorem dX0_countAnswer_95 : decode cX0_countAnswer 95 = .ok (.aload_n 0, 1) := by decide +kernel
theorem dX0_countAnswer_96 : decode cX0_countAnswer 96 = .ok (.invokevirtual 60, 3) := by decide +kernel
theorem dX0_countAnswer_99 : decode cX0_countAnswer 99 = .ok (.ireturn, 1) := by decide +kernel
theorem dX0_countAnswer_100 : decode cX0_countAnswer 100 = .ok (.aload_n 0, 1) := by decide +kernel
theorem dX0_countAnswer_101 : decode cX0_countAnswer 101 = .ok (.getfield 9, 3) := by decide +kernel
theorem dX0_countAnswer_104 : decode cX0_countAnswer 104 = .ok (.invokestatic 191, 3) := by decide +kernel
theorem dX0_countAnswer_107 : decode cX0_countAnswer 107 = .ok (.ireturn, 1) := by decide +kernel
theorem dX0_countAnswer_108 : decode cX0_countAnswer 108 = .ok (.aload_n 0, 1) := by decide +kernel
theorem dX0_countAnswer_109 : decode cX0_countAnswer 109 = .ok (.getfield 13, 3) := by decide +kernel
theorem dX0_countAnswer_112 : decode cX0_countAnswer 112 = .ok (.invokestatic 191, 3) := by decide +kernel
theorem dX0_countAnswer_115 : decode cX0_countAnswer 115 = .ok (.ireturn, 1) := by decide +kernel
theorem dX0_countAnswer_116 : decode cX0_countAnswer 116 = .ok (.aload_n 0, 1) := by decide +kernel
theorem dX0_countAnswer_117 : decode cX0_countAnswer 117 = .ok (.getfield 138, 3) := by decide +kernel
theorem dX0_countAnswer_120 : decode cX0_countAnswer 120 = .ok (.ireturn, 1) := by decide +kernel
set_option maxRecDepth 20000 in
theorem ggX0_isPot_X0_isBelow : GoodIn wsX0_isPot wsX0_isBelow := goodIn_r _ [4] (by decide +kernel) (by decide +kernel)
set_option maxRecDepth 20000 in
theorem gX0_isPot_X0_isBelow : GoodIn wsX0_isPot (va_wsS RX0 141 yX0_isBelow wsX0_isBelow) := goodIn_app (goodIn_of _ (by decide +kernel)) ggX0_isPot_X0_isBelow
theorem dX0_isPot_0 : decode cX0_isPot 0 = .ok (.iload_n 0, 1) := by decide +kernel
theorem dX0_isPot_1 : decode cX0_isPot 1 = .ok (.bipush 8, 2) := by decide +kernel
theorem dX0_isPot_3 : decode cX0_isPot 3 = .ok (.invokestatic 141, 3) := by decide +kernel
theorem dX0_isPot_6 : decode cX0_isPot 6 = .ok (.ireturn, 1) := by decide +kernel
set_option maxRecDepth 20000 in
theorem ggX0_holderOf_X0_at : GoodIn wsX0_holderOf wsX0_at := goodIn_r _ [8, 9, 10, 7, 11] (by decide +kernel) (by decide +kernel)
set_option maxRecDepth 20000 in
theorem gX0_holderOf_X0_at : GoodIn wsX0_holderOf (va_wsS RX0 102 yX0_at wsX0_at) := goodIn_app (goodIn_of _ (by decide +kernel)) ggX0_holderOf_X0_at
set_option maxRecDepth 20000 in
theorem ggX0_holderOf_X0_isOpen : GoodIn wsX0_holderOf wsX0_isOpen := goodIn_r _ [15, 16, 5, 6, 7, 8, 9, 10, 11, 17, 18, 19, 20, 21, 22, 23, 24, 25, 26, 27, 28, 29, 30, 31] (by decide +kernel) (by decide +kernel)
set_option maxRecDepth 20000 in
theorem gX0_holderOf_X0_isOpen : GoodIn wsX0_holderOf (wsV RX0 91 RX0 yX0_isOpen wsX0_isOpen) := goodIn_app (goodIn_of _ (by decide +kernel)) ggX0_holderOf_X0_isOpen
theorem dX0_holderOf_0 : decode cX0_holderOf 0 = .ok (.iconst 0, 1) := by decide +kernel
theorem dX0_holderOf_1 : decode cX0_holderOf 1 = .ok (.istore_n 2, 1) := by decide +kernel
theorem dX0_holderOf_2 : decode cX0_holderOf 2 = .ok (.iload_n 2, 1) := by decide +kernel
theorem dX0_holderOf_3 : decode cX0_holderOf 3 = .ok (.aload_n 0, 1) := by decide +kernel
theorem dX0_holderOf_4 : decode cX0_holderOf 4 = .ok (.getfield 112, 3) := by decide +kernel
theorem dX0_holderOf_7 : decode cX0_holderOf 7 = .ok (.if_icmp .ge 52, 3) := by decide +kernel
theorem dX0_holderOf_10 : decode cX0_holderOf 10 = .ok (.aload_n 0, 1) := by decide +kernel
theorem dX0_holderOf_11 : decode cX0_holderOf 11 = .ok (.getfield 22, 3) := by decide +kernel
theorem dX0_holderOf_14 : decode cX0_holderOf 14 = .ok (.iload_n 2, 1) := by decide +kernel
theorem dX0_holderOf_15 : decode cX0_holderOf 15 = .ok (.invokestatic 102, 3) := by decide +kernel
theorem dX0_holderOf_18 : decode cX0_holderOf 18 = .ok (.istore_n 3, 1) := by decide +kernel
theorem dX0_holderOf_19 : decode cX0_holderOf 19 = .ok (.aload_n 0, 1) := by decide +kernel
theorem dX0_holderOf_20 : decode cX0_holderOf 20 = .ok (.getfield 25, 3) := by decide +kernel
theorem dX0_holderOf_23 : decode cX0_holderOf 23 = .ok (.iload_n 2, 1) := by decide +kernel
theorem dX0_holderOf_24 : decode cX0_holderOf 24 = .ok (.invokestatic 102, 3) := by decide +kernel
theorem dX0_holderOf_27 : decode cX0_holderOf 27 = .ok (.iconst 1, 1) := by decide +kernel
theorem dX0_holderOf_28 : decode cX0_holderOf 28 = .ok (.if_icmp .ne 25, 3) := by decide +kernel
theorem dX0_holderOf_31 : decode cX0_holderOf 31 = .ok (.aload_n 0, 1) := by decide +kernel
theorem dX0_holderOf_32 : decode cX0_holderOf 32 = .ok (.getfield 28, 3) := by decide +kernel
theorem dX0_holderOf_35 : decode cX0_holderOf 35 = .ok (.iload_n 2, 1) := by decide +kernel
theorem dX0_holderOf_36 : decode cX0_holderOf 36 = .ok (.invokestatic 102, 3) := by decide +kernel
theorem dX0_holderOf_39 : decode cX0_holderOf 39 = .ok (.iload_n 1, 1) := by decide +kernel
theorem dX0_holderOf_40 : decode cX0_holderOf 40 = .ok (.if_icmp .ne 13, 3) := by decide +kernel
theorem dX0_holderOf_43 : decode cX0_holderOf 43 = .ok (.aload_n 0, 1) := by decide +kernel
theorem dX0_holderOf_44 : decode cX0_holderOf 44 = .ok (.iload_n 3, 1) := by decide +kernel
theorem dX0_holderOf_45 : decode cX0_holderOf 45 = .ok (.invokevirtual 91, 3) := by decide +kernel
theorem dX0_holderOf_48 : decode cX0_holderOf 48 = .ok (.ifCond .eq 5, 3) := by decide +kernel
theorem dX0_holderOf_51 : decode cX0_holderOf 51 = .ok (.iload_n 3, 1) := by decide +kernel
theorem dX0_holderOf_52 : decode cX0_holderOf 52 = .ok (.ireturn, 1) := by decide +kernel
theorem dX0_holderOf_53 : decode cX0_holderOf 53 = .ok (.iinc 2 1, 3) := by decide +kernel
theorem dX0_holderOf_56 : decode cX0_holderOf 56 = .ok (.goto (-54), 3) := by decide +kernel
theorem dX0_holderOf_59 : decode cX0_holderOf 59 = .ok (.iconst (-1), 1) := by decide +kernel
theorem dX0_holderOf_60 : decode cX0_holderOf 60 = .ok (.ireturn, 1) := by decide +kernel
set_option maxRecDepth 20000 in
theorem ggX0_latestLineOf_X0_at : GoodIn wsX0_latestLineOf wsX0_at := goodIn_r _ [6, 7, 8, 5, 9] (by decide +kernel) (by decide +kernel)
set_option maxRecDepth 20000 in
theorem gX0_latestLineOf_X0_at : GoodIn wsX0_latestLineOf (va_wsS RX0 102 yX0_at wsX0_at) := goodIn_app (goodIn_of _ (by decide +kernel)) ggX0_latestLineOf_X0_at
theorem dX0_latestLineOf_0 : decode cX0_latestLineOf 0 = .ok (.aload_n 0, 1) := by decide +kernel
theorem dX0_latestLineOf_1 : decode cX0_latestLineOf 1 = .ok (.getfield 112, 3) := by decide +kernel
theorem dX0_latestLineOf_4 : decode cX0_latestLineOf 4 = .ok (.iconst 1, 1) := by decide +kernel
theorem dX0_latestLineOf_5 : decode cX0_latestLineOf 5 = .ok (.isub, 1) := by decide +kernel
theorem dX0_latestLineOf_6 : decode cX0_latestLineOf 6 = .ok (.istore_n 2, 1) := by decide +kernel
theorem dX0_latestLineOf_7 : decode cX0_latestLineOf 7 = .ok (.iload_n 2, 1) := by decide +kernel
theorem dX0_latestLineOf_8 : decode cX0_latestLineOf 8 = .ok (.ifCond .lt 23, 3) := by decide +kernel
theorem dX0_latestLineOf_11 : decode cX0_latestLineOf 11 = .ok (.aload_n 0, 1) := by decide +kernel
theorem dX0_latestLineOf_12 : decode cX0_latestLineOf 12 = .ok (.getfield 28, 3) := by decide +kernel
theorem dX0_latestLineOf_15 : decode cX0_latestLineOf 15 = .ok (.iload_n 2, 1) := by decide +kernel
theorem dX0_latestLineOf_16 : decode cX0_latestLineOf 16 = .ok (.invokestatic 102, 3) := by decide +kernel
theorem dX0_latestLineOf_19 : decode cX0_latestLineOf 19 = .ok (.iload_n 1, 1) := by decide +kernel
theorem dX0_latestLineOf_20 : decode cX0_latestLineOf 20 = .ok (.if_icmp .ne 5, 3) := by decide +kernel
theorem dX0_latestLineOf_23 : decode cX0_latestLineOf 23 = .ok (.iload_n 2, 1) := by decide +kernel
theorem dX0_latestLineOf_24 : decode cX0_latestLineOf 24 = .ok (.ireturn, 1) := by decide +kernel
theorem dX0_latestLineOf_25 : decode cX0_latestLineOf 25 = .ok (.iinc 2 (-1), 3) := by decide +kernel
theorem dX0_latestLineOf_28 : decode cX0_latestLineOf 28 = .ok (.goto (-21), 3) := by decide +kernel
theorem dX0_latestLineOf_31 : decode cX0_latestLineOf 31 = .ok (.iconst (-1), 1) := by decide +kernel
theorem dX0_latestLineOf_32 : decode cX0_latestLineOf 32 = .ok (.ireturn, 1) := by decide +kernel
set_option maxRecDepth 20000 in
theorem ggX0_isDish_X0_isBelow : GoodIn wsX0_isDish wsX0_isBelow := goodIn_r _ [5] (by decide +kernel) (by decide +kernel)
set_option maxRecDepth 20000 in
theorem gX0_isDish_X0_isBelow : GoodIn wsX0_isDish (va_wsS RX0 141 yX0_isBelow wsX0_isBelow) := goodIn_app (goodIn_of _ (by decide +kernel)) ggX0_isDish_X0_isBelow
theorem dX0_isDish_0 : decode cX0_isDish 0 = .ok (.iload_n 1, 1) := by decide +kernel
theorem dX0_isDish_1 : decode cX0_isDish 1 = .ok (.aload_n 0, 1) := by decide +kernel
theorem dX0_isDish_2 : decode cX0_isDish 2 = .ok (.getfield 49, 3) := by decide +kernel
theorem dX0_isDish_5 : decode cX0_isDish 5 = .ok (.invokestatic 141, 3) := by decide +kernel
theorem dX0_isDish_8 : decode cX0_isDish 8 = .ok (.ireturn, 1) := by decide +kernel
set_option maxRecDepth 20000 in
theorem ggX0_isOpen_X0_at : GoodIn wsX0_isOpen wsX0_at := goodIn_r _ [5, 6, 7, 4, 8] (by decide +kernel) (by decide +kernel)
set_option maxRecDepth 20000 in
theorem gX0_isOpen_X0_at : GoodIn wsX0_isOpen (va_wsS RX0 102 yX0_at wsX0_at) := goodIn_app (goodIn_of _ (by decide +kernel)) ggX0_isOpen_X0_at
theorem dX0_isOpen_0 : decode cX0_isOpen 0 = .ok (.aload_n 0, 1) := by decide +kernel
theorem dX0_isOpen_1 : decode cX0_isOpen 1 = .ok (.getfield 19, 3) := by decide +kernel
theorem dX0_isOpen_4 : decode cX0_isOpen 4 = .ok (.iload_n 1, 1) := by decide +kernel
theorem dX0_isOpen_5 : decode cX0_isOpen 5 = .ok (.invokestatic 102, 3) := by decide +kernel
theorem dX0_isOpen_8 : decode cX0_isOpen 8 = .ok (.ifCond .ne 7, 3) := by decide +kernel
theorem dX0_isOpen_11 : decode cX0_isOpen 11 = .ok (.iconst 1, 1) := by decide +kernel
theorem dX0_isOpen_12 : decode cX0_isOpen 12 = .ok (.goto 4, 3) := by decide +kernel
theorem dX0_isOpen_15 : decode cX0_isOpen 15 = .ok (.iconst 0, 1) := by decide +kernel
theorem dX0_isOpen_16 : decode cX0_isOpen 16 = .ok (.ireturn, 1) := by decide +kernel
set_option maxRecDepth 20000 in
theorem ggX0_dishesThatAre_X0_at : GoodIn wsX0_dishesThatAre wsX0_at := goodIn_r _ [6, 7, 8, 5, 9] (by decide +kernel) (by decide +kernel)
set_option maxRecDepth 20000 in
theorem gX0_dishesThatAre_X0_at : GoodIn wsX0_dishesThatAre (va_wsS RX0 102 yX0_at wsX0_at) := goodIn_app (goodIn_of _ (by decide +kernel)) ggX0_dishesThatAre_X0_at
theorem dX0_dishesThatAre_0 : decode cX0_dishesThatAre 0 = .ok (.iconst 0, 1) := by decide +kernel
theorem dX0_dishesThatAre_1 : decode cX0_dishesThatAre 1 = .ok (.istore_n 2, 1) := by decide +kernel
theorem dX0_dishesThatAre_2 : decode cX0_dishesThatAre 2 = .ok (.iconst 0, 1) := by decide +kernel
theorem dX0_dishesThatAre_3 : decode cX0_dishesThatAre 3 = .ok (.istore_n 3, 1) := by decide +kernel
theorem dX0_dishesThatAre_4 : decode cX0_dishesThatAre 4 = .ok (.iload_n 3, 1) := by decide +kernel
theorem dX0_dishesThatAre_5 : decode cX0_dishesThatAre 5 = .ok (.aload_n 0, 1) := by decide +kernel
theorem dX0_dishesThatAre_6 : decode cX0_dishesThatAre 6 = .ok (.getfield 49, 3) := by decide +kernel
theorem dX0_dishesThatAre_9 : decode cX0_dishesThatAre 9 = .ok (.if_icmp .ge 24, 3) := by decide +kernel
theorem dX0_dishesThatAre_12 : decode cX0_dishesThatAre 12 = .ok (.aload_n 0, 1) := by decide +kernel
theorem dX0_dishesThatAre_13 : decode cX0_dishesThatAre 13 = .ok (.getfield 19, 3) := by decide +kernel
theorem dX0_dishesThatAre_16 : decode cX0_dishesThatAre 16 = .ok (.iload_n 3, 1) := by decide +kernel
theorem dX0_dishesThatAre_17 : decode cX0_dishesThatAre 17 = .ok (.invokestatic 102, 3) := by decide +kernel
theorem dX0_dishesThatAre_20 : decode cX0_dishesThatAre 20 = .ok (.iload_n 1, 1) := by decide +kernel
theorem dX0_dishesThatAre_21 : decode cX0_dishesThatAre 21 = .ok (.if_icmp .ne 6, 3) := by decide +kernel
theorem dX0_dishesThatAre_24 : decode cX0_dishesThatAre 24 = .ok (.iinc 2 1, 3) := by decide +kernel
theorem dX0_dishesThatAre_27 : decode cX0_dishesThatAre 27 = .ok (.iinc 3 1, 3) := by decide +kernel
theorem dX0_dishesThatAre_30 : decode cX0_dishesThatAre 30 = .ok (.goto (-26), 3) := by decide +kernel
theorem dX0_dishesThatAre_33 : decode cX0_dishesThatAre 33 = .ok (.iload_n 2, 1) := by decide +kernel
theorem dX0_dishesThatAre_34 : decode cX0_dishesThatAre 34 = .ok (.ireturn, 1) := by decide +kernel
set_option maxRecDepth 20000 in
theorem ggX0_linesOf_X0_at : GoodIn wsX0_linesOf wsX0_at := goodIn_r _ [6, 7, 8, 5, 9] (by decide +kernel) (by decide +kernel)
set_option maxRecDepth 20000 in
theorem gX0_linesOf_X0_at : GoodIn wsX0_linesOf (va_wsS RX0 102 yX0_at wsX0_at) := goodIn_app (goodIn_of _ (by decide +kernel)) ggX0_linesOf_X0_at
theorem dX0_linesOf_0 : decode cX0_linesOf 0 = .ok (.iconst 0, 1) := by decide +kernel
theorem dX0_linesOf_1 : decode cX0_linesOf 1 = .ok (.istore_n 2, 1) := by decide +kernel
theorem dX0_linesOf_2 : decode cX0_linesOf 2 = .ok (.iconst 0, 1) := by decide +kernel
theorem dX0_linesOf_3 : decode cX0_linesOf 3 = .ok (.istore_n 3, 1) := by decide +kernel
theorem dX0_linesOf_4 : decode cX0_linesOf 4 = .ok (.iload_n 3, 1) := by decide +kernel
theorem dX0_linesOf_5 : decode cX0_linesOf 5 = .ok (.aload_n 0, 1) := by decide +kernel
theorem dX0_linesOf_6 : decode cX0_linesOf 6 = .ok (.getfield 112, 3) := by decide +kernel
theorem dX0_linesOf_9 : decode cX0_linesOf 9 = .ok (.if_icmp .ge 24, 3) := by decide +kernel
theorem dX0_linesOf_12 : decode cX0_linesOf 12 = .ok (.aload_n 0, 1) := by decide +kernel
theorem dX0_linesOf_13 : decode cX0_linesOf 13 = .ok (.getfield 22, 3) := by decide +kernel
theorem dX0_linesOf_16 : decode cX0_linesOf 16 = .ok (.iload_n 3, 1) := by decide +kernel
theorem dX0_linesOf_17 : decode cX0_linesOf 17 = .ok (.invokestatic 102, 3) := by decide +kernel
theorem dX0_linesOf_20 : decode cX0_linesOf 20 = .ok (.iload_n 1, 1) := by decide +kernel
theorem dX0_linesOf_21 : decode cX0_linesOf 21 = .ok (.if_icmp .ne 6, 3) := by decide +kernel
theorem dX0_linesOf_24 : decode cX0_linesOf 24 = .ok (.iinc 2 1, 3) := by decide +kernel
theorem dX0_linesOf_27 : decode cX0_linesOf 27 = .ok (.iinc 3 1, 3) := by decide +kernel
theorem dX0_linesOf_30 : decode cX0_linesOf 30 = .ok (.goto (-26), 3) := by decide +kernel
theorem dX0_linesOf_33 : decode cX0_linesOf 33 = .ok (.iload_n 2, 1) := by decide +kernel
theorem dX0_linesOf_34 : decode cX0_linesOf 34 = .ok (.ireturn, 1) := by decide +kernel
set_option maxRecDepth 20000 in
theorem ggX0_lastLineOf_X0_at : GoodIn wsX0_lastLineOf wsX0_at := goodIn_r _ [6, 7, 8, 5, 9] (by decide +kernel) (by decide +kernel)
set_option maxRecDepth 20000 in
theorem gX0_lastLineOf_X0_at : GoodIn wsX0_lastLineOf (va_wsS RX0 102 yX0_at wsX0_at) := goodIn_app (goodIn_of _ (by decide +kernel)) ggX0_lastLineOf_X0_at
theorem dX0_lastLineOf_0 : decode cX0_lastLineOf 0 = .ok (.aload_n 0, 1) := by decide +kernel
theorem dX0_lastLineOf_1 : decode cX0_lastLineOf 1 = .ok (.getfield 112, 3) := by decide +kernel
theorem dX0_lastLineOf_4 : decode cX0_lastLineOf 4 = .ok (.iconst 1, 1) := by decide +kernel
theorem dX0_lastLineOf_5 : decode cX0_lastLineOf 5 = .ok (.isub, 1) := by decide +kernel
theorem dX0_lastLineOf_6 : decode cX0_lastLineOf 6 = .ok (.istore_n 2, 1) := by decide +kernel
theorem dX0_lastLineOf_7 : decode cX0_lastLineOf 7 = .ok (.iload_n 2, 1) := by decide +kernel
theorem dX0_lastLineOf_8 : decode cX0_lastLineOf 8 = .ok (.ifCond .lt 23, 3) := by decide +kernel
theorem dX0_lastLineOf_11 : decode cX0_lastLineOf 11 = .ok (.aload_n 0, 1) := by decide +kernel
theorem dX0_lastLineOf_12 : decode cX0_lastLineOf 12 = .ok (.getfield 22, 3) := by decide +kernel
theorem dX0_lastLineOf_15 : decode cX0_lastLineOf 15 = .ok (.iload_n 2, 1) := by decide +kernel
theorem dX0_lastLineOf_16 : decode cX0_lastLineOf 16 = .ok (.invokestatic 102, 3) := by decide +kernel
theorem dX0_lastLineOf_19 : decode cX0_lastLineOf 19 = .ok (.iload_n 1, 1) := by decide +kernel
theorem dX0_lastLineOf_20 : decode cX0_lastLineOf 20 = .ok (.if_icmp .ne 5, 3) := by decide +kernel
theorem dX0_lastLineOf_23 : decode cX0_lastLineOf 23 = .ok (.iload_n 2, 1) := by decide +kernel
theorem dX0_lastLineOf_24 : decode cX0_lastLineOf 24 = .ok (.ireturn, 1) := by decide +kernel
theorem dX0_lastLineOf_25 : decode cX0_lastLineOf 25 = .ok (.iinc 2 (-1), 3) := by decide +kernel
theorem dX0_lastLineOf_28 : decode cX0_lastLineOf 28 = .ok (.goto (-21), 3) := by decide +kernel
theorem dX0_lastLineOf_31 : decode cX0_lastLineOf 31 = .ok (.iconst (-1), 1) := by decide +kernel
theorem dX0_lastLineOf_32 : decode cX0_lastLineOf 32 = .ok (.ireturn, 1) := by decide +kernel
set_option maxRecDepth 20000 in
theorem ggX0_potsHeldBy_X0_holderOf : GoodIn wsX0_potsHeldBy wsX0_holderOf := goodIn_r _ [5, 6, 7, 8, 9, 10, 11, 4, 12, 13, 14, 15, 16, 17, 18, 19, 20, 21, 22, 23, 24, 25, 26, 27, 28, 29, 30, 31, 32, 33, 34, 35] (by decide +kernel) (by decide +kernel)
set_option maxRecDepth 20000 in
theorem gX0_potsHeldBy_X0_holderOf : GoodIn wsX0_potsHeldBy (wsV RX0 96 RX0 yX0_holderOf wsX0_holderOf) := goodIn_app (goodIn_of _ (by decide +kernel)) ggX0_potsHeldBy_X0_holderOf
theorem dX0_potsHeldBy_0 : decode cX0_potsHeldBy 0 = .ok (.iconst 0, 1) := by decide +kernel
theorem dX0_potsHeldBy_1 : decode cX0_potsHeldBy 1 = .ok (.istore_n 2, 1) := by decide +kernel
theorem dX0_potsHeldBy_2 : decode cX0_potsHeldBy 2 = .ok (.iconst 0, 1) := by decide +kernel
theorem dX0_potsHeldBy_3 : decode cX0_potsHeldBy 3 = .ok (.istore_n 3, 1) := by decide +kernel
theorem dX0_potsHeldBy_4 : decode cX0_potsHeldBy 4 = .ok (.iload_n 3, 1) := by decide +kernel
theorem dX0_potsHeldBy_5 : decode cX0_potsHeldBy 5 = .ok (.bipush 8, 2) := by decide +kernel
theorem dX0_potsHeldBy_7 : decode cX0_potsHeldBy 7 = .ok (.if_icmp .ge 21, 3) := by decide +kernel
theorem dX0_potsHeldBy_10 : decode cX0_potsHeldBy 10 = .ok (.aload_n 0, 1) := by decide +kernel
theorem dX0_potsHeldBy_11 : decode cX0_potsHeldBy 11 = .ok (.iload_n 3, 1) := by decide +kernel
theorem dX0_potsHeldBy_12 : decode cX0_potsHeldBy 12 = .ok (.invokevirtual 96, 3) := by decide +kernel
theorem dX0_potsHeldBy_15 : decode cX0_potsHeldBy 15 = .ok (.iload_n 1, 1) := by decide +kernel
theorem dX0_potsHeldBy_16 : decode cX0_potsHeldBy 16 = .ok (.if_icmp .ne 6, 3) := by decide +kernel
theorem dX0_potsHeldBy_19 : decode cX0_potsHeldBy 19 = .ok (.iinc 2 1, 3) := by decide +kernel
theorem dX0_potsHeldBy_22 : decode cX0_potsHeldBy 22 = .ok (.iinc 3 1, 3) := by decide +kernel
theorem dX0_potsHeldBy_25 : decode cX0_potsHeldBy 25 = .ok (.goto (-21), 3) := by decide +kernel
theorem dX0_potsHeldBy_28 : decode cX0_potsHeldBy 28 = .ok (.iload_n 2, 1) := by decide +kernel
theorem dX0_potsHeldBy_29 : decode cX0_potsHeldBy 29 = .ok (.ireturn, 1) := by decide +kernel
set_option maxRecDepth 20000 in
theorem ggX0_stateByLines_X0_at : GoodIn wsX0_stateByLines wsX0_at := goodIn_r _ [6, 7, 8, 5, 9] (by decide +kernel) (by decide +kernel)
set_option maxRecDepth 20000 in
theorem gX0_stateByLines_X0_at : GoodIn wsX0_stateByLines (va_wsS RX0 102 yX0_at wsX0_at) := goodIn_app (goodIn_of _ (by decide +kernel)) ggX0_stateByLines_X0_at
set_option maxRecDepth 20000 in
theorem ggX0_stateByLines_X0_stateAfter : GoodIn wsX0_stateByLines wsX0_stateAfter := goodIn_r _ [12] (by decide +kernel) (by decide +kernel)
set_option maxRecDepth 20000 in
theorem gX0_stateByLines_X0_stateAfter : GoodIn wsX0_stateByLines (va_wsS RX0 216 yX0_stateAfter wsX0_stateAfter) := goodIn_app (goodIn_of _ (by decide +kernel)) ggX0_stateByLines_X0_stateAfter
theorem dX0_stateByLines_0 : decode cX0_stateByLines 0 = .ok (.iconst 3, 1) := by decide +kernel
theorem dX0_stateByLines_1 : decode cX0_stateByLines 1 = .ok (.istore_n 3, 1) := by decide +kernel
theorem dX0_stateByLines_2 : decode cX0_stateByLines 2 = .ok (.iconst 0, 1) := by decide +kernel
theorem dX0_stateByLines_3 : decode cX0_stateByLines 3 = .ok (.istore 4, 2) := by decide +kernel
theorem dX0_stateByLines_5 : decode cX0_stateByLines 5 = .ok (.iload 4, 2) := by decide +kernel
theorem dX0_stateByLines_7 : decode cX0_stateByLines 7 = .ok (.iload_n 2, 1) := by decide +kernel
theorem dX0_stateByLines_8 : decode cX0_stateByLines 8 = .ok (.if_icmp .ge 36, 3) := by decide +kernel
theorem dX0_stateByLines_11 : decode cX0_stateByLines 11 = .ok (.aload_n 0, 1) := by decide +kernel
theorem dX0_stateByLines_12 : decode cX0_stateByLines 12 = .ok (.getfield 22, 3) := by decide +kernel
theorem dX0_stateByLines_15 : decode cX0_stateByLines 15 = .ok (.iload 4, 2) := by decide +kernel
theorem dX0_stateByLines_17 : decode cX0_stateByLines 17 = .ok (.invokestatic 102, 3) := by decide +kernel
theorem dX0_stateByLines_20 : decode cX0_stateByLines 20 = .ok (.iload_n 1, 1) := by decide +kernel
theorem dX0_stateByLines_21 : decode cX0_stateByLines 21 = .ok (.if_icmp .ne 17, 3) := by decide +kernel
theorem dX0_stateByLines_24 : decode cX0_stateByLines 24 = .ok (.aload_n 0, 1) := by decide +kernel
theorem dX0_stateByLines_25 : decode cX0_stateByLines 25 = .ok (.getfield 25, 3) := by decide +kernel
theorem dX0_stateByLines_28 : decode cX0_stateByLines 28 = .ok (.iload 4, 2) := by decide +kernel
theorem dX0_stateByLines_30 : decode cX0_stateByLines 30 = .ok (.invokestatic 102, 3) := by decide +kernel
theorem dX0_stateByLines_33 : decode cX0_stateByLines 33 = .ok (.iload_n 3, 1) := by decide +kernel
theorem dX0_stateByLines_34 : decode cX0_stateByLines 34 = .ok (.invokestatic 216, 3) := by decide +kernel
theorem dX0_stateByLines_37 : decode cX0_stateByLines 37 = .ok (.istore_n 3, 1) := by decide +kernel
theorem dX0_stateByLines_38 : decode cX0_stateByLines 38 = .ok (.iinc 4 1, 3) := by decide +kernel
theorem dX0_stateByLines_41 : decode cX0_stateByLines 41 = .ok (.goto (-36), 3) := by decide +kernel
theorem dX0_stateByLines_44 : decode cX0_stateByLines 44 = .ok (.iload_n 3, 1) := by decide +kernel
theorem dX0_stateByLines_45 : decode cX0_stateByLines 45 = .ok (.ireturn, 1) := by decide +kernel
theorem dX0_stateAfter_0 : decode cX0_stateAfter 0 = .ok (.iload_n 0, 1) := by decide +kernel
theorem dX0_stateAfter_1 : decode cX0_stateAfter 1 = .ok (.tableswitch 41 0 4 #[35, 41, 37, 41, 39], 35) := by decide +kernel
theorem dX0_stateAfter_36 : decode cX0_stateAfter 36 = .ok (.iconst 0, 1) := by decide +kernel
theorem dX0_stateAfter_37 : decode cX0_stateAfter 37 = .ok (.ireturn, 1) := by decide +kernel
theorem dX0_stateAfter_38 : decode cX0_stateAfter 38 = .ok (.iconst 1, 1) := by decide +kernel
theorem dX0_stateAfter_39 : decode cX0_stateAfter 39 = .ok (.ireturn, 1) := by decide +kernel
theorem dX0_stateAfter_40 : decode cX0_stateAfter 40 = .ok (.iconst 2, 1) := by decide +kernel
theorem dX0_stateAfter_41 : decode cX0_stateAfter 41 = .ok (.ireturn, 1) := by decide +kernel
theorem dX0_stateAfter_42 : decode cX0_stateAfter 42 = .ok (.iload_n 1, 1) := by decide +kernel
theorem dX0_stateAfter_43 : decode cX0_stateAfter 43 = .ok (.ireturn, 1) := by decide +kernel
set_option maxRecDepth 20000 in
theorem ggX0_isChangeNotTakenBack_X0_at : GoodIn wsX0_isChangeNotTakenBack wsX0_at := goodIn_r _ [7, 8, 9, 6, 10] (by decide +kernel) (by decide +kernel)
set_option maxRecDepth 20000 in
theorem gX0_isChangeNotTakenBack_X0_at : GoodIn wsX0_isChangeNotTakenBack (va_wsS RX0 102 yX0_at wsX0_at) := goodIn_app (goodIn_of _ (by decide +kernel)) ggX0_isChangeNotTakenBack_X0_at
set_option maxRecDepth 20000 in
theorem ggX0_isChangeNotTakenBack_X0_isBelow : GoodIn wsX0_isChangeNotTakenBack wsX0_isBelow := goodIn_r _ [10] (by decide +kernel) (by decide +kernel)
set_option maxRecDepth 20000 in
theorem gX0_isChangeNotTakenBack_X0_isBelow : GoodIn wsX0_isChangeNotTakenBack (va_wsS RX0 141 yX0_isBelow wsX0_isBelow) := goodIn_app (goodIn_of _ (by decide +kernel)) ggX0_isChangeNotTakenBack_X0_isBelow
theorem dX0_isChangeNotTakenBack_0 : decode cX0_isChangeNotTakenBack 0 = .ok (.aload_n 0, 1) := by decide +kernel
theorem dX0_isChangeNotTakenBack_1 : decode cX0_isChangeNotTakenBack 1 = .ok (.getfield 22, 3) := by decide +kernel
theorem dX0_isChangeNotTakenBack_4 : decode cX0_isChangeNotTakenBack 4 = .ok (.iload_n 1, 1) := by decide +kernel
theorem dX0_isChangeNotTakenBack_5 : decode cX0_isChangeNotTakenBack 5 = .ok (.invokestatic 102, 3) := by decide +kernel
theorem dX0_isChangeNotTakenBack_8 : decode cX0_isChangeNotTakenBack 8 = .ok (.iload_n 2, 1) := by decide +kernel
theorem dX0_isChangeNotTakenBack_9 : decode cX0_isChangeNotTakenBack 9 = .ok (.if_icmp .ne 34, 3) := by decide +kernel
theorem dX0_isChangeNotTakenBack_12 : decode cX0_isChangeNotTakenBack 12 = .ok (.aload_n 0, 1) := by decide +kernel
theorem dX0_isChangeNotTakenBack_13 : decode cX0_isChangeNotTakenBack 13 = .ok (.getfield 25, 3) := by decide +kernel
theorem dX0_isChangeNotTakenBack_16 : decode cX0_isChangeNotTakenBack 16 = .ok (.iload_n 1, 1) := by decide +kernel
theorem dX0_isChangeNotTakenBack_17 : decode cX0_isChangeNotTakenBack 17 = .ok (.invokestatic 102, 3) := by decide +kernel
theorem dX0_isChangeNotTakenBack_20 : decode cX0_isChangeNotTakenBack 20 = .ok (.iconst 1, 1) := by decide +kernel
theorem dX0_isChangeNotTakenBack_21 : decode cX0_isChangeNotTakenBack 21 = .ok (.if_icmp .ne 22, 3) := by decide +kernel
theorem dX0_isChangeNotTakenBack_24 : decode cX0_isChangeNotTakenBack 24 = .ok (.aload_n 0, 1) := by decide +kernel
theorem dX0_isChangeNotTakenBack_25 : decode cX0_isChangeNotTakenBack 25 = .ok (.getfield 40, 3) := by decide +kernel
theorem dX0_isChangeNotTakenBack_28 : decode cX0_isChangeNotTakenBack 28 = .ok (.iload_n 1, 1) := by decide +kernel
theorem dX0_isChangeNotTakenBack_29 : decode cX0_isChangeNotTakenBack 29 = .ok (.invokestatic 102, 3) := by decide +kernel
theorem dX0_isChangeNotTakenBack_32 : decode cX0_isChangeNotTakenBack 32 = .ok (.iload_n 3, 1) := by decide +kernel
theorem dX0_isChangeNotTakenBack_33 : decode cX0_isChangeNotTakenBack 33 = .ok (.invokestatic 141, 3) := by decide +kernel
theorem dX0_isChangeNotTakenBack_36 : decode cX0_isChangeNotTakenBack 36 = .ok (.ifCond .ne 7, 3) := by decide +kernel
theorem dX0_isChangeNotTakenBack_39 : decode cX0_isChangeNotTakenBack 39 = .ok (.iconst 1, 1) := by decide +kernel
theorem dX0_isChangeNotTakenBack_40 : decode cX0_isChangeNotTakenBack 40 = .ok (.goto 4, 3) := by decide +kernel
theorem dX0_isChangeNotTakenBack_43 : decode cX0_isChangeNotTakenBack 43 = .ok (.iconst 0, 1) := by decide +kernel
theorem dX0_isChangeNotTakenBack_44 : decode cX0_isChangeNotTakenBack 44 = .ok (.ireturn, 1) := by decide +kernel
set_option maxRecDepth 20000 in
theorem ggX0_changesNotTakenBack_X0_isChangeNotTakenBack : GoodIn wsX0_changesNotTakenBack wsX0_isChangeNotTakenBack := goodIn_r _ [5, 6, 7, 8, 9, 10, 4, 11, 12, 13, 14, 15, 16, 17, 18, 19, 20, 21, 22, 23, 24, 25, 26, 27, 28, 29] (by decide +kernel) (by decide +kernel)
set_option maxRecDepth 20000 in
theorem gX0_changesNotTakenBack_X0_isChangeNotTakenBack : GoodIn wsX0_changesNotTakenBack (wsV RX0 219 RX0 yX0_isChangeNotTakenBack wsX0_isChangeNotTakenBack) := goodIn_app (goodIn_of _ (by decide +kernel)) ggX0_changesNotTakenBack_X0_isChangeNotTakenBack
theorem dX0_changesNotTakenBack_0 : decode cX0_changesNotTakenBack 0 = .ok (.iconst 0, 1) := by decide +kernel
theorem dX0_changesNotTakenBack_1 : decode cX0_changesNotTakenBack 1 = .ok (.istore_n 3, 1) := by decide +kernel
theorem dX0_changesNotTakenBack_2 : decode cX0_changesNotTakenBack 2 = .ok (.iconst 0, 1) := by decide +kernel
theorem dX0_changesNotTakenBack_3 : decode cX0_changesNotTakenBack 3 = .ok (.istore 4, 2) := by decide +kernel
theorem dX0_changesNotTakenBack_5 : decode cX0_changesNotTakenBack 5 = .ok (.iload 4, 2) := by decide +kernel
theorem dX0_changesNotTakenBack_7 : decode cX0_changesNotTakenBack 7 = .ok (.iload_n 2, 1) := by decide +kernel
theorem dX0_changesNotTakenBack_8 : decode cX0_changesNotTakenBack 8 = .ok (.if_icmp .ge 23, 3) := by decide +kernel
theorem dX0_changesNotTakenBack_11 : decode cX0_changesNotTakenBack 11 = .ok (.aload_n 0, 1) := by decide +kernel
theorem dX0_changesNotTakenBack_12 : decode cX0_changesNotTakenBack 12 = .ok (.iload 4, 2) := by decide +kernel
theorem dX0_changesNotTakenBack_14 : decode cX0_changesNotTakenBack 14 = .ok (.iload_n 1, 1) := by decide +kernel
theorem dX0_changesNotTakenBack_15 : decode cX0_changesNotTakenBack 15 = .ok (.iload_n 2, 1) := by decide +kernel
theorem dX0_changesNotTakenBack_16 : decode cX0_changesNotTakenBack 16 = .ok (.invokevirtual 219, 3) := by decide +kernel
theorem dX0_changesNotTakenBack_19 : decode cX0_changesNotTakenBack 19 = .ok (.ifCond .eq 6, 3) := by decide +kernel
theorem dX0_changesNotTakenBack_22 : decode cX0_changesNotTakenBack 22 = .ok (.iinc 3 1, 3) := by decide +kernel
theorem dX0_changesNotTakenBack_25 : decode cX0_changesNotTakenBack 25 = .ok (.iinc 4 1, 3) := by decide +kernel
theorem dX0_changesNotTakenBack_28 : decode cX0_changesNotTakenBack 28 = .ok (.goto (-23), 3) := by decide +kernel
theorem dX0_changesNotTakenBack_31 : decode cX0_changesNotTakenBack 31 = .ok (.iload_n 3, 1) := by decide +kernel
theorem dX0_changesNotTakenBack_32 : decode cX0_changesNotTakenBack 32 = .ok (.ireturn, 1) := by decide +kernel
set_option maxRecDepth 20000 in
theorem ggX0_roomLeft_X0_isOpen : GoodIn wsX0_roomLeft wsX0_isOpen := goodIn_r _ [7, 8, 9, 10, 6, 11, 12, 13, 14, 26, 27, 28, 29, 30, 31, 32, 33, 34, 35, 36, 37, 38, 39, 40] (by decide +kernel) (by decide +kernel)
set_option maxRecDepth 20000 in
theorem gX0_roomLeft_X0_isOpen : GoodIn wsX0_roomLeft (wsV RX0 91 RX0 yX0_isOpen wsX0_isOpen) := goodIn_app (goodIn_of _ (by decide +kernel)) ggX0_roomLeft_X0_isOpen
set_option maxRecDepth 20000 in
theorem ggX0_roomLeft_X0_changesNotTakenBack : GoodIn wsX0_roomLeft wsX0_changesNotTakenBack := goodIn_r _ [18, 19, 20, 21, 6, 22, 23, 24, 25, 9, 10, 11, 12, 13, 14, 26, 27, 28, 29, 30, 31, 32, 33, 34, 35, 36, 37, 38, 39, 40] (by decide +kernel) (by decide +kernel)
set_option maxRecDepth 20000 in
theorem gX0_roomLeft_X0_changesNotTakenBack : GoodIn wsX0_roomLeft (wsV RX0 204 RX0 yX0_changesNotTakenBack wsX0_changesNotTakenBack) := goodIn_app (goodIn_of _ (by decide +kernel)) ggX0_roomLeft_X0_changesNotTakenBack
theorem dX0_roomLeft_0 : decode cX0_roomLeft 0 = .ok (.bipush 120, 2) := by decide +kernel
theorem dX0_roomLeft_2 : decode cX0_roomLeft 2 = .ok (.aload_n 0, 1) := by decide +kernel
theorem dX0_roomLeft_3 : decode cX0_roomLeft 3 = .ok (.getfield 112, 3) := by decide +kernel
theorem dX0_roomLeft_6 : decode cX0_roomLeft 6 = .ok (.isub, 1) := by decide +kernel
theorem dX0_roomLeft_7 : decode cX0_roomLeft 7 = .ok (.istore_n 1, 1) := by decide +kernel
theorem dX0_roomLeft_8 : decode cX0_roomLeft 8 = .ok (.iconst 0, 1) := by decide +kernel
theorem dX0_roomLeft_9 : decode cX0_roomLeft 9 = .ok (.istore_n 2, 1) := by decide +kernel
theorem dX0_roomLeft_10 : decode cX0_roomLeft 10 = .ok (.iload_n 2, 1) := by decide +kernel
theorem dX0_roomLeft_11 : decode cX0_roomLeft 11 = .ok (.aload_n 0, 1) := by decide +kernel
theorem dX0_roomLeft_12 : decode cX0_roomLeft 12 = .ok (.getfield 49, 3) := by decide +kernel
theorem dX0_roomLeft_15 : decode cX0_roomLeft 15 = .ok (.if_icmp .ge 31, 3) := by decide +kernel
theorem dX0_roomLeft_18 : decode cX0_roomLeft 18 = .ok (.aload_n 0, 1) := by decide +kernel
theorem dX0_roomLeft_19 : decode cX0_roomLeft 19 = .ok (.iload_n 2, 1) := by decide +kernel
theorem dX0_roomLeft_20 : decode cX0_roomLeft 20 = .ok (.invokevirtual 91, 3) := by decide +kernel
theorem dX0_roomLeft_23 : decode cX0_roomLeft 23 = .ok (.ifCond .eq 17, 3) := by decide +kernel
theorem dX0_roomLeft_26 : decode cX0_roomLeft 26 = .ok (.iload_n 1, 1) := by decide +kernel
theorem dX0_roomLeft_27 : decode cX0_roomLeft 27 = .ok (.iconst 1, 1) := by decide +kernel
theorem dX0_roomLeft_28 : decode cX0_roomLeft 28 = .ok (.aload_n 0, 1) := by decide +kernel
theorem dX0_roomLeft_29 : decode cX0_roomLeft 29 = .ok (.iload_n 2, 1) := by decide +kernel
theorem dX0_roomLeft_30 : decode cX0_roomLeft 30 = .ok (.aload_n 0, 1) := by decide +kernel
theorem dX0_roomLeft_31 : decode cX0_roomLeft 31 = .ok (.getfield 112, 3) := by decide +kernel
theorem dX0_roomLeft_34 : decode cX0_roomLeft 34 = .ok (.invokevirtual 204, 3) := by decide +kernel
theorem dX0_roomLeft_37 : decode cX0_roomLeft 37 = .ok (.iadd, 1) := by decide +kernel
theorem dX0_roomLeft_38 : decode cX0_roomLeft 38 = .ok (.isub, 1) := by decide +kernel
theorem dX0_roomLeft_39 : decode cX0_roomLeft 39 = .ok (.istore_n 1, 1) := by decide +kernel
theorem dX0_roomLeft_40 : decode cX0_roomLeft 40 = .ok (.iinc 2 1, 3) := by decide +kernel
theorem dX0_roomLeft_43 : decode cX0_roomLeft 43 = .ok (.goto (-33), 3) := by decide +kernel
theorem dX0_roomLeft_46 : decode cX0_roomLeft 46 = .ok (.iload_n 1, 1) := by decide +kernel
theorem dX0_roomLeft_47 : decode cX0_roomLeft 47 = .ok (.ireturn, 1) := by decide +kernel
set_option maxRecDepth 20000 in
theorem ggX0_chalk_X0_put : GoodIn wsX0_chalk wsX0_put := goodIn_r _ [12, 13, 14, 11, 15] (by decide +kernel) (by decide +kernel)
set_option maxRecDepth 20000 in
theorem gX0_chalk_X0_put : GoodIn wsX0_chalk (va_wsS RX0 66 yX0_put wsX0_put) := goodIn_app (goodIn_of _ (by decide +kernel)) ggX0_chalk_X0_put
theorem dX0_chalk_0 : decode cX0_chalk 0 = .ok (.aload_n 0, 1) := by decide +kernel
theorem dX0_chalk_1 : decode cX0_chalk 1 = .ok (.getfield 22, 3) := by decide +kernel
theorem dX0_chalk_4 : decode cX0_chalk 4 = .ok (.aload_n 0, 1) := by decide +kernel
theorem dX0_chalk_5 : decode cX0_chalk 5 = .ok (.getfield 112, 3) := by decide +kernel
theorem dX0_chalk_8 : decode cX0_chalk 8 = .ok (.iload_n 1, 1) := by decide +kernel
theorem dX0_chalk_9 : decode cX0_chalk 9 = .ok (.invokestatic 66, 3) := by decide +kernel
theorem dX0_chalk_12 : decode cX0_chalk 12 = .ok (.aload_n 0, 1) := by decide +kernel
theorem dX0_chalk_13 : decode cX0_chalk 13 = .ok (.getfield 25, 3) := by decide +kernel
theorem dX0_chalk_16 : decode cX0_chalk 16 = .ok (.aload_n 0, 1) := by decide +kernel
theorem dX0_chalk_17 : decode cX0_chalk 17 = .ok (.getfield 112, 3) := by decide +kernel
theorem dX0_chalk_20 : decode cX0_chalk 20 = .ok (.iload_n 2, 1) := by decide +kernel
theorem dX0_chalk_21 : decode cX0_chalk 21 = .ok (.invokestatic 66, 3) := by decide +kernel
theorem dX0_chalk_24 : decode cX0_chalk 24 = .ok (.aload_n 0, 1) := by decide +kernel
theorem dX0_chalk_25 : decode cX0_chalk 25 = .ok (.getfield 28, 3) := by decide +kernel
theorem dX0_chalk_28 : decode cX0_chalk 28 = .ok (.aload_n 0, 1) := by decide +kernel
theorem dX0_chalk_29 : decode cX0_chalk 29 = .ok (.getfield 112, 3) := by decide +kernel
theorem dX0_chalk_32 : decode cX0_chalk 32 = .ok (.iconst (-1), 1) := by decide +kernel
theorem dX0_chalk_33 : decode cX0_chalk 33 = .ok (.invokestatic 66, 3) := by decide +kernel
theorem dX0_chalk_36 : decode cX0_chalk 36 = .ok (.aload_n 0, 1) := by decide +kernel
theorem dX0_chalk_37 : decode cX0_chalk 37 = .ok (.getfield 31, 3) := by decide +kernel
theorem dX0_chalk_40 : decode cX0_chalk 40 = .ok (.aload_n 0, 1) := by decide +kernel
theorem dX0_chalk_41 : decode cX0_chalk 41 = .ok (.getfield 112, 3) := by decide +kernel
theorem dX0_chalk_44 : decode cX0_chalk 44 = .ok (.iconst (-1), 1) := by decide +kernel
theorem dX0_chalk_45 : decode cX0_chalk 45 = .ok (.invokestatic 66, 3) := by decide +kernel
theorem dX0_chalk_48 : decode cX0_chalk 48 = .ok (.aload_n 0, 1) := by decide +kernel
theorem dX0_chalk_49 : decode cX0_chalk 49 = .ok (.getfield 34, 3) := by decide +kernel
theorem dX0_chalk_52 : decode cX0_chalk 52 = .ok (.aload_n 0, 1) := by decide +kernel
theorem dX0_chalk_53 : decode cX0_chalk 53 = .ok (.getfield 112, 3) := by decide +kernel
theorem dX0_chalk_56 : decode cX0_chalk 56 = .ok (.iconst (-1), 1) := by decide +kernel
theorem dX0_chalk_57 : decode cX0_chalk 57 = .ok (.invokestatic 66, 3) := by decide +kernel
theorem dX0_chalk_60 : decode cX0_chalk 60 = .ok (.aload_n 0, 1) := by decide +kernel
theorem dX0_chalk_61 : decode cX0_chalk 61 = .ok (.getfield 37, 3) := by decide +kernel
theorem dX0_chalk_64 : decode cX0_chalk 64 = .ok (.aload_n 0, 1) := by decide +kernel
theorem dX0_chalk_65 : decode cX0_chalk 65 = .ok (.getfield 112, 3) := by decide +kernel
theorem dX0_chalk_68 : decode cX0_chalk 68 = .ok (.iconst (-1), 1) := by decide +kernel
theorem dX0_chalk_69 : decode cX0_chalk 69 = .ok (.invokestatic 66, 3) := by decide +kernel
theorem dX0_chalk_72 : decode cX0_chalk 72 = .ok (.aload_n 0, 1) := by decide +kernel
theorem dX0_chalk_73 : decode cX0_chalk 73 = .ok (.getfield 40, 3) := by decide +kernel
theorem dX0_chalk_76 : decode cX0_chalk 76 = .ok (.aload_n 0, 1) := by decide +kernel
theorem dX0_chalk_77 : decode cX0_chalk 77 = .ok (.getfield 112, 3) := by decide +kernel
theorem dX0_chalk_80 : decode cX0_chalk 80 = .ok (.iconst (-1), 1) := by decide +kernel
theorem dX0_chalk_81 : decode cX0_chalk 81 = .ok (.invokestatic 66, 3) := by decide +kernel
theorem dX0_chalk_84 : decode cX0_chalk 84 = .ok (.aload_n 0, 1) := by decide +kernel
theorem dX0_chalk_85 : decode cX0_chalk 85 = .ok (.dup, 1) := by decide +kernel
theorem dX0_chalk_86 : decode cX0_chalk 86 = .ok (.getfield 112, 3) := by decide +kernel
theorem dX0_chalk_89 : decode cX0_chalk 89 = .ok (.iconst 1, 1) := by decide +kernel
theorem dX0_chalk_90 : decode cX0_chalk 90 = .ok (.iadd, 1) := by decide +kernel
theorem dX0_chalk_91 : decode cX0_chalk 91 = .ok (.putfield 112, 3) := by decide +kernel
theorem dX0_chalk_94 : decode cX0_chalk 94 = .ok (.return_, 1) := by decide +kernel
set_option maxRecDepth 20000 in
theorem ggX0_chalkSpoons_X0_chalk : GoodIn wsX0_chalkSpoons wsX0_chalk := goodIn_r _ [10, 11, 1, 12, 2, 3, 5, 13, 14, 15, 16, 9, 17, 18, 19, 20, 24, 25, 26, 27, 28, 29, 30, 31, 32, 33, 34, 35, 36, 37, 38] (by decide +kernel) (by decide +kernel)
set_option maxRecDepth 20000 in
theorem gX0_chalkSpoons_X0_chalk : GoodIn wsX0_chalkSpoons (wsV RX0 70 RX0 yX0_chalk wsX0_chalk) := goodIn_app (goodIn_of _ (by decide +kernel)) ggX0_chalkSpoons_X0_chalk
set_option maxRecDepth 20000 in
theorem ggX0_chalkSpoons_X0_put : GoodIn wsX0_chalkSpoons wsX0_put := goodIn_r _ [17, 18, 19, 9, 20] (by decide +kernel) (by decide +kernel)
set_option maxRecDepth 20000 in
theorem gX0_chalkSpoons_X0_put : GoodIn wsX0_chalkSpoons (va_wsS RX0 66 yX0_put wsX0_put) := goodIn_app (goodIn_of _ (by decide +kernel)) ggX0_chalkSpoons_X0_put
set_option maxRecDepth 20000 in
theorem ggX0_chalkSpoons_X0_at : GoodIn wsX0_chalkSpoons wsX0_at := goodIn_r _ [23, 18, 19, 9, 20] (by decide +kernel) (by decide +kernel)
set_option maxRecDepth 20000 in
theorem gX0_chalkSpoons_X0_at : GoodIn wsX0_chalkSpoons (va_wsS RX0 102 yX0_at wsX0_at) := goodIn_app (goodIn_of _ (by decide +kernel)) ggX0_chalkSpoons_X0_at
theorem dX0_chalkSpoons_0 : decode cX0_chalkSpoons 0 = .ok (.aload_n 0, 1) := by decide +kernel
theorem dX0_chalkSpoons_1 : decode cX0_chalkSpoons 1 = .ok (.getfield 112, 3) := by decide +kernel
theorem dX0_chalkSpoons_4 : decode cX0_chalkSpoons 4 = .ok (.istore 5, 2) := by decide +kernel
theorem dX0_chalkSpoons_6 : decode cX0_chalkSpoons 6 = .ok (.aload_n 0, 1) := by decide +kernel
theorem dX0_chalkSpoons_7 : decode cX0_chalkSpoons 7 = .ok (.iload_n 1, 1) := by decide +kernel
theorem dX0_chalkSpoons_8 : decode cX0_chalkSpoons 8 = .ok (.iload_n 2, 1) := by decide +kernel
theorem dX0_chalkSpoons_9 : decode cX0_chalkSpoons 9 = .ok (.invokevirtual 70, 3) := by decide +kernel
theorem dX0_chalkSpoons_12 : decode cX0_chalkSpoons 12 = .ok (.aload_n 0, 1) := by decide +kernel
theorem dX0_chalkSpoons_13 : decode cX0_chalkSpoons 13 = .ok (.getfield 28, 3) := by decide +kernel
theorem dX0_chalkSpoons_16 : decode cX0_chalkSpoons 16 = .ok (.iload 5, 2) := by decide +kernel
theorem dX0_chalkSpoons_18 : decode cX0_chalkSpoons 18 = .ok (.iload_n 3, 1) := by decide +kernel
theorem dX0_chalkSpoons_19 : decode cX0_chalkSpoons 19 = .ok (.invokestatic 66, 3) := by decide +kernel
theorem dX0_chalkSpoons_22 : decode cX0_chalkSpoons 22 = .ok (.aload_n 0, 1) := by decide +kernel
theorem dX0_chalkSpoons_23 : decode cX0_chalkSpoons 23 = .ok (.getfield 31, 3) := by decide +kernel
theorem dX0_chalkSpoons_26 : decode cX0_chalkSpoons 26 = .ok (.iload 5, 2) := by decide +kernel
theorem dX0_chalkSpoons_28 : decode cX0_chalkSpoons 28 = .ok (.aload_n 0, 1) := by decide +kernel
theorem dX0_chalkSpoons_29 : decode cX0_chalkSpoons 29 = .ok (.getfield 9, 3) := by decide +kernel
theorem dX0_chalkSpoons_32 : decode cX0_chalkSpoons 32 = .ok (.iload_n 3, 1) := by decide +kernel
theorem dX0_chalkSpoons_33 : decode cX0_chalkSpoons 33 = .ok (.invokestatic 102, 3) := by decide +kernel
theorem dX0_chalkSpoons_36 : decode cX0_chalkSpoons 36 = .ok (.invokestatic 66, 3) := by decide +kernel
theorem dX0_chalkSpoons_39 : decode cX0_chalkSpoons 39 = .ok (.aload_n 0, 1) := by decide +kernel
theorem dX0_chalkSpoons_40 : decode cX0_chalkSpoons 40 = .ok (.getfield 34, 3) := by decide +kernel
theorem dX0_chalkSpoons_43 : decode cX0_chalkSpoons 43 = .ok (.iload 5, 2) := by decide +kernel
theorem dX0_chalkSpoons_45 : decode cX0_chalkSpoons 45 = .ok (.iload 4, 2) := by decide +kernel
theorem dX0_chalkSpoons_47 : decode cX0_chalkSpoons 47 = .ok (.invokestatic 66, 3) := by decide +kernel
theorem dX0_chalkSpoons_50 : decode cX0_chalkSpoons 50 = .ok (.aload_n 0, 1) := by decide +kernel
theorem dX0_chalkSpoons_51 : decode cX0_chalkSpoons 51 = .ok (.getfield 9, 3) := by decide +kernel
theorem dX0_chalkSpoons_54 : decode cX0_chalkSpoons 54 = .ok (.iload_n 3, 1) := by decide +kernel
theorem dX0_chalkSpoons_55 : decode cX0_chalkSpoons 55 = .ok (.iload 4, 2) := by decide +kernel
theorem dX0_chalkSpoons_57 : decode cX0_chalkSpoons 57 = .ok (.invokestatic 66, 3) := by decide +kernel
theorem dX0_chalkSpoons_60 : decode cX0_chalkSpoons 60 = .ok (.return_, 1) := by decide +kernel
set_option maxRecDepth 20000 in
theorem ggX0_takeBack_X0_at : GoodIn wsX0_takeBack wsX0_at := goodIn_r _ [10, 11, 12, 9, 13] (by decide +kernel) (by decide +kernel)
set_option maxRecDepth 20000 in
theorem gX0_takeBack_X0_at : GoodIn wsX0_takeBack (va_wsS RX0 102 yX0_at wsX0_at) := goodIn_app (goodIn_of _ (by decide +kernel)) ggX0_takeBack_X0_at
set_option maxRecDepth 20000 in
theorem ggX0_takeBack_X0_chalkSpoons : GoodIn wsX0_takeBack wsX0_chalkSpoons := goodIn_r _ [17, 1, 3, 4, 18, 19, 20, 21, 22, 9, 23, 2, 24, 5, 6, 25, 26, 27, 11, 12, 13, 7, 8, 10, 28, 29, 30, 31, 32, 33, 34, 35, 36, 37, 38, 39, 40, 41, 42] (by decide +kernel) (by decide +kernel)
set_option maxRecDepth 20000 in
theorem gX0_takeBack_X0_chalkSpoons : GoodIn wsX0_takeBack (wsV RX0 106 RX0 yX0_chalkSpoons wsX0_chalkSpoons) := goodIn_app (goodIn_of _ (by decide +kernel)) ggX0_takeBack_X0_chalkSpoons
