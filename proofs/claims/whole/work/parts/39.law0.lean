section LWD
set_option maxHeartbeats 4000000 in
set_option maxRecDepth 100000 in
theorem lc_begin {p : Program} {l : Launch} {e : Env} {s : State} {m : MethodId} {below : List Frame} {meth : Method} {c : Code} {b L : Nat} {xs : Nat → Int32} {D : va_G} {cy ly : ClassId} {h : Nat} {a : Nat → Nat} {o q : Nat} {bq : Nat → Nat} {mo q2 : Nat} {b2 : Nat → Nat} (hc : LCtx p l s m meth c b L xs D cy ly) {i cells slots : Nat} (hcs : cells ≤ 520000) (hss : slots ≤ 3700000) (hv1 : vp_in (nI i + 1) L) (hv2 : vp_in (nI i + 2) L) (hv3 : vp_in (nI i + 3) L) (hk : lwK p l e s m below meth c b D cy ly h a o q bq mo q2 b2 i cells slots) {R M M2 : Nat → Nat → Int32} {nd n dr n2 dr2 : Nat} {fl an fi ba th an2 fi2 ba2 : Int32} {g : Nat → Int64} {H : Heap} {d0 : Drawn} {ls : Array Slot} (hst : LSt s D cy ly h a o q bq mo q2 b2 R M M2 nd n dr n2 dr2 fl an fi ba th an2 fi2 ba2 g H []) (hd0 : s.drawn.sameBut d0 lw_cs) (hl : lv_has ls 9 [(4, .int (nI i)), (3, .ref o), (2, .ref mo), (1, .ref h), (0, .ref b)]) : W p l e room_1 (s.setDrawn d0) m #[Value.ref b] below meth c H [] cells slots (lw_Z below #[Value.ref b] s) (F0 m 112 ls []) := by
  obtain ⟨hfl, C0, hKL, hXp, hNc⟩ := hc
  obtain ⟨hx, hb, hr, hml, hown, hts0, hX, hbl, hlocks, hgv⟩ := id C0
  have hts := dr_words (s := s) (fun w h9 => hts0 w (wsL_law_in w h9)) d0
  have hown : (s.setDrawn d0).vm.findClass RL = some m.cls := hown
  have hA : ∀ q9 : Nat, s.heap.size ≤ q9 → lwA s q9 := fun _ h9 => h9
  have hbA : ¬ lwA s b := Nat.not_le.mpr hbl
  obtain ⟨hI, hAg, hP, hD, hS⟩ := hst
  have hX := va_X.moved (u := s) (U := s.setDrawn d0) (Vm.Alike.refl s.vm) hX
  have hKL0 := hKL
  have hKL := hKL.dr d0
  have hK := hKL.kk
  have hXp := hXp.dr d0
  have hNc := hNc.dr d0
  have hB1 : n ≤ 120 := hI.1.1
  have hB2 : nd ≤ 20 := hI.1.2.1
  have hB3 : dr ≤ n := hI.2.2.1
  rcases begin_c R n nd with h0 | h0
  · obtain ⟨hn1, h20, hI1, hA1⟩ := begin_ok hI hAg h0
    refine lv_aload_n hx hb dL_law_112 rfl (lv_at hl 3 rfl) ?_
    refine lv_aload_n hx hb dL_law_113 rfl (lv_at hl 1 rfl) ?_
    refine lh_S (ws0' := cC h a cy (chalkR (stepR R 3 20 (nI nd) 0) n (nI nd) 0) (nd + 1) (n + 1) dr fl ++ [(o, .inl (ly, 1, .inr (.inl (vp_updL g 0 (nI nd).toInt64))))] ++ cW q bq cy M n dr an fi ba mo th nd fl q2 b2 M2 n2 dr2 an2 fi2 ba2) (As := [.ref h, .ref o]) (rest := []) ⟨hx, hb, hml, hown, hts⟩ (fun sz => mL_begin_ok l D cy ly h a R nd n dr fl o g  (by omega) (by omega) (by omega) h0 (by omega) (by omega) sz) (vx_cwSW 2 hts gL_law_L_begin rfl rfl rfl (by decide +kernel) ⟨Nat.le_of_ble_eq_true rfl, Nat.le_of_ble_eq_true rfl⟩) hP hKL hD hS hA hXp hNc [0, 1, 2, 3, 4, 5, 6, 7, 8, 9, 10, 11, 12] [13, 14, 15, 16, 17, 18, 19, 20, 21, 22, 23, 24, 25, 26, 27, 28, 29, 30, 31, 32, 33] [21, 22, 23, 24, 25, 26, 27, 28, 29, 30, 31, 32, 33, 0, 1, 2, 3, 4, 5, 6, 7, 8, 9, 10, 11, 12, 13, 14, 15, 16, 17, 18, 19, 20] rfl rfl rfl (by decide) rfl rfl rfl rfl rfl hl.1 rfl (Nat.le_of_ble_eq_true rfl) dL_law_114 (rm_c (by omega)) (rm_s (by omega)) (fun H locs hP hD hS => ?_)
    refine lv_istore (lv' := [(5, .int 0), (4, .int (nI i)), (3, .ref o), (2, .ref mo), (1, .ref h), (0, .ref b)]) hx hb dL_law_117 hl (by decide) rfl (fun ls hl => ?_)
    refine lv_aload_n hx hb dL_law_119 rfl (lv_at hl 3 rfl) ?_
    refine wr_VI (q := (RX2, TX2, 5)) (ci := 2) (q0 := 10) (ws0' := cC h a cy (chalkR (stepR R 3 20 (nI nd) 0) n (nI nd) 0) (nd + 1) (n + 1) dr fl ++ [(o, .inl (ly, 1, .inr (.inl (vp_updL g 0 (nI nd).toInt64))))] ++ cW q bq cy (chalkM M n (nI nd) 0) (n + 1) dr an fi ba mo 0 (nd + 1) fl q2 b2 M2 n2 dr2 an2 fi2 ba2) (As := []) (rest := []) ⟨hx, hb, hml, hown, hts⟩ (fun sz => mX2_begin_ok l D cy q bq M n dr an fi ba mo th nd fl q2  (by omega) (by omega) (by omega) ((begin_T hI hAg).trans h0) hn1 sz) (cwV 0 hts gL_law_X2_begin rfl rfl rfl (by decide +kernel) ⟨Nat.le_of_ble_eq_true rfl, Nat.le_of_ble_eq_true rfl⟩) hP hK hD hS hA [13, 14, 15, 16, 17, 18, 19, 20, 21, 22, 23] [0, 1, 2, 3, 4, 5, 6, 7, 8, 9, 10, 11, 12, 24, 25, 26, 27, 28, 29, 30, 31, 32, 33] [0, 1, 2, 3, 4, 5, 6, 7, 8, 9, 10, 11, 12, 23, 24, 25, 26, 27, 28, 29, 30, 31, 32, 33, 13, 14, 15, 16, 17, 18, 19, 20, 21, 22] rfl rfl rfl (by decide) rfl rfl rfl rfl rfl rfl rfl hl.1 rfl (Nat.le_of_ble_eq_true rfl) dL_law_120 (rm_c (by omega)) (rm_s (by omega)) (fun H locs hP hD hS => ?_)
    refine lv_istore (lv' := [(6, .int (nI nd)), (5, .int 0), (4, .int (nI i)), (3, .ref o), (2, .ref mo), (1, .ref h), (0, .ref b)]) hx hb dL_law_123 hl (by decide) rfl (fun ls hl => ?_)
    refine lv_aload_n hx hb dL_law_125 rfl (lv_at hl 4 rfl) ?_
    have hC1 := hI1.1.1
    have hC2 := hI1.1.2.1
    have hC3 := hI1.2.2.1
    refine rd_V (q := (RX2, TX2, 5)) (ci := 2) (q0 := 10) (As := []) (rest := []) ⟨hx, hb, hml, hown, hts⟩ (mX2_thrown l D cy q bq (chalkM M n (nI nd) 0) (n + 1) dr an fi ba mo 0 (nd + 1) fl q2 (by omega) (by omega) (by omega)) (cwV 0 hts gL_law_X2_thrown rfl rfl rfl (by decide +kernel) ⟨Nat.le_of_ble_eq_true rfl, Nat.le_of_ble_eq_true rfl⟩) (hP.sub (ws' := cSM q bq cy (chalkM M n (nI nd) 0) (n + 1) dr an fi ba mo 0 (nd + 1) fl q q2) [13, 14, 15, 16, 17, 18, 19, 20, 21, 22, 23] rfl) hK rfl rfl rfl hl.1 rfl (Nat.le_of_ble_eq_true rfl) dL_law_126 (rm_c (by omega)) (rm_s (by omega)) ?_
    refine lv_iload hx hb dL_law_129 (lv_at hl 1 rfl) ?_
    refine lv_icmp_eq (tgt := 136) hx hb dL_law_131 (by decide) (fun _ => ?_) (fun cq => absurd rfl cq)
    refine lv_iload hx hb dL_law_136 (lv_at hl 1 rfl) ?_
    refine lv_if_ne (tgt := 153) hx hb dL_law_138 (by decide) (fun cq => absurd rfl cq) (fun _ => ?_)
    refine lv_aload_n hx hb dL_law_141 rfl (lv_at hl 3 rfl) ?_
    refine lv_iconst (v := 0) hx hb dL_law_142 (by decide) ?_
    refine va_lald hx hb hKL.1 hP 12 1 rfl rfl (vp_in_nI (n := 0) (by omega) (by omega)) dL_law_143 ?_
    refine lv_iload hx hb dL_law_144 (lv_at hl 0 rfl) ?_
    refine lv_i2l (v := (nI nd).toInt64) hx hb dL_law_146 rfl ?_
    refine W.lcmp hx hb dL_law_147 ?_
    refine lv_if_eq (tgt := 153) hx hb dL_law_148 (by decide) (fun _ => ?_) (fun cq => absurd (cmp_out rfl) cq)
    refine lv_goto (tgt := 857) hx hb dL_law_153 (by decide) ?_
    exact hk (chalkR (stepR R 3 20 (nI nd) 0) n (nI nd) 0) (chalkM M n (nI nd) 0) M2 (nd + 1) (n + 1) dr n2 dr2 fl an fi ba 0 an2 fi2 ba2 (vp_updL g 0 (nI nd).toInt64) H _ d0 ls _ _ ⟨hI1, hA1, hP, hD, hS⟩ hd0 (by omega) (by omega) (lv_sub hl [2, 3, 4, 5, 6] rfl)
  · refine lv_aload_n hx hb dL_law_112 rfl (lv_at hl 3 rfl) ?_
    refine lv_aload_n hx hb dL_law_113 rfl (lv_at hl 1 rfl) ?_
    refine lh_S (ws0' := cC h a cy R nd n dr fl ++ [(o, .inl (ly, 1, .inr (.inl g)))] ++ cW q bq cy M n dr an fi ba mo th nd fl q2 b2 M2 n2 dr2 an2 fi2 ba2) (As := [.ref h, .ref o]) (rest := []) ⟨hx, hb, hml, hown, hts⟩ (fun sz => mL_begin_t1 l hfl D cy ly h a R nd n dr fl o g  (by omega) (by omega) (by omega) h0 sz) (vx_cwSW 2 hts gL_law_L_begin rfl rfl rfl (by decide +kernel) ⟨Nat.le_of_ble_eq_true rfl, Nat.le_of_ble_eq_true rfl⟩) hP hKL hD hS hA hXp hNc [0, 1, 2, 3, 4, 5, 6, 7, 8, 9, 10, 11, 12] [13, 14, 15, 16, 17, 18, 19, 20, 21, 22, 23, 24, 25, 26, 27, 28, 29, 30, 31, 32, 33] [21, 22, 23, 24, 25, 26, 27, 28, 29, 30, 31, 32, 33, 0, 1, 2, 3, 4, 5, 6, 7, 8, 9, 10, 11, 12, 13, 14, 15, 16, 17, 18, 19, 20] rfl rfl rfl (by decide) rfl rfl rfl rfl rfl hl.1 rfl (Nat.le_of_ble_eq_true rfl) dL_law_114 (rm_c (by omega)) (rm_s (by omega)) (fun H locs hP hD hS => ?_)
    refine lv_istore (lv' := [(5, .int 1), (4, .int (nI i)), (3, .ref o), (2, .ref mo), (1, .ref h), (0, .ref b)]) hx hb dL_law_117 hl (by decide) rfl (fun ls hl => ?_)
    refine lv_aload_n hx hb dL_law_119 rfl (lv_at hl 3 rfl) ?_
    refine wr_VI (q := (RX2, TX2, 5)) (ci := 2) (q0 := 10) (ws0' := cC h a cy R nd n dr fl ++ [(o, .inl (ly, 1, .inr (.inl g)))] ++ cW q bq cy M n dr an fi ba mo 1 nd fl q2 b2 M2 n2 dr2 an2 fi2 ba2) (As := []) (rest := []) ⟨hx, hb, hml, hown, hts⟩ (fun sz => mX2_begin_no l D cy q bq M n dr an fi ba mo th nd fl q2  (by omega) (by omega) (by omega) 1 ((begin_T hI hAg).trans h0) (by decide) sz) (cwV 0 hts gL_law_X2_begin rfl rfl rfl (by decide +kernel) ⟨Nat.le_of_ble_eq_true rfl, Nat.le_of_ble_eq_true rfl⟩) hP hK hD hS hA [13, 14, 15, 16, 17, 18, 19, 20, 21, 22, 23] [0, 1, 2, 3, 4, 5, 6, 7, 8, 9, 10, 11, 12, 24, 25, 26, 27, 28, 29, 30, 31, 32, 33] [0, 1, 2, 3, 4, 5, 6, 7, 8, 9, 10, 11, 12, 23, 24, 25, 26, 27, 28, 29, 30, 31, 32, 33, 13, 14, 15, 16, 17, 18, 19, 20, 21, 22] rfl rfl rfl (by decide) rfl rfl rfl rfl rfl rfl rfl hl.1 rfl (Nat.le_of_ble_eq_true rfl) dL_law_120 (rm_c (by omega)) (rm_s (by omega)) (fun H locs hP hD hS => ?_)
    refine lv_istore (lv' := [(6, .int 0), (5, .int 1), (4, .int (nI i)), (3, .ref o), (2, .ref mo), (1, .ref h), (0, .ref b)]) hx hb dL_law_123 hl (by decide) rfl (fun ls hl => ?_)
    refine lv_aload_n hx hb dL_law_125 rfl (lv_at hl 4 rfl) ?_
    refine rd_V (q := (RX2, TX2, 5)) (ci := 2) (q0 := 10) (As := []) (rest := []) ⟨hx, hb, hml, hown, hts⟩ (mX2_thrown l D cy q bq M n dr an fi ba mo 1 nd fl q2 (by omega) (by omega) (by omega)) (cwV 0 hts gL_law_X2_thrown rfl rfl rfl (by decide +kernel) ⟨Nat.le_of_ble_eq_true rfl, Nat.le_of_ble_eq_true rfl⟩) (hP.sub (ws' := cSM q bq cy M n dr an fi ba mo 1 nd fl q q2) [13, 14, 15, 16, 17, 18, 19, 20, 21, 22, 23] rfl) hK rfl rfl rfl hl.1 rfl (Nat.le_of_ble_eq_true rfl) dL_law_126 (rm_c (by omega)) (rm_s (by omega)) ?_
    refine lv_iload hx hb dL_law_129 (lv_at hl 1 rfl) ?_
    refine lv_icmp_eq (tgt := 136) hx hb dL_law_131 (by decide) (fun _ => ?_) (fun cq => absurd rfl cq)
    refine lv_iload hx hb dL_law_136 (lv_at hl 1 rfl) ?_
    refine lv_if_ne (tgt := 153) hx hb dL_law_138 (by decide) (fun _ => ?_) (fun cq => absurd cq (by decide))
    refine lv_goto (tgt := 857) hx hb dL_law_153 (by decide) ?_
    exact hk R M M2 nd n dr n2 dr2 fl an fi ba 1 an2 fi2 ba2 g H _ d0 ls _ _ ⟨hI, hAg, hP, hD, hS⟩ hd0 (by omega) (by omega) (lv_sub hl [2, 3, 4, 5, 6] rfl)

set_option maxHeartbeats 4000000 in
set_option maxRecDepth 100000 in
theorem lc_blow {p : Program} {l : Launch} {e : Env} {s : State} {m : MethodId} {below : List Frame} {meth : Method} {c : Code} {b L : Nat} {xs : Nat → Int32} {D : va_G} {cy ly : ClassId} {h : Nat} {a : Nat → Nat} {o q : Nat} {bq : Nat → Nat} {mo q2 : Nat} {b2 : Nat → Nat} (hc : LCtx p l s m meth c b L xs D cy ly) {i cells slots : Nat} (hcs : cells ≤ 520000) (hss : slots ≤ 3700000) (hv1 : vp_in (nI i + 1) L) (hv2 : vp_in (nI i + 2) L) (hv3 : vp_in (nI i + 3) L) (hk : lwK p l e s m below meth c b D cy ly h a o q bq mo q2 b2 i cells slots) {R M M2 : Nat → Nat → Int32} {nd n dr n2 dr2 : Nat} {fl an fi ba th an2 fi2 ba2 : Int32} {g : Nat → Int64} {H : Heap} {d0 : Drawn} {ls : Array Slot} (hst : LSt s D cy ly h a o q bq mo q2 b2 R M M2 nd n dr n2 dr2 fl an fi ba th an2 fi2 ba2 g H []) (hd0 : s.drawn.sameBut d0 lw_cs) (hl : lv_has ls 9 [(4, .int (nI i)), (3, .ref o), (2, .ref mo), (1, .ref h), (0, .ref b)]) : W p l e room_1 (s.setDrawn d0) m #[Value.ref b] below meth c H [] cells slots (lw_Z below #[Value.ref b] s) (F0 m 404 ls []) := by
  obtain ⟨hfl, C0, hKL, hXp, hNc⟩ := hc
  obtain ⟨hx, hb, hr, hml, hown, hts0, hX, hbl, hlocks, hgv⟩ := id C0
  have hts := dr_words (s := s) (fun w h9 => hts0 w (wsL_law_in w h9)) d0
  have hown : (s.setDrawn d0).vm.findClass RL = some m.cls := hown
  have hA : ∀ q9 : Nat, s.heap.size ≤ q9 → lwA s q9 := fun _ h9 => h9
  have hbA : ¬ lwA s b := Nat.not_le.mpr hbl
  obtain ⟨hI, hAg, hP, hD, hS⟩ := hst
  have hX := va_X.moved (u := s) (U := s.setDrawn d0) (Vm.Alike.refl s.vm) hX
  have hKL0 := hKL
  have hKL := hKL.dr d0
  have hK := hKL.kk
  have hXp := hXp.dr d0
  have hNc := hNc.dr d0
  have hB1 : n ≤ 120 := hI.1.1
  have hB2 : nd ≤ 20 := hI.1.2.1
  have hB3 : dr ≤ n := hI.2.2.1
  refine lv_aload_n hx hb dL_law_404 rfl (lv_at hl 3 rfl) ?_
  refine wr_VI (q := (RX0, TX0, 15)) (ci := 0) (q0 := 0) (ws0' := cC h a cy R nd n (dryN dr n) fl ++ [(o, .inl (ly, 1, .inr (.inl g)))] ++ cW q bq cy M n dr an fi ba mo th nd fl q2 b2 M2 n2 dr2 an2 fi2 ba2) (As := []) (rest := []) ⟨hx, hb, hml, hown, hts⟩ (fun sz => mX0_blow l D cy h a R nd n dr fl (by omega) (by omega) (by omega) sz) (cwV 0 hts gL_law_X0_blow rfl rfl rfl (by decide +kernel) ⟨Nat.le_of_ble_eq_true rfl, Nat.le_of_ble_eq_true rfl⟩) hP hK hD hS hA [0, 1, 2, 3, 4, 5, 6, 7, 8, 9, 10, 11] [12, 13, 14, 15, 16, 17, 18, 19, 20, 21, 22, 23, 24, 25, 26, 27, 28, 29, 30, 31, 32, 33] [22, 23, 24, 25, 26, 27, 28, 29, 30, 31, 32, 33, 0, 1, 2, 3, 4, 5, 6, 7, 8, 9, 10, 11, 12, 13, 14, 15, 16, 17, 18, 19, 20, 21] rfl rfl rfl (by decide) rfl rfl rfl rfl rfl rfl rfl hl.1 rfl (Nat.le_of_ble_eq_true rfl) dL_law_405 (rm_c (by omega)) (rm_s (by omega)) (fun H locs hP hD hS => ?_)
  refine lv_aload_n hx hb dL_law_408 rfl (lv_at hl 2 rfl) ?_
  refine wr_VI (q := (RX2, TX2, 5)) (ci := 2) (q0 := 10) (ws0' := cC h a cy R nd n (dryN dr n) fl ++ [(o, .inl (ly, 1, .inr (.inl g)))] ++ cW q bq cy M n (dryN dr n) an fi ba mo 0 nd fl q2 b2 M2 n2 dr2 an2 fi2 ba2) (As := []) (rest := [.int (nI (dryN dr n) - nI dr)]) ⟨hx, hb, hml, hown, hts⟩ (fun sz => mX2_blow l D cy q bq M n dr an fi ba mo th nd fl q2 (by omega) (by omega) (by omega) sz) (cwV 0 hts gL_law_X2_blow rfl rfl rfl (by decide +kernel) ⟨Nat.le_of_ble_eq_true rfl, Nat.le_of_ble_eq_true rfl⟩) hP hK hD hS hA [13, 14, 15, 16, 17, 18, 19, 20, 21, 22, 23] [0, 1, 2, 3, 4, 5, 6, 7, 8, 9, 10, 11, 12, 24, 25, 26, 27, 28, 29, 30, 31, 32, 33] [0, 1, 2, 3, 4, 5, 6, 7, 8, 9, 10, 11, 12, 23, 24, 25, 26, 27, 28, 29, 30, 31, 32, 33, 13, 14, 15, 16, 17, 18, 19, 20, 21, 22] rfl rfl rfl (by decide) rfl rfl rfl rfl rfl rfl rfl hl.1 rfl (Nat.le_of_ble_eq_true rfl) dL_law_409 (rm_c (by omega)) (rm_s (by omega)) (fun H locs hP hD hS => ?_)
  refine lv_icmp_eq (tgt := 857) hx hb dL_law_412 (by decide) (fun _ => ?_) (fun cq => absurd rfl cq)
  exact hk R M M2 nd n (dryN dr n) n2 dr2 fl an fi ba 0 an2 fi2 ba2 g H _ d0 ls _ _ ⟨blow_ok hI, hAg, hP, hD, hS⟩ hd0 (by omega) (by omega) (lv_sub hl [0, 1, 2, 3, 4] rfl)

set_option maxHeartbeats 4000000 in
set_option maxRecDepth 100000 in
theorem lc_fall {p : Program} {l : Launch} {e : Env} {s : State} {m : MethodId} {below : List Frame} {meth : Method} {c : Code} {b L : Nat} {xs : Nat → Int32} {D : va_G} {cy ly : ClassId} {h : Nat} {a : Nat → Nat} {o q : Nat} {bq : Nat → Nat} {mo q2 : Nat} {b2 : Nat → Nat} (hc : LCtx p l s m meth c b L xs D cy ly) {i cells slots : Nat} (hcs : cells ≤ 520000) (hss : slots ≤ 3700000) (hv1 : vp_in (nI i + 1) L) (hv2 : vp_in (nI i + 2) L) (hv3 : vp_in (nI i + 3) L) (hk : lwK p l e s m below meth c b D cy ly h a o q bq mo q2 b2 i cells slots) {R M M2 : Nat → Nat → Int32} {nd n dr n2 dr2 : Nat} {fl an fi ba th an2 fi2 ba2 : Int32} {g : Nat → Int64} {H : Heap} {d0 : Drawn} {ls : Array Slot} (hst : LSt s D cy ly h a o q bq mo q2 b2 R M M2 nd n dr n2 dr2 fl an fi ba th an2 fi2 ba2 g H []) (hd0 : s.drawn.sameBut d0 lw_cs) (hl : lv_has ls 9 [(4, .int (nI i)), (3, .ref o), (2, .ref mo), (1, .ref h), (0, .ref b)]) : W p l e room_1 (s.setDrawn d0) m #[Value.ref b] below meth c H [] cells slots (lw_Z below #[Value.ref b] s) (F0 m 417 ls []) := by
  obtain ⟨hfl, C0, hKL, hXp, hNc⟩ := hc
  obtain ⟨hx, hb, hr, hml, hown, hts0, hX, hbl, hlocks, hgv⟩ := id C0
  have hts := dr_words (s := s) (fun w h9 => hts0 w (wsL_law_in w h9)) d0
  have hown : (s.setDrawn d0).vm.findClass RL = some m.cls := hown
  have hA : ∀ q9 : Nat, s.heap.size ≤ q9 → lwA s q9 := fun _ h9 => h9
  have hbA : ¬ lwA s b := Nat.not_le.mpr hbl
  obtain ⟨hI, hAg, hP, hD, hS⟩ := hst
  have hX := va_X.moved (u := s) (U := s.setDrawn d0) (Vm.Alike.refl s.vm) hX
  have hKL0 := hKL
  have hKL := hKL.dr d0
  have hK := hKL.kk
  have hXp := hXp.dr d0
  have hNc := hNc.dr d0
  have hB1 : n ≤ 120 := hI.1.1
  have hB2 : nd ≤ 20 := hI.1.2.1
  have hB3 : dr ≤ n := hI.2.2.1
  obtain ⟨hok, hfb, e3, eC, hI9, hA9⟩ := fall_ok hI hAg
  refine lv_aload_n hx hb dL_law_417 rfl (lv_at hl 3 rfl) ?_
  refine wr_VI (q := (RX0, TX0, 15)) (ci := 0) (q0 := 0) (ws0' := cC h a cy ((fallP nd (fallD R nd dr) dr nd).1) nd ((fallP nd (fallD R nd dr) dr nd).2) dr (fl + 1) ++ [(o, .inl (ly, 1, .inr (.inl g)))] ++ cW q bq cy M n dr an fi ba mo th nd fl q2 b2 M2 n2 dr2 an2 fi2 ba2) (As := []) (rest := []) ⟨hx, hb, hml, hown, hts⟩ (fun sz => mX0_fall l D cy h a R nd n dr fl (by omega) (by omega) (by omega) hfb sz) (cwV 0 hts gL_law_X0_fall rfl rfl rfl (by decide +kernel) ⟨Nat.le_of_ble_eq_true rfl, Nat.le_of_ble_eq_true rfl⟩) hP hK hD hS hA [0, 1, 2, 3, 4, 5, 6, 7, 8, 9, 10, 11] [12, 13, 14, 15, 16, 17, 18, 19, 20, 21, 22, 23, 24, 25, 26, 27, 28, 29, 30, 31, 32, 33] [22, 23, 24, 25, 26, 27, 28, 29, 30, 31, 32, 33, 0, 1, 2, 3, 4, 5, 6, 7, 8, 9, 10, 11, 12, 13, 14, 15, 16, 17, 18, 19, 20, 21] rfl rfl rfl (by decide) rfl rfl rfl rfl rfl rfl rfl hl.1 rfl (Nat.le_of_ble_eq_true rfl) dL_law_418 (rm_c (by omega)) (rm_s (by omega)) (fun H locs hP hD hS => ?_)
  refine lv_aload_n hx hb dL_law_421 rfl (lv_at hl 2 rfl) ?_
  refine wr_VI (q := (RX2, TX2, 5)) (ci := 2) (q0 := 10) (ws0' := cC h a cy ((fallP nd (fallD R nd dr) dr nd).1) nd ((fallP nd (fallD R nd dr) dr nd).2) dr (fl + 1) ++ [(o, .inl (ly, 1, .inr (.inl g)))] ++ cW q bq cy ((fallM3 M nd dr).1) ((fallM3 M nd dr).2.1) dr ((fallM2 M dr).2.1) ((fallM2 M dr).2.2) ((fallM3 M nd dr).2.2) mo 0 nd (fl + 1) q2 b2 M2 n2 dr2 an2 fi2 ba2) (As := []) (rest := [.int (doC (fallB R nd dr) dr)]) ⟨hx, hb, hml, hown, hts⟩ (fun sz => mX2_fall l D cy q bq M n dr an fi ba mo th nd fl q2 (by omega) (by omega) (by omega) hok sz) (cwV 0 hts gL_law_X2_fall rfl rfl rfl (by decide +kernel) ⟨Nat.le_of_ble_eq_true rfl, Nat.le_of_ble_eq_true rfl⟩) hP hK hD hS hA [13, 14, 15, 16, 17, 18, 19, 20, 21, 22, 23] [0, 1, 2, 3, 4, 5, 6, 7, 8, 9, 10, 11, 12, 24, 25, 26, 27, 28, 29, 30, 31, 32, 33] [0, 1, 2, 3, 4, 5, 6, 7, 8, 9, 10, 11, 12, 23, 24, 25, 26, 27, 28, 29, 30, 31, 32, 33, 13, 14, 15, 16, 17, 18, 19, 20, 21, 22] rfl rfl rfl (by decide) rfl rfl rfl rfl rfl rfl rfl hl.1 rfl (Nat.le_of_ble_eq_true rfl) dL_law_422 (rm_c (by omega)) (rm_s (by omega)) (fun H locs hP hD hS => ?_)
  rw [e3] at hP hD
  refine lv_icmp_eq (tgt := 857) hx hb dL_law_425 (by decide) (fun _ => ?_) (fun cq => absurd eC.symm cq)
  exact hk ((fallP nd (fallD R nd dr) dr nd).1) ((fallM3 M nd dr).1) M2 nd ((fallP nd (fallD R nd dr) dr nd).2) dr n2 dr2 (fl + 1) ((fallM2 M dr).2.1) ((fallM2 M dr).2.2) ((fallM3 M nd dr).2.2) 0 an2 fi2 ba2 g H _ d0 ls _ _ ⟨hI9, hA9, hP, hD, hS⟩ hd0 (by omega) (by omega) (lv_sub hl [0, 1, 2, 3, 4] rfl)
end LWD
