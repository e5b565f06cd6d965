section LWD
set_option maxHeartbeats 4000000 in
set_option maxRecDepth 100000 in
theorem lc_finish {p : Program} {l : Launch} {e : Env} {s : State} {m : MethodId} {below : List Frame} {meth : Method} {c : Code} {b L : Nat} {xs : Nat → Int32} {D : va_G} {cy ly : ClassId} {h : Nat} {a : Nat → Nat} {o q : Nat} {bq : Nat → Nat} {mo q2 : Nat} {b2 : Nat → Nat} (hc : LCtx p l s m meth c b L xs D cy ly) {i cells slots : Nat} (hcs : cells ≤ 520000) (hss : slots ≤ 3700000) (hv1 : vp_in (nI i + 1) L) (hv2 : vp_in (nI i + 2) L) (hv3 : vp_in (nI i + 3) L) (hk : lwK p l e s m below meth c b D cy ly h a o q bq mo q2 b2 i cells slots) {R M M2 : Nat → Nat → Int32} {nd n dr n2 dr2 : Nat} {fl an fi ba th an2 fi2 ba2 : Int32} {g : Nat → Int64} {H : Heap} {d0 : Drawn} {ls : Array Slot} (hst : LSt s D cy ly h a o q bq mo q2 b2 R M M2 nd n dr n2 dr2 fl an fi ba th an2 fi2 ba2 g H []) (hd0 : s.drawn.sameBut d0 lw_cs) (hl : lv_has ls 9 [(4, .int (nI i)), (3, .ref o), (2, .ref mo), (1, .ref h), (0, .ref b)]) : W p l e room_1 (s.setDrawn d0) m #[Value.ref b] below meth c H [] cells slots (lw_Z below #[Value.ref b] s) (F0 m 236 ls []) := by
  obtain ⟨hfl, C0, hKL, hXp, hNc⟩ := hc
  obtain ⟨hx, hb, hr, hml, hown, hts0, hX, hbl, hlocks, hgv⟩ := id C0
  have hts := dr_words (s := s) (fun w h9 => hts0 w (wsL_law_in w h9)) d0
  have hown : (s.setDrawn d0).vm.findClass RL = some m.cls := hown
  have hA : ∀ q9 : Nat, s.heap.size ≤ q9 → lwA s q9 := fun _ h9 => h9
  have hbA : ¬ lwA s b := Nat.not_le.mpr hbl
  obtain ⟨hI, hAg, hP, hD, hS⟩ := hst
  have hX := va_X.moved (u := s) (U := s.setDrawn d0) (Vm.Alike.refl s.vm) hX
  have hKL0 := hKL
  have hKL := hKL.dr d0
  have hK := hKL.kk
  have hXp := hXp.dr d0
  have hNc := hNc.dr d0
  have hB1 : n ≤ 120 := hI.1.1
  have hB2 : nd ≤ 20 := hI.1.2.1
  have hB3 : dr ≤ n := hI.2.2.1
  rcases open_c R nd (xs (nI i + 1).toNatClampNeg) with h0 | h0 | h0
  · obtain ⟨hn1, hI1, hA1⟩ := finish_ok hI hAg h0
    refine lv_aload_n hx hb dL_law_236 rfl (lv_at hl 3 rfl) ?_
    refine lv_aload_n hx hb dL_law_237 rfl (lv_at hl 4 rfl) ?_
    refine lv_iload hx hb dL_law_238 (lv_at hl 0 rfl) ?_
    refine lv_iconst (v := 1) hx hb dL_law_240 (by decide) ?_
    refine lv_iadd hx hb dL_law_241 ?_
    refine va_sld hx hb hX hbl hbA hS hv1 dL_law_242 ?_
    refine lv_aload_n hx hb dL_law_243 rfl (lv_at hl 1 rfl) ?_
    refine lh_S (ws0' := cC h a cy (stepR (chalkR R n (xs (nI i + 1).toNatClampNeg) 2) 3 20 (xs (nI i + 1).toNatClampNeg) 1) nd (n + 1) (dryN dr (n + 1)) fl ++ [(o, .inl (ly, 1, .inr (.inl (vp_updL g 0 (nI (dryN dr (n + 1)) - nI dr).toInt64))))] ++ cW q bq cy M n dr an fi ba mo th nd fl q2 b2 M2 n2 dr2 an2 fi2 ba2) (As := [.ref h, .int (xs (nI i + 1).toNatClampNeg), .ref o]) (rest := []) ⟨hx, hb, hml, hown, hts⟩ (fun sz => mL_finish_ok l D cy ly h a R nd n dr fl o g (xs (nI i + 1).toNatClampNeg) (by omega) (by omega) (by omega) h0 (by omega) sz) (vx_cwSW 3 hts gL_law_L_finish rfl rfl rfl (by decide +kernel) ⟨Nat.le_of_ble_eq_true rfl, Nat.le_of_ble_eq_true rfl⟩) hP hKL hD hS hA hXp hNc [0, 1, 2, 3, 4, 5, 6, 7, 8, 9, 10, 11, 12] [13, 14, 15, 16, 17, 18, 19, 20, 21, 22, 23, 24, 25, 26, 27, 28, 29, 30, 31, 32, 33] [21, 22, 23, 24, 25, 26, 27, 28, 29, 30, 31, 32, 33, 0, 1, 2, 3, 4, 5, 6, 7, 8, 9, 10, 11, 12, 13, 14, 15, 16, 17, 18, 19, 20] rfl rfl rfl (by decide) rfl rfl rfl rfl rfl hl.1 rfl (Nat.le_of_ble_eq_true rfl) dL_law_244 (rm_c (by omega)) (rm_s (by omega)) (fun H locs hP hD hS => ?_)
    refine lv_istore (lv' := [(5, .int 0), (4, .int (nI i)), (3, .ref o), (2, .ref mo), (1, .ref h), (0, .ref b)]) hx hb dL_law_247 hl (by decide) rfl (fun ls hl => ?_)
    refine lv_aload_n hx hb dL_law_249 rfl (lv_at hl 3 rfl) ?_
    refine lv_aload_n hx hb dL_law_250 rfl (lv_at hl 5 rfl) ?_
    refine lv_iload hx hb dL_law_251 (lv_at hl 1 rfl) ?_
    refine lv_iconst (v := 1) hx hb dL_law_253 (by decide) ?_
    refine lv_iadd hx hb dL_law_254 ?_
    refine va_sld hx hb hX hbl hbA hS hv1 dL_law_255 ?_
    refine wr_VI (q := (RX2, TX2, 5)) (ci := 2) (q0 := 10) (ws0' := cC h a cy (stepR (chalkR R n (xs (nI i + 1).toNatClampNeg) 2) 3 20 (xs (nI i + 1).toNatClampNeg) 1) nd (n + 1) (dryN dr (n + 1)) fl ++ [(o, .inl (ly, 1, .inr (.inl (vp_updL g 0 (nI (dryN dr (n + 1)) - nI dr).toInt64))))] ++ cW q bq cy (chalkM M n (xs (nI i + 1).toNatClampNeg) 2) (n + 1) (dryN dr (n + 1)) an fi ba mo 0 nd fl q2 b2 M2 n2 dr2 an2 fi2 ba2) (As := [.int (xs (nI i + 1).toNatClampNeg)]) (rest := []) ⟨hx, hb, hml, hown, hts⟩ (fun sz => mX2_finish_ok l D cy q bq M n dr an fi ba mo th nd fl q2 (xs (nI i + 1).toNatClampNeg) (by omega) (by omega) (by omega) ((open_T hI hAg _).trans h0) hn1 sz) (cwV 1 hts gL_law_X2_finish rfl rfl rfl (by decide +kernel) ⟨Nat.le_of_ble_eq_true rfl, Nat.le_of_ble_eq_true rfl⟩) hP hK hD hS hA [13, 14, 15, 16, 17, 18, 19, 20, 21, 22, 23] [0, 1, 2, 3, 4, 5, 6, 7, 8, 9, 10, 11, 12, 24, 25, 26, 27, 28, 29, 30, 31, 32, 33] [0, 1, 2, 3, 4, 5, 6, 7, 8, 9, 10, 11, 12, 23, 24, 25, 26, 27, 28, 29, 30, 31, 32, 33, 13, 14, 15, 16, 17, 18, 19, 20, 21, 22] rfl rfl rfl (by decide) rfl rfl rfl rfl rfl rfl rfl hl.1 rfl (Nat.le_of_ble_eq_true rfl) dL_law_256 (rm_c (by omega)) (rm_s (by omega)) (fun H locs hP hD hS => ?_)
    refine lv_istore (lv' := [(6, .int (nI (dryN dr (n + 1)) - nI dr)), (5, .int 0), (4, .int (nI i)), (3, .ref o), (2, .ref mo), (1, .ref h), (0, .ref b)]) hx hb dL_law_259 hl (by decide) rfl (fun ls hl => ?_)
    refine lv_aload_n hx hb dL_law_261 rfl (lv_at hl 4 rfl) ?_
    have hC1 := hI1.1.1
    have hC2 := hI1.1.2.1
    have hC3 := hI1.2.2.1
    refine rd_V (q := (RX2, TX2, 5)) (ci := 2) (q0 := 10) (As := []) (rest := []) ⟨hx, hb, hml, hown, hts⟩ (mX2_thrown l D cy q bq (chalkM M n (xs (nI i + 1).toNatClampNeg) 2) (n + 1) (dryN dr (n + 1)) an fi ba mo 0 nd fl q2 (by omega) (by omega) (by omega)) (cwV 0 hts gL_law_X2_thrown rfl rfl rfl (by decide +kernel) ⟨Nat.le_of_ble_eq_true rfl, Nat.le_of_ble_eq_true rfl⟩) (hP.sub (ws' := cSM q bq cy (chalkM M n (xs (nI i + 1).toNatClampNeg) 2) (n + 1) (dryN dr (n + 1)) an fi ba mo 0 nd fl q q2) [13, 14, 15, 16, 17, 18, 19, 20, 21, 22, 23] rfl) hK rfl rfl rfl hl.1 rfl (Nat.le_of_ble_eq_true rfl) dL_law_262 (rm_c (by omega)) (rm_s (by omega)) ?_
    refine lv_iload hx hb dL_law_265 (lv_at hl 1 rfl) ?_
    refine lv_icmp_eq (tgt := 272) hx hb dL_law_267 (by decide) (fun _ => ?_) (fun cq => absurd rfl cq)
    refine lv_iload hx hb dL_law_272 (lv_at hl 1 rfl) ?_
    refine lv_if_ne (tgt := 289) hx hb dL_law_274 (by decide) (fun cq => absurd rfl cq) (fun _ => ?_)
    refine lv_aload_n hx hb dL_law_277 rfl (lv_at hl 3 rfl) ?_
    refine lv_iconst (v := 0) hx hb dL_law_278 (by decide) ?_
    refine va_lald hx hb hKL.1 hP 12 1 rfl rfl (vp_in_nI (n := 0) (by omega) (by omega)) dL_law_279 ?_
    refine lv_iload hx hb dL_law_280 (lv_at hl 0 rfl) ?_
    refine lv_i2l (v := (nI (dryN dr (n + 1)) - nI dr).toInt64) hx hb dL_law_282 rfl ?_
    refine W.lcmp hx hb dL_law_283 ?_
    refine lv_if_eq (tgt := 289) hx hb dL_law_284 (by decide) (fun _ => ?_) (fun cq => absurd (cmp_out rfl) cq)
    refine lv_goto (tgt := 857) hx hb dL_law_289 (by decide) ?_
    exact hk (stepR (chalkR R n (xs (nI i + 1).toNatClampNeg) 2) 3 20 (xs (nI i + 1).toNatClampNeg) 1) (chalkM M n (xs (nI i + 1).toNatClampNeg) 2) M2 nd (n + 1) (dryN dr (n + 1)) n2 dr2 fl an fi ba 0 an2 fi2 ba2 (vp_updL g 0 (nI (dryN dr (n + 1)) - nI dr).toInt64) H _ d0 ls _ _ ⟨hI1, hA1, hP, hD, hS⟩ hd0 (by omega) (by omega) (lv_sub hl [2, 3, 4, 5, 6] rfl)
  · refine lv_aload_n hx hb dL_law_236 rfl (lv_at hl 3 rfl) ?_
    refine lv_aload_n hx hb dL_law_237 rfl (lv_at hl 4 rfl) ?_
    refine lv_iload hx hb dL_law_238 (lv_at hl 0 rfl) ?_
    refine lv_iconst (v := 1) hx hb dL_law_240 (by decide) ?_
    refine lv_iadd hx hb dL_law_241 ?_
    refine va_sld hx hb hX hbl hbA hS hv1 dL_law_242 ?_
    refine lv_aload_n hx hb dL_law_243 rfl (lv_at hl 1 rfl) ?_
    refine lh_S (ws0' := cC h a cy R nd n dr fl ++ [(o, .inl (ly, 1, .inr (.inl g)))] ++ cW q bq cy M n dr an fi ba mo th nd fl q2 b2 M2 n2 dr2 an2 fi2 ba2) (As := [.ref h, .int (xs (nI i + 1).toNatClampNeg), .ref o]) (rest := []) ⟨hx, hb, hml, hown, hts⟩ (fun sz => mL_finish_t1 l hfl D cy ly h a R nd n dr fl o g (xs (nI i + 1).toNatClampNeg) (by omega) (by omega) (by omega) h0 sz) (vx_cwSW 3 hts gL_law_L_finish rfl rfl rfl (by decide +kernel) ⟨Nat.le_of_ble_eq_true rfl, Nat.le_of_ble_eq_true rfl⟩) hP hKL hD hS hA hXp hNc [0, 1, 2, 3, 4, 5, 6, 7, 8, 9, 10, 11, 12] [13, 14, 15, 16, 17, 18, 19, 20, 21, 22, 23, 24, 25, 26, 27, 28, 29, 30, 31, 32, 33] [21, 22, 23, 24, 25, 26, 27, 28, 29, 30, 31, 32, 33, 0, 1, 2, 3, 4, 5, 6, 7, 8, 9, 10, 11, 12, 13, 14, 15, 16, 17, 18, 19, 20] rfl rfl rfl (by decide) rfl rfl rfl rfl rfl hl.1 rfl (Nat.le_of_ble_eq_true rfl) dL_law_244 (rm_c (by omega)) (rm_s (by omega)) (fun H locs hP hD hS => ?_)
    refine lv_istore (lv' := [(5, .int 1), (4, .int (nI i)), (3, .ref o), (2, .ref mo), (1, .ref h), (0, .ref b)]) hx hb dL_law_247 hl (by decide) rfl (fun ls hl => ?_)
    refine lv_aload_n hx hb dL_law_249 rfl (lv_at hl 3 rfl) ?_
    refine lv_aload_n hx hb dL_law_250 rfl (lv_at hl 5 rfl) ?_
    refine lv_iload hx hb dL_law_251 (lv_at hl 1 rfl) ?_
    refine lv_iconst (v := 1) hx hb dL_law_253 (by decide) ?_
    refine lv_iadd hx hb dL_law_254 ?_
    refine va_sld hx hb hX hbl hbA hS hv1 dL_law_255 ?_
    refine wr_VI (q := (RX2, TX2, 5)) (ci := 2) (q0 := 10) (ws0' := cC h a cy R nd n dr fl ++ [(o, .inl (ly, 1, .inr (.inl g)))] ++ cW q bq cy M n dr an fi ba mo 1 nd fl q2 b2 M2 n2 dr2 an2 fi2 ba2) (As := [.int (xs (nI i + 1).toNatClampNeg)]) (rest := []) ⟨hx, hb, hml, hown, hts⟩ (fun sz => mX2_finish_no l D cy q bq M n dr an fi ba mo th nd fl q2 (xs (nI i + 1).toNatClampNeg) (by omega) (by omega) (by omega) 1 ((open_T hI hAg _).trans h0) (by decide) sz) (cwV 1 hts gL_law_X2_finish rfl rfl rfl (by decide +kernel) ⟨Nat.le_of_ble_eq_true rfl, Nat.le_of_ble_eq_true rfl⟩) hP hK hD hS hA [13, 14, 15, 16, 17, 18, 19, 20, 21, 22, 23] [0, 1, 2, 3, 4, 5, 6, 7, 8, 9, 10, 11, 12, 24, 25, 26, 27, 28, 29, 30, 31, 32, 33] [0, 1, 2, 3, 4, 5, 6, 7, 8, 9, 10, 11, 12, 23, 24, 25, 26, 27, 28, 29, 30, 31, 32, 33, 13, 14, 15, 16, 17, 18, 19, 20, 21, 22] rfl rfl rfl (by decide) rfl rfl rfl rfl rfl rfl rfl hl.1 rfl (Nat.le_of_ble_eq_true rfl) dL_law_256 (rm_c (by omega)) (rm_s (by omega)) (fun H locs hP hD hS => ?_)
    refine lv_istore (lv' := [(6, .int 0), (5, .int 1), (4, .int (nI i)), (3, .ref o), (2, .ref mo), (1, .ref h), (0, .ref b)]) hx hb dL_law_259 hl (by decide) rfl (fun ls hl => ?_)
    refine lv_aload_n hx hb dL_law_261 rfl (lv_at hl 4 rfl) ?_
    refine rd_V (q := (RX2, TX2, 5)) (ci := 2) (q0 := 10) (As := []) (rest := []) ⟨hx, hb, hml, hown, hts⟩ (mX2_thrown l D cy q bq M n dr an fi ba mo 1 nd fl q2 (by omega) (by omega) (by omega)) (cwV 0 hts gL_law_X2_thrown rfl rfl rfl (by decide +kernel) ⟨Nat.le_of_ble_eq_true rfl, Nat.le_of_ble_eq_true rfl⟩) (hP.sub (ws' := cSM q bq cy M n dr an fi ba mo 1 nd fl q q2) [13, 14, 15, 16, 17, 18, 19, 20, 21, 22, 23] rfl) hK rfl rfl rfl hl.1 rfl (Nat.le_of_ble_eq_true rfl) dL_law_262 (rm_c (by omega)) (rm_s (by omega)) ?_
    refine lv_iload hx hb dL_law_265 (lv_at hl 1 rfl) ?_
    refine lv_icmp_eq (tgt := 272) hx hb dL_law_267 (by decide) (fun _ => ?_) (fun cq => absurd rfl cq)
    refine lv_iload hx hb dL_law_272 (lv_at hl 1 rfl) ?_
    refine lv_if_ne (tgt := 289) hx hb dL_law_274 (by decide) (fun _ => ?_) (fun cq => absurd cq (by decide))
    refine lv_goto (tgt := 857) hx hb dL_law_289 (by decide) ?_
    exact hk R M M2 nd n dr n2 dr2 fl an fi ba 1 an2 fi2 ba2 g H _ d0 ls _ _ ⟨hI, hAg, hP, hD, hS⟩ hd0 (by omega) (by omega) (lv_sub hl [2, 3, 4, 5, 6] rfl)
  · refine lv_aload_n hx hb dL_law_236 rfl (lv_at hl 3 rfl) ?_
    refine lv_aload_n hx hb dL_law_237 rfl (lv_at hl 4 rfl) ?_
    refine lv_iload hx hb dL_law_238 (lv_at hl 0 rfl) ?_
    refine lv_iconst (v := 1) hx hb dL_law_240 (by decide) ?_
    refine lv_iadd hx hb dL_law_241 ?_
    refine va_sld hx hb hX hbl hbA hS hv1 dL_law_242 ?_
    refine lv_aload_n hx hb dL_law_243 rfl (lv_at hl 1 rfl) ?_
    refine lh_S (ws0' := cC h a cy R nd n dr fl ++ [(o, .inl (ly, 1, .inr (.inl g)))] ++ cW q bq cy M n dr an fi ba mo th nd fl q2 b2 M2 n2 dr2 an2 fi2 ba2) (As := [.ref h, .int (xs (nI i + 1).toNatClampNeg), .ref o]) (rest := []) ⟨hx, hb, hml, hown, hts⟩ (fun sz => mL_finish_t2 l hfl D cy ly h a R nd n dr fl o g (xs (nI i + 1).toNatClampNeg) (by omega) (by omega) (by omega) h0 sz) (vx_cwSW 3 hts gL_law_L_finish rfl rfl rfl (by decide +kernel) ⟨Nat.le_of_ble_eq_true rfl, Nat.le_of_ble_eq_true rfl⟩) hP hKL hD hS hA hXp hNc [0, 1, 2, 3, 4, 5, 6, 7, 8, 9, 10, 11, 12] [13, 14, 15, 16, 17, 18, 19, 20, 21, 22, 23, 24, 25, 26, 27, 28, 29, 30, 31, 32, 33] [21, 22, 23, 24, 25, 26, 27, 28, 29, 30, 31, 32, 33, 0, 1, 2, 3, 4, 5, 6, 7, 8, 9, 10, 11, 12, 13, 14, 15, 16, 17, 18, 19, 20] rfl rfl rfl (by decide) rfl rfl rfl rfl rfl hl.1 rfl (Nat.le_of_ble_eq_true rfl) dL_law_244 (rm_c (by omega)) (rm_s (by omega)) (fun H locs hP hD hS => ?_)
    refine lv_istore (lv' := [(5, .int 2), (4, .int (nI i)), (3, .ref o), (2, .ref mo), (1, .ref h), (0, .ref b)]) hx hb dL_law_247 hl (by decide) rfl (fun ls hl => ?_)
    refine lv_aload_n hx hb dL_law_249 rfl (lv_at hl 3 rfl) ?_
    refine lv_aload_n hx hb dL_law_250 rfl (lv_at hl 5 rfl) ?_
    refine lv_iload hx hb dL_law_251 (lv_at hl 1 rfl) ?_
    refine lv_iconst (v := 1) hx hb dL_law_253 (by decide) ?_
    refine lv_iadd hx hb dL_law_254 ?_
    refine va_sld hx hb hX hbl hbA hS hv1 dL_law_255 ?_
    refine wr_VI (q := (RX2, TX2, 5)) (ci := 2) (q0 := 10) (ws0' := cC h a cy R nd n dr fl ++ [(o, .inl (ly, 1, .inr (.inl g)))] ++ cW q bq cy M n dr an fi ba mo 2 nd fl q2 b2 M2 n2 dr2 an2 fi2 ba2) (As := [.int (xs (nI i + 1).toNatClampNeg)]) (rest := []) ⟨hx, hb, hml, hown, hts⟩ (fun sz => mX2_finish_no l D cy q bq M n dr an fi ba mo th nd fl q2 (xs (nI i + 1).toNatClampNeg) (by omega) (by omega) (by omega) 2 ((open_T hI hAg _).trans h0) (by decide) sz) (cwV 1 hts gL_law_X2_finish rfl rfl rfl (by decide +kernel) ⟨Nat.le_of_ble_eq_true rfl, Nat.le_of_ble_eq_true rfl⟩) hP hK hD hS hA [13, 14, 15, 16, 17, 18, 19, 20, 21, 22, 23] [0, 1, 2, 3, 4, 5, 6, 7, 8, 9, 10, 11, 12, 24, 25, 26, 27, 28, 29, 30, 31, 32, 33] [0, 1, 2, 3, 4, 5, 6, 7, 8, 9, 10, 11, 12, 23, 24, 25, 26, 27, 28, 29, 30, 31, 32, 33, 13, 14, 15, 16, 17, 18, 19, 20, 21, 22] rfl rfl rfl (by decide) rfl rfl rfl rfl rfl rfl rfl hl.1 rfl (Nat.le_of_ble_eq_true rfl) dL_law_256 (rm_c (by omega)) (rm_s (by omega)) (fun H locs hP hD hS => ?_)
    refine lv_istore (lv' := [(6, .int 0), (5, .int 2), (4, .int (nI i)), (3, .ref o), (2, .ref mo), (1, .ref h), (0, .ref b)]) hx hb dL_law_259 hl (by decide) rfl (fun ls hl => ?_)
    refine lv_aload_n hx hb dL_law_261 rfl (lv_at hl 4 rfl) ?_
    refine rd_V (q := (RX2, TX2, 5)) (ci := 2) (q0 := 10) (As := []) (rest := []) ⟨hx, hb, hml, hown, hts⟩ (mX2_thrown l D cy q bq M n dr an fi ba mo 2 nd fl q2 (by omega) (by omega) (by omega)) (cwV 0 hts gL_law_X2_thrown rfl rfl rfl (by decide +kernel) ⟨Nat.le_of_ble_eq_true rfl, Nat.le_of_ble_eq_true rfl⟩) (hP.sub (ws' := cSM q bq cy M n dr an fi ba mo 2 nd fl q q2) [13, 14, 15, 16, 17, 18, 19, 20, 21, 22, 23] rfl) hK rfl rfl rfl hl.1 rfl (Nat.le_of_ble_eq_true rfl) dL_law_262 (rm_c (by omega)) (rm_s (by omega)) ?_
    refine lv_iload hx hb dL_law_265 (lv_at hl 1 rfl) ?_
    refine lv_icmp_eq (tgt := 272) hx hb dL_law_267 (by decide) (fun _ => ?_) (fun cq => absurd rfl cq)
    refine lv_iload hx hb dL_law_272 (lv_at hl 1 rfl) ?_
    refine lv_if_ne (tgt := 289) hx hb dL_law_274 (by decide) (fun _ => ?_) (fun cq => absurd cq (by decide))
    refine lv_goto (tgt := 857) hx hb dL_law_289 (by decide) ?_
    exact hk R M M2 nd n dr n2 dr2 fl an fi ba 2 an2 fi2 ba2 g H _ d0 ls _ _ ⟨hI, hAg, hP, hD, hS⟩ hd0 (by omega) (by omega) (lv_sub hl [2, 3, 4, 5, 6] rfl)

set_option maxHeartbeats 4000000 in
set_option maxRecDepth 100000 in
theorem lc_drop {p : Program} {l : Launch} {e : Env} {s : State} {m : MethodId} {below : List Frame} {meth : Method} {c : Code} {b L : Nat} {xs : Nat → Int32} {D : va_G} {cy ly : ClassId} {h : Nat} {a : Nat → Nat} {o q : Nat} {bq : Nat → Nat} {mo q2 : Nat} {b2 : Nat → Nat} (hc : LCtx p l s m meth c b L xs D cy ly) {i cells slots : Nat} (hcs : cells ≤ 520000) (hss : slots ≤ 3700000) (hv1 : vp_in (nI i + 1) L) (hv2 : vp_in (nI i + 2) L) (hv3 : vp_in (nI i + 3) L) (hk : lwK p l e s m below meth c b D cy ly h a o q bq mo q2 b2 i cells slots) {R M M2 : Nat → Nat → Int32} {nd n dr n2 dr2 : Nat} {fl an fi ba th an2 fi2 ba2 : Int32} {g : Nat → Int64} {H : Heap} {d0 : Drawn} {ls : Array Slot} (hst : LSt s D cy ly h a o q bq mo q2 b2 R M M2 nd n dr n2 dr2 fl an fi ba th an2 fi2 ba2 g H []) (hd0 : s.drawn.sameBut d0 lw_cs) (hl : lv_has ls 9 [(4, .int (nI i)), (3, .ref o), (2, .ref mo), (1, .ref h), (0, .ref b)]) : W p l e room_1 (s.setDrawn d0) m #[Value.ref b] below meth c H [] cells slots (lw_Z below #[Value.ref b] s) (F0 m 292 ls []) := by
  obtain ⟨hfl, C0, hKL, hXp, hNc⟩ := hc
  obtain ⟨hx, hb, hr, hml, hown, hts0, hX, hbl, hlocks, hgv⟩ := id C0
  have hts := dr_words (s := s) (fun w h9 => hts0 w (wsL_law_in w h9)) d0
  have hown : (s.setDrawn d0).vm.findClass RL = some m.cls := hown
  have hA : ∀ q9 : Nat, s.heap.size ≤ q9 → lwA s q9 := fun _ h9 => h9
  have hbA : ¬ lwA s b := Nat.not_le.mpr hbl
  obtain ⟨hI, hAg, hP, hD, hS⟩ := hst
  have hX := va_X.moved (u := s) (U := s.setDrawn d0) (Vm.Alike.refl s.vm) hX
  have hKL0 := hKL
  have hKL := hKL.dr d0
  have hK := hKL.kk
  have hXp := hXp.dr d0
  have hNc := hNc.dr d0
  have hB1 : n ≤ 120 := hI.1.1
  have hB2 : nd ≤ 20 := hI.1.2.1
  have hB3 : dr ≤ n := hI.2.2.1
  rcases open_c R nd (xs (nI i + 1).toNatClampNeg) with h0 | h0 | h0
  · obtain ⟨hok, eN, eC, hI1, hA1⟩ := drop_ok hI hAg h0
    refine lv_aload_n hx hb dL_law_292 rfl (lv_at hl 3 rfl) ?_
    refine lv_aload_n hx hb dL_law_293 rfl (lv_at hl 4 rfl) ?_
    refine lv_iload hx hb dL_law_294 (lv_at hl 0 rfl) ?_
    refine lv_iconst (v := 1) hx hb dL_law_296 (by decide) ?_
    refine lv_iadd hx hb dL_law_297 ?_
    refine va_sld hx hb hX hbl hbA hS hv1 dL_law_298 ?_
    refine lv_aload_n hx hb dL_law_299 rfl (lv_at hl 1 rfl) ?_
    refine lh_S (ws0' := cC h a cy (undoR R n (xs (nI i + 1).toNatClampNeg)) nd (undoN R n (xs (nI i + 1).toNatClampNeg)) dr fl ++ [(o, .inl (ly, 1, .inr (.inl (vp_updL g 0 (undoC R n (xs (nI i + 1).toNatClampNeg)).toInt64))))] ++ cW q bq cy M n dr an fi ba mo th nd fl q2 b2 M2 n2 dr2 an2 fi2 ba2) (As := [.ref h, .int (xs (nI i + 1).toNatClampNeg), .ref o]) (rest := []) ⟨hx, hb, hml, hown, hts⟩ (fun sz => mL_drop_ok l D cy ly h a R nd n dr fl o g (xs (nI i + 1).toNatClampNeg) (by omega) (by omega) (by omega) h0 (by omega) sz) (vx_cwSW 3 hts gL_law_L_drop rfl rfl rfl (by decide +kernel) ⟨Nat.le_of_ble_eq_true rfl, Nat.le_of_ble_eq_true rfl⟩) hP hKL hD hS hA hXp hNc [0, 1, 2, 3, 4, 5, 6, 7, 8, 9, 10, 11, 12] [13, 14, 15, 16, 17, 18, 19, 20, 21, 22, 23, 24, 25, 26, 27, 28, 29, 30, 31, 32, 33] [21, 22, 23, 24, 25, 26, 27, 28, 29, 30, 31, 32, 33, 0, 1, 2, 3, 4, 5, 6, 7, 8, 9, 10, 11, 12, 13, 14, 15, 16, 17, 18, 19, 20] rfl rfl rfl (by decide) rfl rfl rfl rfl rfl hl.1 rfl (Nat.le_of_ble_eq_true rfl) dL_law_300 (rm_c (by omega)) (rm_s (by omega)) (fun H locs hP hD hS => ?_)
    refine lv_istore (lv' := [(5, .int 0), (4, .int (nI i)), (3, .ref o), (2, .ref mo), (1, .ref h), (0, .ref b)]) hx hb dL_law_303 hl (by decide) rfl (fun ls hl => ?_)
    refine lv_aload_n hx hb dL_law_305 rfl (lv_at hl 3 rfl) ?_
    refine lv_aload_n hx hb dL_law_306 rfl (lv_at hl 5 rfl) ?_
    refine lv_iload hx hb dL_law_307 (lv_at hl 1 rfl) ?_
    refine lv_iconst (v := 1) hx hb dL_law_309 (by decide) ?_
    refine lv_iadd hx hb dL_law_310 ?_
    refine va_sld hx hb hX hbl hbA hS hv1 dL_law_311 ?_
    refine wr_VI (q := (RX2, TX2, 5)) (ci := 2) (q0 := 10) (ws0' := cC h a cy (undoR R n (xs (nI i + 1).toNatClampNeg)) nd (undoN R n (xs (nI i + 1).toNatClampNeg)) dr fl ++ [(o, .inl (ly, 1, .inr (.inl (vp_updL g 0 (undoC R n (xs (nI i + 1).toNatClampNeg)).toInt64))))] ++ cW q bq cy (undoMR M n (xs (nI i + 1).toNatClampNeg)) (undoMN M n (xs (nI i + 1).toNatClampNeg)) dr an fi ba mo 0 nd fl q2 b2 M2 n2 dr2 an2 fi2 ba2) (As := [.int (xs (nI i + 1).toNatClampNeg)]) (rest := []) ⟨hx, hb, hml, hown, hts⟩ (fun sz => mX2_drop_ok l D cy q bq M n dr an fi ba mo th nd fl q2 (xs (nI i + 1).toNatClampNeg) (by omega) (by omega) (by omega) ((open_T hI hAg _).trans h0) hok sz) (cwV 1 hts gL_law_X2_drop rfl rfl rfl (by decide +kernel) ⟨Nat.le_of_ble_eq_true rfl, Nat.le_of_ble_eq_true rfl⟩) hP hK hD hS hA [13, 14, 15, 16, 17, 18, 19, 20, 21, 22, 23] [0, 1, 2, 3, 4, 5, 6, 7, 8, 9, 10, 11, 12, 24, 25, 26, 27, 28, 29, 30, 31, 32, 33] [0, 1, 2, 3, 4, 5, 6, 7, 8, 9, 10, 11, 12, 23, 24, 25, 26, 27, 28, 29, 30, 31, 32, 33, 13, 14, 15, 16, 17, 18, 19, 20, 21, 22] rfl rfl rfl (by decide) rfl rfl rfl rfl rfl rfl rfl hl.1 rfl (Nat.le_of_ble_eq_true rfl) dL_law_312 (rm_c (by omega)) (rm_s (by omega)) (fun H locs hP hD hS => ?_)
    rw [eN] at hP hD
    refine lv_istore (lv' := [(6, .int (undoMC M n (xs (nI i + 1).toNatClampNeg))), (5, .int 0), (4, .int (nI i)), (3, .ref o), (2, .ref mo), (1, .ref h), (0, .ref b)]) hx hb dL_law_315 hl (by decide) rfl (fun ls hl => ?_)
    refine lv_aload_n hx hb dL_law_317 rfl (lv_at hl 4 rfl) ?_
    have hC1 := hI1.1.1
    have hC2 := hI1.1.2.1
    have hC3 := hI1.2.2.1
    refine rd_V (q := (RX2, TX2, 5)) (ci := 2) (q0 := 10) (As := []) (rest := []) ⟨hx, hb, hml, hown, hts⟩ (mX2_thrown l D cy q bq (undoMR M n (xs (nI i + 1).toNatClampNeg)) (undoN R n (xs (nI i + 1).toNatClampNeg)) dr an fi ba mo 0 nd fl q2 (by omega) (by omega) (by omega)) (cwV 0 hts gL_law_X2_thrown rfl rfl rfl (by decide +kernel) ⟨Nat.le_of_ble_eq_true rfl, Nat.le_of_ble_eq_true rfl⟩) (hP.sub (ws' := cSM q bq cy (undoMR M n (xs (nI i + 1).toNatClampNeg)) (undoN R n (xs (nI i + 1).toNatClampNeg)) dr an fi ba mo 0 nd fl q q2) [13, 14, 15, 16, 17, 18, 19, 20, 21, 22, 23] rfl) hK rfl rfl rfl hl.1 rfl (Nat.le_of_ble_eq_true rfl) dL_law_318 (rm_c (by omega)) (rm_s (by omega)) ?_
    refine lv_iload hx hb dL_law_321 (lv_at hl 1 rfl) ?_
    refine lv_icmp_eq (tgt := 328) hx hb dL_law_323 (by decide) (fun _ => ?_) (fun cq => absurd rfl cq)
    refine lv_iload hx hb dL_law_328 (lv_at hl 1 rfl) ?_
    refine lv_if_ne (tgt := 345) hx hb dL_law_330 (by decide) (fun cq => absurd rfl cq) (fun _ => ?_)
    refine lv_aload_n hx hb dL_law_333 rfl (lv_at hl 3 rfl) ?_
    refine lv_iconst (v := 0) hx hb dL_law_334 (by decide) ?_
    refine va_lald hx hb hKL.1 hP 12 1 rfl rfl (vp_in_nI (n := 0) (by omega) (by omega)) dL_law_335 ?_
    refine lv_iload hx hb dL_law_336 (lv_at hl 0 rfl) ?_
    refine lv_i2l (v := (undoMC M n (xs (nI i + 1).toNatClampNeg)).toInt64) hx hb dL_law_338 rfl ?_
    refine W.lcmp hx hb dL_law_339 ?_
    refine lv_if_eq (tgt := 345) hx hb dL_law_340 (by decide) (fun _ => ?_) (fun cq => absurd (cmp_out eC.symm) cq)
    refine lv_goto (tgt := 857) hx hb dL_law_345 (by decide) ?_
    exact hk (undoR R n (xs (nI i + 1).toNatClampNeg)) (undoMR M n (xs (nI i + 1).toNatClampNeg)) M2 nd (undoN R n (xs (nI i + 1).toNatClampNeg)) dr n2 dr2 fl an fi ba 0 an2 fi2 ba2 (vp_updL g 0 (undoC R n (xs (nI i + 1).toNatClampNeg)).toInt64) H _ d0 ls _ _ ⟨hI1, hA1, hP, hD, hS⟩ hd0 (by omega) (by omega) (lv_sub hl [2, 3, 4, 5, 6] rfl)
  · refine lv_aload_n hx hb dL_law_292 rfl (lv_at hl 3 rfl) ?_
    refine lv_aload_n hx hb dL_law_293 rfl (lv_at hl 4 rfl) ?_
    refine lv_iload hx hb dL_law_294 (lv_at hl 0 rfl) ?_
    refine lv_iconst (v := 1) hx hb dL_law_296 (by decide) ?_
    refine lv_iadd hx hb dL_law_297 ?_
    refine va_sld hx hb hX hbl hbA hS hv1 dL_law_298 ?_
    refine lv_aload_n hx hb dL_law_299 rfl (lv_at hl 1 rfl) ?_
    refine lh_S (ws0' := cC h a cy R nd n dr fl ++ [(o, .inl (ly, 1, .inr (.inl g)))] ++ cW q bq cy M n dr an fi ba mo th nd fl q2 b2 M2 n2 dr2 an2 fi2 ba2) (As := [.ref h, .int (xs (nI i + 1).toNatClampNeg), .ref o]) (rest := []) ⟨hx, hb, hml, hown, hts⟩ (fun sz => mL_drop_t1 l hfl D cy ly h a R nd n dr fl o g (xs (nI i + 1).toNatClampNeg) (by omega) (by omega) (by omega) h0 sz) (vx_cwSW 3 hts gL_law_L_drop rfl rfl rfl (by decide +kernel) ⟨Nat.le_of_ble_eq_true rfl, Nat.le_of_ble_eq_true rfl⟩) hP hKL hD hS hA hXp hNc [0, 1, 2, 3, 4, 5, 6, 7, 8, 9, 10, 11, 12] [13, 14, 15, 16, 17, 18, 19, 20, 21, 22, 23, 24, 25, 26, 27, 28, 29, 30, 31, 32, 33] [21, 22, 23, 24, 25, 26, 27, 28, 29, 30, 31, 32, 33, 0, 1, 2, 3, 4, 5, 6, 7, 8, 9, 10, 11, 12, 13, 14, 15, 16, 17, 18, 19, 20] rfl rfl rfl (by decide) rfl rfl rfl rfl rfl hl.1 rfl (Nat.le_of_ble_eq_true rfl) dL_law_300 (rm_c (by omega)) (rm_s (by omega)) (fun H locs hP hD hS => ?_)
    refine lv_istore (lv' := [(5, .int 1), (4, .int (nI i)), (3, .ref o), (2, .ref mo), (1, .ref h), (0, .ref b)]) hx hb dL_law_303 hl (by decide) rfl (fun ls hl => ?_)
    refine lv_aload_n hx hb dL_law_305 rfl (lv_at hl 3 rfl) ?_
    refine lv_aload_n hx hb dL_law_306 rfl (lv_at hl 5 rfl) ?_
    refine lv_iload hx hb dL_law_307 (lv_at hl 1 rfl) ?_
    refine lv_iconst (v := 1) hx hb dL_law_309 (by decide) ?_
    refine lv_iadd hx hb dL_law_310 ?_
    refine va_sld hx hb hX hbl hbA hS hv1 dL_law_311 ?_
    refine wr_VI (q := (RX2, TX2, 5)) (ci := 2) (q0 := 10) (ws0' := cC h a cy R nd n dr fl ++ [(o, .inl (ly, 1, .inr (.inl g)))] ++ cW q bq cy M n dr an fi ba mo 1 nd fl q2 b2 M2 n2 dr2 an2 fi2 ba2) (As := [.int (xs (nI i + 1).toNatClampNeg)]) (rest := []) ⟨hx, hb, hml, hown, hts⟩ (fun sz => mX2_drop_no l D cy q bq M n dr an fi ba mo th nd fl q2 (xs (nI i + 1).toNatClampNeg) (by omega) (by omega) (by omega) 1 ((open_T hI hAg _).trans h0) (by decide) sz) (cwV 1 hts gL_law_X2_drop rfl rfl rfl (by decide +kernel) ⟨Nat.le_of_ble_eq_true rfl, Nat.le_of_ble_eq_true rfl⟩) hP hK hD hS hA [13, 14, 15, 16, 17, 18, 19, 20, 21, 22, 23] [0, 1, 2, 3, 4, 5, 6, 7, 8, 9, 10, 11, 12, 24, 25, 26, 27, 28, 29, 30, 31, 32, 33] [0, 1, 2, 3, 4, 5, 6, 7, 8, 9, 10, 11, 12, 23, 24, 25, 26, 27, 28, 29, 30, 31, 32, 33, 13, 14, 15, 16, 17, 18, 19, 20, 21, 22] rfl rfl rfl (by decide) rfl rfl rfl rfl rfl rfl rfl hl.1 rfl (Nat.le_of_ble_eq_true rfl) dL_law_312 (rm_c (by omega)) (rm_s (by omega)) (fun H locs hP hD hS => ?_)
    refine lv_istore (lv' := [(6, .int 0), (5, .int 1), (4, .int (nI i)), (3, .ref o), (2, .ref mo), (1, .ref h), (0, .ref b)]) hx hb dL_law_315 hl (by decide) rfl (fun ls hl => ?_)
    refine lv_aload_n hx hb dL_law_317 rfl (lv_at hl 4 rfl) ?_
    refine rd_V (q := (RX2, TX2, 5)) (ci := 2) (q0 := 10) (As := []) (rest := []) ⟨hx, hb, hml, hown, hts⟩ (mX2_thrown l D cy q bq M n dr an fi ba mo 1 nd fl q2 (by omega) (by omega) (by omega)) (cwV 0 hts gL_law_X2_thrown rfl rfl rfl (by decide +kernel) ⟨Nat.le_of_ble_eq_true rfl, Nat.le_of_ble_eq_true rfl⟩) (hP.sub (ws' := cSM q bq cy M n dr an fi ba mo 1 nd fl q q2) [13, 14, 15, 16, 17, 18, 19, 20, 21, 22, 23] rfl) hK rfl rfl rfl hl.1 rfl (Nat.le_of_ble_eq_true rfl) dL_law_318 (rm_c (by omega)) (rm_s (by omega)) ?_
    refine lv_iload hx hb dL_law_321 (lv_at hl 1 rfl) ?_
    refine lv_icmp_eq (tgt := 328) hx hb dL_law_323 (by decide) (fun _ => ?_) (fun cq => absurd rfl cq)
    refine lv_iload hx hb dL_law_328 (lv_at hl 1 rfl) ?_
    refine lv_if_ne (tgt := 345) hx hb dL_law_330 (by decide) (fun _ => ?_) (fun cq => absurd cq (by decide))
    refine lv_goto (tgt := 857) hx hb dL_law_345 (by decide) ?_
    exact hk R M M2 nd n dr n2 dr2 fl an fi ba 1 an2 fi2 ba2 g H _ d0 ls _ _ ⟨hI, hAg, hP, hD, hS⟩ hd0 (by omega) (by omega) (lv_sub hl [2, 3, 4, 5, 6] rfl)
  · refine lv_aload_n hx hb dL_law_292 rfl (lv_at hl 3 rfl) ?_
    refine lv_aload_n hx hb dL_law_293 rfl (lv_at hl 4 rfl) ?_
    refine lv_iload hx hb dL_law_294 (lv_at hl 0 rfl) ?_
    refine lv_iconst (v := 1) hx hb dL_law_296 (by decide) ?_
    refine lv_iadd hx hb dL_law_297 ?_
    refine va_sld hx hb hX hbl hbA hS hv1 dL_law_298 ?_
    refine lv_aload_n hx hb dL_law_299 rfl (lv_at hl 1 rfl) ?_
    refine lh_S (ws0' := cC h a cy R nd n dr fl ++ [(o, .inl (ly, 1, .inr (.inl g)))] ++ cW q bq cy M n dr an fi ba mo th nd fl q2 b2 M2 n2 dr2 an2 fi2 ba2) (As := [.ref h, .int (xs (nI i + 1).toNatClampNeg), .ref o]) (rest := []) ⟨hx, hb, hml, hown, hts⟩ (fun sz => mL_drop_t2 l hfl D cy ly h a R nd n dr fl o g (xs (nI i + 1).toNatClampNeg) (by omega) (by omega) (by omega) h0 sz) (vx_cwSW 3 hts gL_law_L_drop rfl rfl rfl (by decide +kernel) ⟨Nat.le_of_ble_eq_true rfl, Nat.le_of_ble_eq_true rfl⟩) hP hKL hD hS hA hXp hNc [0, 1, 2, 3, 4, 5, 6, 7, 8, 9, 10, 11, 12] [13, 14, 15, 16, 17, 18, 19, 20, 21, 22, 23, 24, 25, 26, 27, 28, 29, 30, 31, 32, 33] [21, 22, 23, 24, 25, 26, 27, 28, 29, 30, 31, 32, 33, 0, 1, 2, 3, 4, 5, 6, 7, 8, 9, 10, 11, 12, 13, 14, 15, 16, 17, 18, 19, 20] rfl rfl rfl (by decide) rfl rfl rfl rfl rfl hl.1 rfl (Nat.le_of_ble_eq_true rfl) dL_law_300 (rm_c (by omega)) (rm_s (by omega)) (fun H locs hP hD hS => ?_)
    refine lv_istore (lv' := [(5, .int 2), (4, .int (nI i)), (3, .ref o), (2, .ref mo), (1, .ref h), (0, .ref b)]) hx hb dL_law_303 hl (by decide) rfl (fun ls hl => ?_)
    refine lv_aload_n hx hb dL_law_305 rfl (lv_at hl 3 rfl) ?_
    refine lv_aload_n hx hb dL_law_306 rfl (lv_at hl 5 rfl) ?_
    refine lv_iload hx hb dL_law_307 (lv_at hl 1 rfl) ?_
    refine lv_iconst (v := 1) hx hb dL_law_309 (by decide) ?_
    refine lv_iadd hx hb dL_law_310 ?_
    refine va_sld hx hb hX hbl hbA hS hv1 dL_law_311 ?_
    refine wr_VI (q := (RX2, TX2, 5)) (ci := 2) (q0 := 10) (ws0' := cC h a cy R nd n dr fl ++ [(o, .inl (ly, 1, .inr (.inl g)))] ++ cW q bq cy M n dr an fi ba mo 2 nd fl q2 b2 M2 n2 dr2 an2 fi2 ba2) (As := [.int (xs (nI i + 1).toNatClampNeg)]) (rest := []) ⟨hx, hb, hml, hown, hts⟩ (fun sz => mX2_drop_no l D cy q bq M n dr an fi ba mo th nd fl q2 (xs (nI i + 1).toNatClampNeg) (by omega) (by omega) (by omega) 2 ((open_T hI hAg _).trans h0) (by decide) sz) (cwV 1 hts gL_law_X2_drop rfl rfl rfl (by decide +kernel) ⟨Nat.le_of_ble_eq_true rfl, Nat.le_of_ble_eq_true rfl⟩) hP hK hD hS hA [13, 14, 15, 16, 17, 18, 19, 20, 21, 22, 23] [0, 1, 2, 3, 4, 5, 6, 7, 8, 9, 10, 11, 12, 24, 25, 26, 27, 28, 29, 30, 31, 32, 33] [0, 1, 2, 3, 4, 5, 6, 7, 8, 9, 10, 11, 12, 23, 24, 25, 26, 27, 28, 29, 30, 31, 32, 33, 13, 14, 15, 16, 17, 18, 19, 20, 21, 22] rfl rfl rfl (by decide) rfl rfl rfl rfl rfl rfl rfl hl.1 rfl (Nat.le_of_ble_eq_true rfl) dL_law_312 (rm_c (by omega)) (rm_s (by omega)) (fun H locs hP hD hS => ?_)
    refine lv_istore (lv' := [(6, .int 0), (5, .int 2), (4, .int (nI i)), (3, .ref o), (2, .ref mo), (1, .ref h), (0, .ref b)]) hx hb dL_law_315 hl (by decide) rfl (fun ls hl => ?_)
    refine lv_aload_n hx hb dL_law_317 rfl (lv_at hl 4 rfl) ?_
    refine rd_V (q := (RX2, TX2, 5)) (ci := 2) (q0 := 10) (As := []) (rest := []) ⟨hx, hb, hml, hown, hts⟩ (mX2_thrown l D cy q bq M n dr an fi ba mo 2 nd fl q2 (by omega) (by omega) (by omega)) (cwV 0 hts gL_law_X2_thrown rfl rfl rfl (by decide +kernel) ⟨Nat.le_of_ble_eq_true rfl, Nat.le_of_ble_eq_true rfl⟩) (hP.sub (ws' := cSM q bq cy M n dr an fi ba mo 2 nd fl q q2) [13, 14, 15, 16, 17, 18, 19, 20, 21, 22, 23] rfl) hK rfl rfl rfl hl.1 rfl (Nat.le_of_ble_eq_true rfl) dL_law_318 (rm_c (by omega)) (rm_s (by omega)) ?_
    refine lv_iload hx hb dL_law_321 (lv_at hl 1 rfl) ?_
    refine lv_icmp_eq (tgt := 328) hx hb dL_law_323 (by decide) (fun _ => ?_) (fun cq => absurd rfl cq)
    refine lv_iload hx hb dL_law_328 (lv_at hl 1 rfl) ?_
    refine lv_if_ne (tgt := 345) hx hb dL_law_330 (by decide) (fun _ => ?_) (fun cq => absurd cq (by decide))
    refine lv_goto (tgt := 857) hx hb dL_law_345 (by decide) ?_
    exact hk R M M2 nd n dr n2 dr2 fl an fi ba 2 an2 fi2 ba2 g H _ d0 ls _ _ ⟨hI, hAg, hP, hD, hS⟩ hd0 (by omega) (by omega) (lv_sub hl [2, 3, 4, 5, 6] rfl)
end LWD
