section LWD
set_option maxHeartbeats 4000000 in
set_option maxRecDepth 100000 in
theorem lc_shelve {p : Program} {l : Launch} {e : Env} {s : State} {m : MethodId} {below : List Frame} {meth : Method} {c : Code} {b L : Nat} {xs : Nat → Int32} {D : va_G} {cy ly : ClassId} {h : Nat} {a : Nat → Nat} {o q : Nat} {bq : Nat → Nat} {mo q2 : Nat} {b2 : Nat → Nat} (hc : LCtx p l s m meth c b L xs D cy ly) {i cells slots : Nat} (hcs : cells ≤ 520000) (hss : slots ≤ 3700000) (hv1 : vp_in (nI i + 1) L) (hv2 : vp_in (nI i + 2) L) (hv3 : vp_in (nI i + 3) L) (hk : lwK p l e s m below meth c b D cy ly h a o q bq mo q2 b2 i cells slots) {R M M2 : Nat → Nat → Int32} {nd n dr n2 dr2 : Nat} {fl an fi ba th an2 fi2 ba2 : Int32} {g : Nat → Int64} {H : Heap} {d0 : Drawn} {ls : Array Slot} (hst : LSt s D cy ly h a o q bq mo q2 b2 R M M2 nd n dr n2 dr2 fl an fi ba th an2 fi2 ba2 g H []) (hd0 : s.drawn.sameBut d0 lw_cs) (hl : lv_has ls 9 [(4, .int (nI i)), (3, .ref o), (2, .ref mo), (1, .ref h), (0, .ref b)]) : W p l e room_1 (s.setDrawn d0) m #[Value.ref b] below meth c H [] cells slots (lw_Z below #[Value.ref b] s) (F0 m 348 ls []) := by
  obtain ⟨hfl, C0, hKL, hXp, hNc⟩ := hc
  obtain ⟨hx, hb, hr, hml, hown, hts0, hX, hbl, hlocks, hgv⟩ := id C0
  have hts := dr_words (s := s) (fun w h9 => hts0 w (wsL_law_in w h9)) d0
  have hown : (s.setDrawn d0).vm.findClass RL = some m.cls := hown
  have hA : ∀ q9 : Nat, s.heap.size ≤ q9 → lwA s q9 := fun _ h9 => h9
  have hbA : ¬ lwA s b := Nat.not_le.mpr hbl
  obtain ⟨hI, hAg, hP, hD, hS⟩ := hst
  have hX := va_X.moved (u := s) (U := s.setDrawn d0) (Vm.Alike.refl s.vm) hX
  have hKL0 := hKL
  have hKL := hKL.dr d0
  have hK := hKL.kk
  have hXp := hXp.dr d0
  have hNc := hNc.dr d0
  have hB1 : n ≤ 120 := hI.1.1
  have hB2 : nd ≤ 20 := hI.1.2.1
  have hB3 : dr ≤ n := hI.2.2.1
  rcases pot_c (xs (nI i + 1).toNatClampNeg) with h0 | h0
  · obtain ⟨eL, hI1, hA1⟩ := shelve_ok hI hAg h0
    refine lv_aload_n hx hb dL_law_348 rfl (lv_at hl 3 rfl) ?_
    refine lv_aload_n hx hb dL_law_349 rfl (lv_at hl 4 rfl) ?_
    refine lv_iload hx hb dL_law_350 (lv_at hl 0 rfl) ?_
    refine lv_iconst (v := 1) hx hb dL_law_352 (by decide) ?_
    refine lv_iadd hx hb dL_law_353 ?_
    refine va_sld hx hb hX hbl hbA hS hv1 dL_law_354 ?_
    refine lv_aload_n hx hb dL_law_355 rfl (lv_at hl 1 rfl) ?_
    refine lh_S (ws0' := cC h a cy (stepR (stepR R 1 8 (xs (nI i + 1).toNatClampNeg) (atS 8 (R 0) (xs (nI i + 1).toNatClampNeg))) 2 8 (xs (nI i + 1).toNatClampNeg) (lastS (R 6) (xs (nI i + 1).toNatClampNeg) n)) nd n (dryN dr (lastN1 (R 6) (xs (nI i + 1).toNatClampNeg) n)) fl ++ [(o, .inl (ly, 1, .inr (.inl (vp_updL g 0 (nI (dryN dr (lastN1 (R 6) (xs (nI i + 1).toNatClampNeg) n)) - nI dr).toInt64))))] ++ cW q bq cy M n dr an fi ba mo th nd fl q2 b2 M2 n2 dr2 an2 fi2 ba2) (As := [.ref h, .int (xs (nI i + 1).toNatClampNeg), .ref o]) (rest := []) ⟨hx, hb, hml, hown, hts⟩ (fun sz => mL_shelve_ok l D cy ly h a R nd n dr fl o g (xs (nI i + 1).toNatClampNeg) (by omega) (by omega) (by omega) h0  sz) (vx_cwSW 3 hts gL_law_L_shelve rfl rfl rfl (by decide +kernel) ⟨Nat.le_of_ble_eq_true rfl, Nat.le_of_ble_eq_true rfl⟩) hP hKL hD hS hA hXp hNc [0, 1, 2, 3, 4, 5, 6, 7, 8, 9, 10, 11, 12] [13, 14, 15, 16, 17, 18, 19, 20, 21, 22, 23, 24, 25, 26, 27, 28, 29, 30, 31, 32, 33] [21, 22, 23, 24, 25, 26, 27, 28, 29, 30, 31, 32, 33, 0, 1, 2, 3, 4, 5, 6, 7, 8, 9, 10, 11, 12, 13, 14, 15, 16, 17, 18, 19, 20] rfl rfl rfl (by decide) rfl rfl rfl rfl rfl hl.1 rfl (Nat.le_of_ble_eq_true rfl) dL_law_356 (rm_c (by omega)) (rm_s (by omega)) (fun H locs hP hD hS => ?_)
    refine lv_istore (lv' := [(5, .int 0), (4, .int (nI i)), (3, .ref o), (2, .ref mo), (1, .ref h), (0, .ref b)]) hx hb dL_law_359 hl (by decide) rfl (fun ls hl => ?_)
    refine lv_aload_n hx hb dL_law_361 rfl (lv_at hl 3 rfl) ?_
    refine lv_aload_n hx hb dL_law_362 rfl (lv_at hl 5 rfl) ?_
    refine lv_iload hx hb dL_law_363 (lv_at hl 1 rfl) ?_
    refine lv_iconst (v := 1) hx hb dL_law_365 (by decide) ?_
    refine lv_iadd hx hb dL_law_366 ?_
    refine va_sld hx hb hX hbl hbA hS hv1 dL_law_367 ?_
    refine wr_VI (q := (RX2, TX2, 5)) (ci := 2) (q0 := 10) (ws0' := cC h a cy (stepR (stepR R 1 8 (xs (nI i + 1).toNatClampNeg) (atS 8 (R 0) (xs (nI i + 1).toNatClampNeg))) 2 8 (xs (nI i + 1).toNatClampNeg) (lastS (R 6) (xs (nI i + 1).toNatClampNeg) n)) nd n (dryN dr (lastN1 (R 6) (xs (nI i + 1).toNatClampNeg) n)) fl ++ [(o, .inl (ly, 1, .inr (.inl (vp_updL g 0 (nI (dryN dr (lastN1 (R 6) (xs (nI i + 1).toNatClampNeg) n)) - nI dr).toInt64))))] ++ cW q bq cy (setM (setM M 1 (xs (nI i + 1).toNatClampNeg).toNatClampNeg (M 0 (xs (nI i + 1).toNatClampNeg).toNatClampNeg)) 2 (xs (nI i + 1).toNatClampNeg).toNatClampNeg (latestM M (xs (nI i + 1).toNatClampNeg) n)) n (dryN dr (latN M (xs (nI i + 1).toNatClampNeg) n)) an fi ba mo 0 nd fl q2 b2 M2 n2 dr2 an2 fi2 ba2) (As := [.int (xs (nI i + 1).toNatClampNeg)]) (rest := []) ⟨hx, hb, hml, hown, hts⟩ (fun sz => mX2_shelve_ok l D cy q bq M n dr an fi ba mo th nd fl q2 (xs (nI i + 1).toNatClampNeg) (by omega) (by omega) (by omega) ((potT_X _).trans h0) sz) (cwV 1 hts gL_law_X2_shelve rfl rfl rfl (by decide +kernel) ⟨Nat.le_of_ble_eq_true rfl, Nat.le_of_ble_eq_true rfl⟩) hP hK hD hS hA [13, 14, 15, 16, 17, 18, 19, 20, 21, 22, 23] [0, 1, 2, 3, 4, 5, 6, 7, 8, 9, 10, 11, 12, 24, 25, 26, 27, 28, 29, 30, 31, 32, 33] [0, 1, 2, 3, 4, 5, 6, 7, 8, 9, 10, 11, 12, 23, 24, 25, 26, 27, 28, 29, 30, 31, 32, 33, 13, 14, 15, 16, 17, 18, 19, 20, 21, 22] rfl rfl rfl (by decide) rfl rfl rfl rfl rfl rfl rfl hl.1 rfl (Nat.le_of_ble_eq_true rfl) dL_law_368 (rm_c (by omega)) (rm_s (by omega)) (fun H locs hP hD hS => ?_)
    rw [eL] at hP hD
    refine lv_istore (lv' := [(6, .int (nI (dryN dr (latN M (xs (nI i + 1).toNatClampNeg) n)) - nI dr)), (5, .int 0), (4, .int (nI i)), (3, .ref o), (2, .ref mo), (1, .ref h), (0, .ref b)]) hx hb dL_law_371 hl (by decide) rfl (fun ls hl => ?_)
    refine lv_aload_n hx hb dL_law_373 rfl (lv_at hl 4 rfl) ?_
    have hC1 := hI1.1.1
    have hC2 := hI1.1.2.1
    have hC3 := hI1.2.2.1
    refine rd_V (q := (RX2, TX2, 5)) (ci := 2) (q0 := 10) (As := []) (rest := []) ⟨hx, hb, hml, hown, hts⟩ (mX2_thrown l D cy q bq (setM (setM M 1 (xs (nI i + 1).toNatClampNeg).toNatClampNeg (M 0 (xs (nI i + 1).toNatClampNeg).toNatClampNeg)) 2 (xs (nI i + 1).toNatClampNeg).toNatClampNeg (latestM M (xs (nI i + 1).toNatClampNeg) n)) n (dryN dr (lastN1 (R 6) (xs (nI i + 1).toNatClampNeg) n)) an fi ba mo 0 nd fl q2 (by omega) (by omega) (by omega)) (cwV 0 hts gL_law_X2_thrown rfl rfl rfl (by decide +kernel) ⟨Nat.le_of_ble_eq_true rfl, Nat.le_of_ble_eq_true rfl⟩) (hP.sub (ws' := cSM q bq cy (setM (setM M 1 (xs (nI i + 1).toNatClampNeg).toNatClampNeg (M 0 (xs (nI i + 1).toNatClampNeg).toNatClampNeg)) 2 (xs (nI i + 1).toNatClampNeg).toNatClampNeg (latestM M (xs (nI i + 1).toNatClampNeg) n)) n (dryN dr (lastN1 (R 6) (xs (nI i + 1).toNatClampNeg) n)) an fi ba mo 0 nd fl q q2) [13, 14, 15, 16, 17, 18, 19, 20, 21, 22, 23] rfl) hK rfl rfl rfl hl.1 rfl (Nat.le_of_ble_eq_true rfl) dL_law_374 (rm_c (by omega)) (rm_s (by omega)) ?_
    refine lv_iload hx hb dL_law_377 (lv_at hl 1 rfl) ?_
    refine lv_icmp_eq (tgt := 384) hx hb dL_law_379 (by decide) (fun _ => ?_) (fun cq => absurd rfl cq)
    refine lv_iload hx hb dL_law_384 (lv_at hl 1 rfl) ?_
    refine lv_if_ne (tgt := 401) hx hb dL_law_386 (by decide) (fun cq => absurd rfl cq) (fun _ => ?_)
    refine lv_aload_n hx hb dL_law_389 rfl (lv_at hl 3 rfl) ?_
    refine lv_iconst (v := 0) hx hb dL_law_390 (by decide) ?_
    refine va_lald hx hb hKL.1 hP 12 1 rfl rfl (vp_in_nI (n := 0) (by omega) (by omega)) dL_law_391 ?_
    refine lv_iload hx hb dL_law_392 (lv_at hl 0 rfl) ?_
    refine lv_i2l (v := (nI (dryN dr (latN M (xs (nI i + 1).toNatClampNeg) n)) - nI dr).toInt64) hx hb dL_law_394 rfl ?_
    refine W.lcmp hx hb dL_law_395 ?_
    refine lv_if_eq (tgt := 401) hx hb dL_law_396 (by decide) (fun _ => ?_) (fun cq => absurd (cmp_out (by rw [eL])) cq)
    refine lv_goto (tgt := 857) hx hb dL_law_401 (by decide) ?_
    exact hk (stepR (stepR R 1 8 (xs (nI i + 1).toNatClampNeg) (atS 8 (R 0) (xs (nI i + 1).toNatClampNeg))) 2 8 (xs (nI i + 1).toNatClampNeg) (lastS (R 6) (xs (nI i + 1).toNatClampNeg) n)) (setM (setM M 1 (xs (nI i + 1).toNatClampNeg).toNatClampNeg (M 0 (xs (nI i + 1).toNatClampNeg).toNatClampNeg)) 2 (xs (nI i + 1).toNatClampNeg).toNatClampNeg (latestM M (xs (nI i + 1).toNatClampNeg) n)) M2 nd n (dryN dr (lastN1 (R 6) (xs (nI i + 1).toNatClampNeg) n)) n2 dr2 fl an fi ba 0 an2 fi2 ba2 (vp_updL g 0 (nI (dryN dr (lastN1 (R 6) (xs (nI i + 1).toNatClampNeg) n)) - nI dr).toInt64) H _ d0 ls _ _ ⟨hI1, hA1, hP, hD, hS⟩ hd0 (by omega) (by omega) (lv_sub hl [2, 3, 4, 5, 6] rfl)
  · refine lv_aload_n hx hb dL_law_348 rfl (lv_at hl 3 rfl) ?_
    refine lv_aload_n hx hb dL_law_349 rfl (lv_at hl 4 rfl) ?_
    refine lv_iload hx hb dL_law_350 (lv_at hl 0 rfl) ?_
    refine lv_iconst (v := 1) hx hb dL_law_352 (by decide) ?_
    refine lv_iadd hx hb dL_law_353 ?_
    refine va_sld hx hb hX hbl hbA hS hv1 dL_law_354 ?_
    refine lv_aload_n hx hb dL_law_355 rfl (lv_at hl 1 rfl) ?_
    refine lh_S (ws0' := cC h a cy R nd n dr fl ++ [(o, .inl (ly, 1, .inr (.inl g)))] ++ cW q bq cy M n dr an fi ba mo th nd fl q2 b2 M2 n2 dr2 an2 fi2 ba2) (As := [.ref h, .int (xs (nI i + 1).toNatClampNeg), .ref o]) (rest := []) ⟨hx, hb, hml, hown, hts⟩ (fun sz => mL_shelve_t1 l hfl D cy ly h a R nd n dr fl o g (xs (nI i + 1).toNatClampNeg) (by omega) (by omega) (by omega) h0 sz) (vx_cwSW 3 hts gL_law_L_shelve rfl rfl rfl (by decide +kernel) ⟨Nat.le_of_ble_eq_true rfl, Nat.le_of_ble_eq_true rfl⟩) hP hKL hD hS hA hXp hNc [0, 1, 2, 3, 4, 5, 6, 7, 8, 9, 10, 11, 12] [13, 14, 15, 16, 17, 18, 19, 20, 21, 22, 23, 24, 25, 26, 27, 28, 29, 30, 31, 32, 33] [21, 22, 23, 24, 25, 26, 27, 28, 29, 30, 31, 32, 33, 0, 1, 2, 3, 4, 5, 6, 7, 8, 9, 10, 11, 12, 13, 14, 15, 16, 17, 18, 19, 20] rfl rfl rfl (by decide) rfl rfl rfl rfl rfl hl.1 rfl (Nat.le_of_ble_eq_true rfl) dL_law_356 (rm_c (by omega)) (rm_s (by omega)) (fun H locs hP hD hS => ?_)
    refine lv_istore (lv' := [(5, .int 1), (4, .int (nI i)), (3, .ref o), (2, .ref mo), (1, .ref h), (0, .ref b)]) hx hb dL_law_359 hl (by decide) rfl (fun ls hl => ?_)
    refine lv_aload_n hx hb dL_law_361 rfl (lv_at hl 3 rfl) ?_
    refine lv_aload_n hx hb dL_law_362 rfl (lv_at hl 5 rfl) ?_
    refine lv_iload hx hb dL_law_363 (lv_at hl 1 rfl) ?_
    refine lv_iconst (v := 1) hx hb dL_law_365 (by decide) ?_
    refine lv_iadd hx hb dL_law_366 ?_
    refine va_sld hx hb hX hbl hbA hS hv1 dL_law_367 ?_
    refine wr_VI (q := (RX2, TX2, 5)) (ci := 2) (q0 := 10) (ws0' := cC h a cy R nd n dr fl ++ [(o, .inl (ly, 1, .inr (.inl g)))] ++ cW q bq cy M n dr an fi ba mo 1 nd fl q2 b2 M2 n2 dr2 an2 fi2 ba2) (As := [.int (xs (nI i + 1).toNatClampNeg)]) (rest := []) ⟨hx, hb, hml, hown, hts⟩ (fun sz => mX2_shelve_no l D cy q bq M n dr an fi ba mo th nd fl q2 (xs (nI i + 1).toNatClampNeg) (by omega) (by omega) (by omega) 1 ((potT_X _).trans h0) (by decide) sz) (cwV 1 hts gL_law_X2_shelve rfl rfl rfl (by decide +kernel) ⟨Nat.le_of_ble_eq_true rfl, Nat.le_of_ble_eq_true rfl⟩) hP hK hD hS hA [13, 14, 15, 16, 17, 18, 19, 20, 21, 22, 23] [0, 1, 2, 3, 4, 5, 6, 7, 8, 9, 10, 11, 12, 24, 25, 26, 27, 28, 29, 30, 31, 32, 33] [0, 1, 2, 3, 4, 5, 6, 7, 8, 9, 10, 11, 12, 23, 24, 25, 26, 27, 28, 29, 30, 31, 32, 33, 13, 14, 15, 16, 17, 18, 19, 20, 21, 22] rfl rfl rfl (by decide) rfl rfl rfl rfl rfl rfl rfl hl.1 rfl (Nat.le_of_ble_eq_true rfl) dL_law_368 (rm_c (by omega)) (rm_s (by omega)) (fun H locs hP hD hS => ?_)
    refine lv_istore (lv' := [(6, .int 0), (5, .int 1), (4, .int (nI i)), (3, .ref o), (2, .ref mo), (1, .ref h), (0, .ref b)]) hx hb dL_law_371 hl (by decide) rfl (fun ls hl => ?_)
    refine lv_aload_n hx hb dL_law_373 rfl (lv_at hl 4 rfl) ?_
    refine rd_V (q := (RX2, TX2, 5)) (ci := 2) (q0 := 10) (As := []) (rest := []) ⟨hx, hb, hml, hown, hts⟩ (mX2_thrown l D cy q bq M n dr an fi ba mo 1 nd fl q2 (by omega) (by omega) (by omega)) (cwV 0 hts gL_law_X2_thrown rfl rfl rfl (by decide +kernel) ⟨Nat.le_of_ble_eq_true rfl, Nat.le_of_ble_eq_true rfl⟩) (hP.sub (ws' := cSM q bq cy M n dr an fi ba mo 1 nd fl q q2) [13, 14, 15, 16, 17, 18, 19, 20, 21, 22, 23] rfl) hK rfl rfl rfl hl.1 rfl (Nat.le_of_ble_eq_true rfl) dL_law_374 (rm_c (by omega)) (rm_s (by omega)) ?_
    refine lv_iload hx hb dL_law_377 (lv_at hl 1 rfl) ?_
    refine lv_icmp_eq (tgt := 384) hx hb dL_law_379 (by decide) (fun _ => ?_) (fun cq => absurd rfl cq)
    refine lv_iload hx hb dL_law_384 (lv_at hl 1 rfl) ?_
    refine lv_if_ne (tgt := 401) hx hb dL_law_386 (by decide) (fun _ => ?_) (fun cq => absurd cq (by decide))
    refine lv_goto (tgt := 857) hx hb dL_law_401 (by decide) ?_
    exact hk R M M2 nd n dr n2 dr2 fl an fi ba 1 an2 fi2 ba2 g H _ d0 ls _ _ ⟨hI, hAg, hP, hD, hS⟩ hd0 (by omega) (by omega) (lv_sub hl [2, 3, 4, 5, 6] rfl)

set_option maxHeartbeats 4000000 in
set_option maxRecDepth 100000 in
theorem lc_pot {p : Program} {l : Launch} {e : Env} {s : State} {m : MethodId} {below : List Frame} {meth : Method} {c : Code} {b L : Nat} {xs : Nat → Int32} {D : va_G} {cy ly : ClassId} {h : Nat} {a : Nat → Nat} {o q : Nat} {bq : Nat → Nat} {mo q2 : Nat} {b2 : Nat → Nat} (hc : LCtx p l s m meth c b L xs D cy ly) {i cells slots : Nat} (hcs : cells ≤ 520000) (hss : slots ≤ 3700000) (hv1 : vp_in (nI i + 1) L) (hv2 : vp_in (nI i + 2) L) (hv3 : vp_in (nI i + 3) L) (hk : lwK p l e s m below meth c b D cy ly h a o q bq mo q2 b2 i cells slots) {R M M2 : Nat → Nat → Int32} {nd n dr n2 dr2 : Nat} {fl an fi ba th an2 fi2 ba2 : Int32} {g : Nat → Int64} {H : Heap} {d0 : Drawn} {ls : Array Slot} (hst : LSt s D cy ly h a o q bq mo q2 b2 R M M2 nd n dr n2 dr2 fl an fi ba th an2 fi2 ba2 g H []) (hd0 : s.drawn.sameBut d0 lw_cs) (hl : lv_has ls 9 [(4, .int (nI i)), (3, .ref o), (2, .ref mo), (1, .ref h), (0, .ref b)]) : W p l e room_1 (s.setDrawn d0) m #[Value.ref b] below meth c H [] cells slots (lw_Z below #[Value.ref b] s) (F0 m 430 ls []) := by
  obtain ⟨hfl, C0, hKL, hXp, hNc⟩ := hc
  obtain ⟨hx, hb, hr, hml, hown, hts0, hX, hbl, hlocks, hgv⟩ := id C0
  have hts := dr_words (s := s) (fun w h9 => hts0 w (wsL_law_in w h9)) d0
  have hown : (s.setDrawn d0).vm.findClass RL = some m.cls := hown
  have hA : ∀ q9 : Nat, s.heap.size ≤ q9 → lwA s q9 := fun _ h9 => h9
  have hbA : ¬ lwA s b := Nat.not_le.mpr hbl
  obtain ⟨hI, hAg, hP, hD, hS⟩ := hst
  have hX := va_X.moved (u := s) (U := s.setDrawn d0) (Vm.Alike.refl s.vm) hX
  have hKL0 := hKL
  have hKL := hKL.dr d0
  have hK := hKL.kk
  have hXp := hXp.dr d0
  have hNc := hNc.dr d0
  have hB1 : n ≤ 120 := hI.1.1
  have hB2 : nd ≤ 20 := hI.1.2.1
  have hB3 : dr ≤ n := hI.2.2.1
  rcases potq_c (xs (nI i + 1).toNatClampNeg) (xs (nI i + 2).toNatClampNeg) with h0 | h0
  · have hI1 := hI
    have hA1 := hAg
    refine lv_aload_n hx hb dL_law_430 rfl (lv_at hl 3 rfl) ?_
    refine lv_aload_n hx hb dL_law_431 rfl (lv_at hl 4 rfl) ?_
    refine lv_iload hx hb dL_law_432 (lv_at hl 0 rfl) ?_
    refine lv_iconst (v := 1) hx hb dL_law_434 (by decide) ?_
    refine lv_iadd hx hb dL_law_435 ?_
    refine va_sld hx hb hX hbl hbA hS hv1 dL_law_436 ?_
    refine lv_aload_n hx hb dL_law_437 rfl (lv_at hl 4 rfl) ?_
    refine lv_iload hx hb dL_law_438 (lv_at hl 0 rfl) ?_
    refine lv_iconst (v := 2) hx hb dL_law_440 (by decide) ?_
    refine lv_iadd hx hb dL_law_441 ?_
    refine va_sld hx hb hX hbl hbA hS hv2 dL_law_442 ?_
    refine lv_aload_n hx hb dL_law_443 rfl (lv_at hl 1 rfl) ?_
    refine lh_S (ws0' := cC h a cy R nd n dr fl ++ [(o, .inl (ly, 1, .inr (.inl (vp_updL g 0 (potAnsS R n (xs (nI i + 1).toNatClampNeg) (xs (nI i + 2).toNatClampNeg)).toInt64))))] ++ cW q bq cy M n dr an fi ba mo th nd fl q2 b2 M2 n2 dr2 an2 fi2 ba2) (As := [.ref h, .int (xs (nI i + 1).toNatClampNeg), .int (xs (nI i + 2).toNatClampNeg), .ref o]) (rest := []) ⟨hx, hb, hml, hown, hts⟩ (fun sz => mL_pot_ok l D cy ly h a R nd n dr fl o g (xs (nI i + 1).toNatClampNeg) (xs (nI i + 2).toNatClampNeg) (by omega) (by omega) (by omega) h0  sz) (vx_cwSW 4 hts gL_law_L_pot rfl rfl rfl (by decide +kernel) ⟨Nat.le_of_ble_eq_true rfl, Nat.le_of_ble_eq_true rfl⟩) hP hKL hD hS hA hXp hNc [0, 1, 2, 3, 4, 5, 6, 7, 8, 9, 10, 11, 12] [13, 14, 15, 16, 17, 18, 19, 20, 21, 22, 23, 24, 25, 26, 27, 28, 29, 30, 31, 32, 33] [21, 22, 23, 24, 25, 26, 27, 28, 29, 30, 31, 32, 33, 0, 1, 2, 3, 4, 5, 6, 7, 8, 9, 10, 11, 12, 13, 14, 15, 16, 17, 18, 19, 20] rfl rfl rfl (by decide) rfl rfl rfl rfl rfl hl.1 rfl (Nat.le_of_ble_eq_true rfl) dL_law_444 (rm_c (by omega)) (rm_s (by omega)) (fun H locs hP hD hS => ?_)
    refine lv_istore (lv' := [(5, .int 0), (4, .int (nI i)), (3, .ref o), (2, .ref mo), (1, .ref h), (0, .ref b)]) hx hb dL_law_447 hl (by decide) rfl (fun ls hl => ?_)
    refine lv_aload_n hx hb dL_law_449 rfl (lv_at hl 3 rfl) ?_
    refine lv_aload_n hx hb dL_law_450 rfl (lv_at hl 5 rfl) ?_
    refine lv_iload hx hb dL_law_451 (lv_at hl 1 rfl) ?_
    refine lv_iconst (v := 1) hx hb dL_law_453 (by decide) ?_
    refine lv_iadd hx hb dL_law_454 ?_
    refine va_sld hx hb hX hbl hbA hS hv1 dL_law_455 ?_
    refine lv_aload_n hx hb dL_law_456 rfl (lv_at hl 5 rfl) ?_
    refine lv_iload hx hb dL_law_457 (lv_at hl 1 rfl) ?_
    refine lv_iconst (v := 2) hx hb dL_law_459 (by decide) ?_
    refine lv_iadd hx hb dL_law_460 ?_
    refine va_sld hx hb hX hbl hbA hS hv2 dL_law_461 ?_
    refine wn_VI (q := (RX2, TX2, 5)) (ci := 2) (q0 := 10) (ws0' := cC h a cy R nd n dr fl ++ [(o, .inl (ly, 1, .inr (.inl (vp_updL g 0 (potAnsS R n (xs (nI i + 1).toNatClampNeg) (xs (nI i + 2).toNatClampNeg)).toInt64))))] ++ cW q bq cy M n dr an fi ba mo 0 nd fl q2 b2 M2 n2 dr2 an2 fi2 ba2) (As := [.int (xs (nI i + 1).toNatClampNeg), .int (xs (nI i + 2).toNatClampNeg)]) (rest := []) ⟨hx, hb, hml, hown, hts⟩ (fun sz => mX2_pot_ok l D cy q bq M n dr an fi ba mo th nd fl q2 (xs (nI i + 1).toNatClampNeg) (xs (nI i + 2).toNatClampNeg) (by omega) (by omega) (by omega) ((potqT_X _ _).trans h0) sz) (cwV 2 hts gL_law_X2_pot rfl rfl rfl (by decide +kernel) ⟨Nat.le_of_ble_eq_true rfl, Nat.le_of_ble_eq_true rfl⟩) hP hK hD hS hA [13, 14, 15, 16, 17, 18, 19, 20, 21, 22, 23] [0, 1, 2, 3, 4, 5, 6, 7, 8, 9, 10, 11, 12, 24, 25, 26, 27, 28, 29, 30, 31, 32, 33] [0, 1, 2, 3, 4, 5, 6, 7, 8, 9, 10, 11, 12, 23, 24, 25, 26, 27, 28, 29, 30, 31, 32, 33, 13, 14, 15, 16, 17, 18, 19, 20, 21, 22] rfl rfl rfl (by decide) rfl rfl rfl rfl rfl rfl rfl hl.1 rfl (Nat.le_of_ble_eq_true rfl) dL_law_462 (rm_c (by omega)) (rm_s (by omega)) (fun H locs hP hD hS => ?_)
    refine lv_istore (lv' := [(6, .int (potTM M n nd (xs (nI i + 1).toNatClampNeg) (xs (nI i + 2).toNatClampNeg))), (5, .int 0), (4, .int (nI i)), (3, .ref o), (2, .ref mo), (1, .ref h), (0, .ref b)]) hx hb dL_law_465 hl (by decide) rfl (fun ls hl => ?_)
    refine lv_aload_n hx hb dL_law_467 rfl (lv_at hl 4 rfl) ?_
    have hC1 := hI1.1.1
    have hC2 := hI1.1.2.1
    have hC3 := hI1.2.2.1
    refine rd_V (q := (RX2, TX2, 5)) (ci := 2) (q0 := 10) (As := []) (rest := []) ⟨hx, hb, hml, hown, hts⟩ (mX2_thrown l D cy q bq M n dr an fi ba mo 0 nd fl q2 (by omega) (by omega) (by omega)) (cwV 0 hts gL_law_X2_thrown rfl rfl rfl (by decide +kernel) ⟨Nat.le_of_ble_eq_true rfl, Nat.le_of_ble_eq_true rfl⟩) (hP.sub (ws' := cSM q bq cy M n dr an fi ba mo 0 nd fl q q2) [13, 14, 15, 16, 17, 18, 19, 20, 21, 22, 23] rfl) hK rfl rfl rfl hl.1 rfl (Nat.le_of_ble_eq_true rfl) dL_law_468 (rm_c (by omega)) (rm_s (by omega)) ?_
    refine lv_iload hx hb dL_law_471 (lv_at hl 1 rfl) ?_
    refine lv_icmp_eq (tgt := 478) hx hb dL_law_473 (by decide) (fun _ => ?_) (fun cq => absurd rfl cq)
    refine lv_iload hx hb dL_law_478 (lv_at hl 1 rfl) ?_
    refine lv_if_ne (tgt := 495) hx hb dL_law_480 (by decide) (fun cq => absurd rfl cq) (fun _ => ?_)
    refine lv_aload_n hx hb dL_law_483 rfl (lv_at hl 3 rfl) ?_
    refine lv_iconst (v := 0) hx hb dL_law_484 (by decide) ?_
    refine va_lald hx hb hKL.1 hP 12 1 rfl rfl (vp_in_nI (n := 0) (by omega) (by omega)) dL_law_485 ?_
    refine lv_iload hx hb dL_law_486 (lv_at hl 0 rfl) ?_
    refine lv_i2l (v := (potTM M n nd (xs (nI i + 1).toNatClampNeg) (xs (nI i + 2).toNatClampNeg)).toInt64) hx hb dL_law_488 rfl ?_
    refine W.lcmp hx hb dL_law_489 ?_
    refine lv_if_eq (tgt := 495) hx hb dL_law_490 (by decide) (fun _ => ?_) (fun cq => absurd (cmp_out (pot_ans hI hAg h0)) cq)
    refine lv_goto (tgt := 857) hx hb dL_law_495 (by decide) ?_
    exact hk R M M2 nd n dr n2 dr2 fl an fi ba 0 an2 fi2 ba2 (vp_updL g 0 (potAnsS R n (xs (nI i + 1).toNatClampNeg) (xs (nI i + 2).toNatClampNeg)).toInt64) H _ d0 ls _ _ ⟨hI1, hA1, hP, hD, hS⟩ hd0 (by omega) (by omega) (lv_sub hl [2, 3, 4, 5, 6] rfl)
  · refine lv_aload_n hx hb dL_law_430 rfl (lv_at hl 3 rfl) ?_
    refine lv_aload_n hx hb dL_law_431 rfl (lv_at hl 4 rfl) ?_
    refine lv_iload hx hb dL_law_432 (lv_at hl 0 rfl) ?_
    refine lv_iconst (v := 1) hx hb dL_law_434 (by decide) ?_
    refine lv_iadd hx hb dL_law_435 ?_
    refine va_sld hx hb hX hbl hbA hS hv1 dL_law_436 ?_
    refine lv_aload_n hx hb dL_law_437 rfl (lv_at hl 4 rfl) ?_
    refine lv_iload hx hb dL_law_438 (lv_at hl 0 rfl) ?_
    refine lv_iconst (v := 2) hx hb dL_law_440 (by decide) ?_
    refine lv_iadd hx hb dL_law_441 ?_
    refine va_sld hx hb hX hbl hbA hS hv2 dL_law_442 ?_
    refine lv_aload_n hx hb dL_law_443 rfl (lv_at hl 1 rfl) ?_
    refine lh_S (ws0' := cC h a cy R nd n dr fl ++ [(o, .inl (ly, 1, .inr (.inl g)))] ++ cW q bq cy M n dr an fi ba mo th nd fl q2 b2 M2 n2 dr2 an2 fi2 ba2) (As := [.ref h, .int (xs (nI i + 1).toNatClampNeg), .int (xs (nI i + 2).toNatClampNeg), .ref o]) (rest := []) ⟨hx, hb, hml, hown, hts⟩ (fun sz => mL_pot_t1 l hfl D cy ly h a R nd n dr fl o g (xs (nI i + 1).toNatClampNeg) (xs (nI i + 2).toNatClampNeg) (by omega) (by omega) (by omega) h0 sz) (vx_cwSW 4 hts gL_law_L_pot rfl rfl rfl (by decide +kernel) ⟨Nat.le_of_ble_eq_true rfl, Nat.le_of_ble_eq_true rfl⟩) hP hKL hD hS hA hXp hNc [0, 1, 2, 3, 4, 5, 6, 7, 8, 9, 10, 11, 12] [13, 14, 15, 16, 17, 18, 19, 20, 21, 22, 23, 24, 25, 26, 27, 28, 29, 30, 31, 32, 33] [21, 22, 23, 24, 25, 26, 27, 28, 29, 30, 31, 32, 33, 0, 1, 2, 3, 4, 5, 6, 7, 8, 9, 10, 11, 12, 13, 14, 15, 16, 17, 18, 19, 20] rfl rfl rfl (by decide) rfl rfl rfl rfl rfl hl.1 rfl (Nat.le_of_ble_eq_true rfl) dL_law_444 (rm_c (by omega)) (rm_s (by omega)) (fun H locs hP hD hS => ?_)
    refine lv_istore (lv' := [(5, .int 1), (4, .int (nI i)), (3, .ref o), (2, .ref mo), (1, .ref h), (0, .ref b)]) hx hb dL_law_447 hl (by decide) rfl (fun ls hl => ?_)
    refine lv_aload_n hx hb dL_law_449 rfl (lv_at hl 3 rfl) ?_
    refine lv_aload_n hx hb dL_law_450 rfl (lv_at hl 5 rfl) ?_
    refine lv_iload hx hb dL_law_451 (lv_at hl 1 rfl) ?_
    refine lv_iconst (v := 1) hx hb dL_law_453 (by decide) ?_
    refine lv_iadd hx hb dL_law_454 ?_
    refine va_sld hx hb hX hbl hbA hS hv1 dL_law_455 ?_
    refine lv_aload_n hx hb dL_law_456 rfl (lv_at hl 5 rfl) ?_
    refine lv_iload hx hb dL_law_457 (lv_at hl 1 rfl) ?_
    refine lv_iconst (v := 2) hx hb dL_law_459 (by decide) ?_
    refine lv_iadd hx hb dL_law_460 ?_
    refine va_sld hx hb hX hbl hbA hS hv2 dL_law_461 ?_
    refine wr_VI (q := (RX2, TX2, 5)) (ci := 2) (q0 := 10) (ws0' := cC h a cy R nd n dr fl ++ [(o, .inl (ly, 1, .inr (.inl g)))] ++ cW q bq cy M n dr an fi ba mo 1 nd fl q2 b2 M2 n2 dr2 an2 fi2 ba2) (As := [.int (xs (nI i + 1).toNatClampNeg), .int (xs (nI i + 2).toNatClampNeg)]) (rest := []) ⟨hx, hb, hml, hown, hts⟩ (fun sz => mX2_pot_no l D cy q bq M n dr an fi ba mo th nd fl q2 (xs (nI i + 1).toNatClampNeg) (xs (nI i + 2).toNatClampNeg) (by omega) (by omega) (by omega) 1 ((potqT_X _ _).trans h0) (by decide) sz) (cwV 2 hts gL_law_X2_pot rfl rfl rfl (by decide +kernel) ⟨Nat.le_of_ble_eq_true rfl, Nat.le_of_ble_eq_true rfl⟩) hP hK hD hS hA [13, 14, 15, 16, 17, 18, 19, 20, 21, 22, 23] [0, 1, 2, 3, 4, 5, 6, 7, 8, 9, 10, 11, 12, 24, 25, 26, 27, 28, 29, 30, 31, 32, 33] [0, 1, 2, 3, 4, 5, 6, 7, 8, 9, 10, 11, 12, 23, 24, 25, 26, 27, 28, 29, 30, 31, 32, 33, 13, 14, 15, 16, 17, 18, 19, 20, 21, 22] rfl rfl rfl (by decide) rfl rfl rfl rfl rfl rfl rfl hl.1 rfl (Nat.le_of_ble_eq_true rfl) dL_law_462 (rm_c (by omega)) (rm_s (by omega)) (fun H locs hP hD hS => ?_)
    refine lv_istore (lv' := [(6, .int 0), (5, .int 1), (4, .int (nI i)), (3, .ref o), (2, .ref mo), (1, .ref h), (0, .ref b)]) hx hb dL_law_465 hl (by decide) rfl (fun ls hl => ?_)
    refine lv_aload_n hx hb dL_law_467 rfl (lv_at hl 4 rfl) ?_
    refine rd_V (q := (RX2, TX2, 5)) (ci := 2) (q0 := 10) (As := []) (rest := []) ⟨hx, hb, hml, hown, hts⟩ (mX2_thrown l D cy q bq M n dr an fi ba mo 1 nd fl q2 (by omega) (by omega) (by omega)) (cwV 0 hts gL_law_X2_thrown rfl rfl rfl (by decide +kernel) ⟨Nat.le_of_ble_eq_true rfl, Nat.le_of_ble_eq_true rfl⟩) (hP.sub (ws' := cSM q bq cy M n dr an fi ba mo 1 nd fl q q2) [13, 14, 15, 16, 17, 18, 19, 20, 21, 22, 23] rfl) hK rfl rfl rfl hl.1 rfl (Nat.le_of_ble_eq_true rfl) dL_law_468 (rm_c (by omega)) (rm_s (by omega)) ?_
    refine lv_iload hx hb dL_law_471 (lv_at hl 1 rfl) ?_
    refine lv_icmp_eq (tgt := 478) hx hb dL_law_473 (by decide) (fun _ => ?_) (fun cq => absurd rfl cq)
    refine lv_iload hx hb dL_law_478 (lv_at hl 1 rfl) ?_
    refine lv_if_ne (tgt := 495) hx hb dL_law_480 (by decide) (fun _ => ?_) (fun cq => absurd cq (by decide))
    refine lv_goto (tgt := 857) hx hb dL_law_495 (by decide) ?_
    exact hk R M M2 nd n dr n2 dr2 fl an fi ba 1 an2 fi2 ba2 g H _ d0 ls _ _ ⟨hI, hAg, hP, hD, hS⟩ hd0 (by omega) (by omega) (lv_sub hl [2, 3, 4, 5, 6] rfl)

set_option maxHeartbeats 4000000 in
set_option maxRecDepth 100000 in
theorem lc_dish {p : Program} {l : Launch} {e : Env} {s : State} {m : MethodId} {below : List Frame} {meth : Method} {c : Code} {b L : Nat} {xs : Nat → Int32} {D : va_G} {cy ly : ClassId} {h : Nat} {a : Nat → Nat} {o q : Nat} {bq : Nat → Nat} {mo q2 : Nat} {b2 : Nat → Nat} (hc : LCtx p l s m meth c b L xs D cy ly) {i cells slots : Nat} (hcs : cells ≤ 520000) (hss : slots ≤ 3700000) (hv1 : vp_in (nI i + 1) L) (hv2 : vp_in (nI i + 2) L) (hv3 : vp_in (nI i + 3) L) (hk : lwK p l e s m below meth c b D cy ly h a o q bq mo q2 b2 i cells slots) {R M M2 : Nat → Nat → Int32} {nd n dr n2 dr2 : Nat} {fl an fi ba th an2 fi2 ba2 : Int32} {g : Nat → Int64} {H : Heap} {d0 : Drawn} {ls : Array Slot} (hst : LSt s D cy ly h a o q bq mo q2 b2 R M M2 nd n dr n2 dr2 fl an fi ba th an2 fi2 ba2 g H []) (hd0 : s.drawn.sameBut d0 lw_cs) (hl : lv_has ls 9 [(4, .int (nI i)), (3, .ref o), (2, .ref mo), (1, .ref h), (0, .ref b)]) : W p l e room_1 (s.setDrawn d0) m #[Value.ref b] below meth c H [] cells slots (lw_Z below #[Value.ref b] s) (F0 m 498 ls []) := by
  obtain ⟨hfl, C0, hKL, hXp, hNc⟩ := hc
  obtain ⟨hx, hb, hr, hml, hown, hts0, hX, hbl, hlocks, hgv⟩ := id C0
  have hts := dr_words (s := s) (fun w h9 => hts0 w (wsL_law_in w h9)) d0
  have hown : (s.setDrawn d0).vm.findClass RL = some m.cls := hown
  have hA : ∀ q9 : Nat, s.heap.size ≤ q9 → lwA s q9 := fun _ h9 => h9
  have hbA : ¬ lwA s b := Nat.not_le.mpr hbl
  obtain ⟨hI, hAg, hP, hD, hS⟩ := hst
  have hX := va_X.moved (u := s) (U := s.setDrawn d0) (Vm.Alike.refl s.vm) hX
  have hKL0 := hKL
  have hKL := hKL.dr d0
  have hK := hKL.kk
  have hXp := hXp.dr d0
  have hNc := hNc.dr d0
  have hB1 : n ≤ 120 := hI.1.1
  have hB2 : nd ≤ 20 := hI.1.2.1
  have hB3 : dr ≤ n := hI.2.2.1
  rcases dishq_c nd (xs (nI i + 1).toNatClampNeg) (xs (nI i + 2).toNatClampNeg) with h0 | h0
  · have hI1 := hI
    have hA1 := hAg
    refine lv_aload_n hx hb dL_law_498 rfl (lv_at hl 3 rfl) ?_
    refine lv_aload_n hx hb dL_law_499 rfl (lv_at hl 4 rfl) ?_
    refine lv_iload hx hb dL_law_500 (lv_at hl 0 rfl) ?_
    refine lv_iconst (v := 1) hx hb dL_law_502 (by decide) ?_
    refine lv_iadd hx hb dL_law_503 ?_
    refine va_sld hx hb hX hbl hbA hS hv1 dL_law_504 ?_
    refine lv_aload_n hx hb dL_law_505 rfl (lv_at hl 4 rfl) ?_
    refine lv_iload hx hb dL_law_506 (lv_at hl 0 rfl) ?_
    refine lv_iconst (v := 2) hx hb dL_law_508 (by decide) ?_
    refine lv_iadd hx hb dL_law_509 ?_
    refine va_sld hx hb hX hbl hbA hS hv2 dL_law_510 ?_
    refine lv_aload_n hx hb dL_law_511 rfl (lv_at hl 1 rfl) ?_
    refine lh_S (ws0' := cC h a cy R nd n dr fl ++ [(o, .inl (ly, 1, .inr (.inl (vp_updL g 0 (dishAnsS R n (xs (nI i + 1).toNatClampNeg) (xs (nI i + 2).toNatClampNeg)).toInt64))))] ++ cW q bq cy M n dr an fi ba mo th nd fl q2 b2 M2 n2 dr2 an2 fi2 ba2) (As := [.ref h, .int (xs (nI i + 1).toNatClampNeg), .int (xs (nI i + 2).toNatClampNeg), .ref o]) (rest := []) ⟨hx, hb, hml, hown, hts⟩ (fun sz => mL_dish_ok l D cy ly h a R nd n dr fl o g (xs (nI i + 1).toNatClampNeg) (xs (nI i + 2).toNatClampNeg) (by omega) (by omega) (by omega) h0  sz) (vx_cwSW 4 hts gL_law_L_dish rfl rfl rfl (by decide +kernel) ⟨Nat.le_of_ble_eq_true rfl, Nat.le_of_ble_eq_true rfl⟩) hP hKL hD hS hA hXp hNc [0, 1, 2, 3, 4, 5, 6, 7, 8, 9, 10, 11, 12] [13, 14, 15, 16, 17, 18, 19, 20, 21, 22, 23, 24, 25, 26, 27, 28, 29, 30, 31, 32, 33] [21, 22, 23, 24, 25, 26, 27, 28, 29, 30, 31, 32, 33, 0, 1, 2, 3, 4, 5, 6, 7, 8, 9, 10, 11, 12, 13, 14, 15, 16, 17, 18, 19, 20] rfl rfl rfl (by decide) rfl rfl rfl rfl rfl hl.1 rfl (Nat.le_of_ble_eq_true rfl) dL_law_512 (rm_c (by omega)) (rm_s (by omega)) (fun H locs hP hD hS => ?_)
    refine lv_istore (lv' := [(5, .int 0), (4, .int (nI i)), (3, .ref o), (2, .ref mo), (1, .ref h), (0, .ref b)]) hx hb dL_law_515 hl (by decide) rfl (fun ls hl => ?_)
    refine lv_aload_n hx hb dL_law_517 rfl (lv_at hl 3 rfl) ?_
    refine lv_aload_n hx hb dL_law_518 rfl (lv_at hl 5 rfl) ?_
    refine lv_iload hx hb dL_law_519 (lv_at hl 1 rfl) ?_
    refine lv_iconst (v := 1) hx hb dL_law_521 (by decide) ?_
    refine lv_iadd hx hb dL_law_522 ?_
    refine va_sld hx hb hX hbl hbA hS hv1 dL_law_523 ?_
    refine lv_aload_n hx hb dL_law_524 rfl (lv_at hl 5 rfl) ?_
    refine lv_iload hx hb dL_law_525 (lv_at hl 1 rfl) ?_
    refine lv_iconst (v := 2) hx hb dL_law_527 (by decide) ?_
    refine lv_iadd hx hb dL_law_528 ?_
    refine va_sld hx hb hX hbl hbA hS hv2 dL_law_529 ?_
    refine wn_VI (q := (RX2, TX2, 5)) (ci := 2) (q0 := 10) (ws0' := cC h a cy R nd n dr fl ++ [(o, .inl (ly, 1, .inr (.inl (vp_updL g 0 (dishAnsS R n (xs (nI i + 1).toNatClampNeg) (xs (nI i + 2).toNatClampNeg)).toInt64))))] ++ cW q bq cy M n dr an fi ba mo 0 nd fl q2 b2 M2 n2 dr2 an2 fi2 ba2) (As := [.int (xs (nI i + 1).toNatClampNeg), .int (xs (nI i + 2).toNatClampNeg)]) (rest := []) ⟨hx, hb, hml, hown, hts⟩ (fun sz => mX2_dish_ok l D cy q bq M n dr an fi ba mo th nd fl q2 (xs (nI i + 1).toNatClampNeg) (xs (nI i + 2).toNatClampNeg) (by omega) (by omega) (by omega) ((dishqT_X hB2 _ _).trans h0) sz) (cwV 2 hts gL_law_X2_dish rfl rfl rfl (by decide +kernel) ⟨Nat.le_of_ble_eq_true rfl, Nat.le_of_ble_eq_true rfl⟩) hP hK hD hS hA [13, 14, 15, 16, 17, 18, 19, 20, 21, 22, 23] [0, 1, 2, 3, 4, 5, 6, 7, 8, 9, 10, 11, 12, 24, 25, 26, 27, 28, 29, 30, 31, 32, 33] [0, 1, 2, 3, 4, 5, 6, 7, 8, 9, 10, 11, 12, 23, 24, 25, 26, 27, 28, 29, 30, 31, 32, 33, 13, 14, 15, 16, 17, 18, 19, 20, 21, 22] rfl rfl rfl (by decide) rfl rfl rfl rfl rfl rfl rfl hl.1 rfl (Nat.le_of_ble_eq_true rfl) dL_law_530 (rm_c (by omega)) (rm_s (by omega)) (fun H locs hP hD hS => ?_)
    refine lv_istore (lv' := [(6, .int (dishTM M n (xs (nI i + 1).toNatClampNeg) (xs (nI i + 2).toNatClampNeg))), (5, .int 0), (4, .int (nI i)), (3, .ref o), (2, .ref mo), (1, .ref h), (0, .ref b)]) hx hb dL_law_533 hl (by decide) rfl (fun ls hl => ?_)
    refine lv_aload_n hx hb dL_law_535 rfl (lv_at hl 4 rfl) ?_
    have hC1 := hI1.1.1
    have hC2 := hI1.1.2.1
    have hC3 := hI1.2.2.1
    refine rd_V (q := (RX2, TX2, 5)) (ci := 2) (q0 := 10) (As := []) (rest := []) ⟨hx, hb, hml, hown, hts⟩ (mX2_thrown l D cy q bq M n dr an fi ba mo 0 nd fl q2 (by omega) (by omega) (by omega)) (cwV 0 hts gL_law_X2_thrown rfl rfl rfl (by decide +kernel) ⟨Nat.le_of_ble_eq_true rfl, Nat.le_of_ble_eq_true rfl⟩) (hP.sub (ws' := cSM q bq cy M n dr an fi ba mo 0 nd fl q q2) [13, 14, 15, 16, 17, 18, 19, 20, 21, 22, 23] rfl) hK rfl rfl rfl hl.1 rfl (Nat.le_of_ble_eq_true rfl) dL_law_536 (rm_c (by omega)) (rm_s (by omega)) ?_
    refine lv_iload hx hb dL_law_539 (lv_at hl 1 rfl) ?_
    refine lv_icmp_eq (tgt := 546) hx hb dL_law_541 (by decide) (fun _ => ?_) (fun cq => absurd rfl cq)
    refine lv_iload hx hb dL_law_546 (lv_at hl 1 rfl) ?_
    refine lv_if_ne (tgt := 563) hx hb dL_law_548 (by decide) (fun cq => absurd rfl cq) (fun _ => ?_)
    refine lv_aload_n hx hb dL_law_551 rfl (lv_at hl 3 rfl) ?_
    refine lv_iconst (v := 0) hx hb dL_law_552 (by decide) ?_
    refine va_lald hx hb hKL.1 hP 12 1 rfl rfl (vp_in_nI (n := 0) (by omega) (by omega)) dL_law_553 ?_
    refine lv_iload hx hb dL_law_554 (lv_at hl 0 rfl) ?_
    refine lv_i2l (v := (dishTM M n (xs (nI i + 1).toNatClampNeg) (xs (nI i + 2).toNatClampNeg)).toInt64) hx hb dL_law_556 rfl ?_
    refine W.lcmp hx hb dL_law_557 ?_
    refine lv_if_eq (tgt := 563) hx hb dL_law_558 (by decide) (fun _ => ?_) (fun cq => absurd (cmp_out (dish_ans hI hAg h0)) cq)
    refine lv_goto (tgt := 857) hx hb dL_law_563 (by decide) ?_
    exact hk R M M2 nd n dr n2 dr2 fl an fi ba 0 an2 fi2 ba2 (vp_updL g 0 (dishAnsS R n (xs (nI i + 1).toNatClampNeg) (xs (nI i + 2).toNatClampNeg)).toInt64) H _ d0 ls _ _ ⟨hI1, hA1, hP, hD, hS⟩ hd0 (by omega) (by omega) (lv_sub hl [2, 3, 4, 5, 6] rfl)
  · refine lv_aload_n hx hb dL_law_498 rfl (lv_at hl 3 rfl) ?_
    refine lv_aload_n hx hb dL_law_499 rfl (lv_at hl 4 rfl) ?_
    refine lv_iload hx hb dL_law_500 (lv_at hl 0 rfl) ?_
    refine lv_iconst (v := 1) hx hb dL_law_502 (by decide) ?_
    refine lv_iadd hx hb dL_law_503 ?_
    refine va_sld hx hb hX hbl hbA hS hv1 dL_law_504 ?_
    refine lv_aload_n hx hb dL_law_505 rfl (lv_at hl 4 rfl) ?_
    refine lv_iload hx hb dL_law_506 (lv_at hl 0 rfl) ?_
    refine lv_iconst (v := 2) hx hb dL_law_508 (by decide) ?_
    refine lv_iadd hx hb dL_law_509 ?_
    refine va_sld hx hb hX hbl hbA hS hv2 dL_law_510 ?_
    refine lv_aload_n hx hb dL_law_511 rfl (lv_at hl 1 rfl) ?_
    refine lh_S (ws0' := cC h a cy R nd n dr fl ++ [(o, .inl (ly, 1, .inr (.inl g)))] ++ cW q bq cy M n dr an fi ba mo th nd fl q2 b2 M2 n2 dr2 an2 fi2 ba2) (As := [.ref h, .int (xs (nI i + 1).toNatClampNeg), .int (xs (nI i + 2).toNatClampNeg), .ref o]) (rest := []) ⟨hx, hb, hml, hown, hts⟩ (fun sz => mL_dish_t1 l hfl D cy ly h a R nd n dr fl o g (xs (nI i + 1).toNatClampNeg) (xs (nI i + 2).toNatClampNeg) (by omega) (by omega) (by omega) h0 sz) (vx_cwSW 4 hts gL_law_L_dish rfl rfl rfl (by decide +kernel) ⟨Nat.le_of_ble_eq_true rfl, Nat.le_of_ble_eq_true rfl⟩) hP hKL hD hS hA hXp hNc [0, 1, 2, 3, 4, 5, 6, 7, 8, 9, 10, 11, 12] [13, 14, 15, 16, 17, 18, 19, 20, 21, 22, 23, 24, 25, 26, 27, 28, 29, 30, 31, 32, 33] [21, 22, 23, 24, 25, 26, 27, 28, 29, 30, 31, 32, 33, 0, 1, 2, 3, 4, 5, 6, 7, 8, 9, 10, 11, 12, 13, 14, 15, 16, 17, 18, 19, 20] rfl rfl rfl (by decide) rfl rfl rfl rfl rfl hl.1 rfl (Nat.le_of_ble_eq_true rfl) dL_law_512 (rm_c (by omega)) (rm_s (by omega)) (fun H locs hP hD hS => ?_)
    refine lv_istore (lv' := [(5, .int 1), (4, .int (nI i)), (3, .ref o), (2, .ref mo), (1, .ref h), (0, .ref b)]) hx hb dL_law_515 hl (by decide) rfl (fun ls hl => ?_)
    refine lv_aload_n hx hb dL_law_517 rfl (lv_at hl 3 rfl) ?_
    refine lv_aload_n hx hb dL_law_518 rfl (lv_at hl 5 rfl) ?_
    refine lv_iload hx hb dL_law_519 (lv_at hl 1 rfl) ?_
    refine lv_iconst (v := 1) hx hb dL_law_521 (by decide) ?_
    refine lv_iadd hx hb dL_law_522 ?_
    refine va_sld hx hb hX hbl hbA hS hv1 dL_law_523 ?_
    refine lv_aload_n hx hb dL_law_524 rfl (lv_at hl 5 rfl) ?_
    refine lv_iload hx hb dL_law_525 (lv_at hl 1 rfl) ?_
    refine lv_iconst (v := 2) hx hb dL_law_527 (by decide) ?_
    refine lv_iadd hx hb dL_law_528 ?_
    refine va_sld hx hb hX hbl hbA hS hv2 dL_law_529 ?_
    refine wr_VI (q := (RX2, TX2, 5)) (ci := 2) (q0 := 10) (ws0' := cC h a cy R nd n dr fl ++ [(o, .inl (ly, 1, .inr (.inl g)))] ++ cW q bq cy M n dr an fi ba mo 1 nd fl q2 b2 M2 n2 dr2 an2 fi2 ba2) (As := [.int (xs (nI i + 1).toNatClampNeg), .int (xs (nI i + 2).toNatClampNeg)]) (rest := []) ⟨hx, hb, hml, hown, hts⟩ (fun sz => mX2_dish_no l D cy q bq M n dr an fi ba mo th nd fl q2 (xs (nI i + 1).toNatClampNeg) (xs (nI i + 2).toNatClampNeg) (by omega) (by omega) (by omega) 1 ((dishqT_X hB2 _ _).trans h0) (by decide) sz) (cwV 2 hts gL_law_X2_dish rfl rfl rfl (by decide +kernel) ⟨Nat.le_of_ble_eq_true rfl, Nat.le_of_ble_eq_true rfl⟩) hP hK hD hS hA [13, 14, 15, 16, 17, 18, 19, 20, 21, 22, 23] [0, 1, 2, 3, 4, 5, 6, 7, 8, 9, 10, 11, 12, 24, 25, 26, 27, 28, 29, 30, 31, 32, 33] [0, 1, 2, 3, 4, 5, 6, 7, 8, 9, 10, 11, 12, 23, 24, 25, 26, 27, 28, 29, 30, 31, 32, 33, 13, 14, 15, 16, 17, 18, 19, 20, 21, 22] rfl rfl rfl (by decide) rfl rfl rfl rfl rfl rfl rfl hl.1 rfl (Nat.le_of_ble_eq_true rfl) dL_law_530 (rm_c (by omega)) (rm_s (by omega)) (fun H locs hP hD hS => ?_)
    refine lv_istore (lv' := [(6, .int 0), (5, .int 1), (4, .int (nI i)), (3, .ref o), (2, .ref mo), (1, .ref h), (0, .ref b)]) hx hb dL_law_533 hl (by decide) rfl (fun ls hl => ?_)
    refine lv_aload_n hx hb dL_law_535 rfl (lv_at hl 4 rfl) ?_
    refine rd_V (q := (RX2, TX2, 5)) (ci := 2) (q0 := 10) (As := []) (rest := []) ⟨hx, hb, hml, hown, hts⟩ (mX2_thrown l D cy q bq M n dr an fi ba mo 1 nd fl q2 (by omega) (by omega) (by omega)) (cwV 0 hts gL_law_X2_thrown rfl rfl rfl (by decide +kernel) ⟨Nat.le_of_ble_eq_true rfl, Nat.le_of_ble_eq_true rfl⟩) (hP.sub (ws' := cSM q bq cy M n dr an fi ba mo 1 nd fl q q2) [13, 14, 15, 16, 17, 18, 19, 20, 21, 22, 23] rfl) hK rfl rfl rfl hl.1 rfl (Nat.le_of_ble_eq_true rfl) dL_law_536 (rm_c (by omega)) (rm_s (by omega)) ?_
    refine lv_iload hx hb dL_law_539 (lv_at hl 1 rfl) ?_
    refine lv_icmp_eq (tgt := 546) hx hb dL_law_541 (by decide) (fun _ => ?_) (fun cq => absurd rfl cq)
    refine lv_iload hx hb dL_law_546 (lv_at hl 1 rfl) ?_
    refine lv_if_ne (tgt := 563) hx hb dL_law_548 (by decide) (fun _ => ?_) (fun cq => absurd cq (by decide))
    refine lv_goto (tgt := 857) hx hb dL_law_563 (by decide) ?_
    exact hk R M M2 nd n dr n2 dr2 fl an fi ba 1 an2 fi2 ba2 g H _ d0 ls _ _ ⟨hI, hAg, hP, hD, hS⟩ hd0 (by omega) (by omega) (lv_sub hl [2, 3, 4, 5, 6] rfl)
end LWD
