section LWD
set_option maxHeartbeats 4000000 in
set_option maxRecDepth 100000 in
theorem lc_cook {p : Program} {l : Launch} {e : Env} {s : State} {m : MethodId} {below : List Frame} {meth : Method} {c : Code} {b L : Nat} {xs : Nat → Int32} {D : va_G} {cy ly : ClassId} {h : Nat} {a : Nat → Nat} {o q : Nat} {bq : Nat → Nat} {mo q2 : Nat} {b2 : Nat → Nat} (hc : LCtx p l s m meth c b L xs D cy ly) {i cells slots : Nat} (hcs : cells ≤ 520000) (hss : slots ≤ 3700000) (hv1 : vp_in (nI i + 1) L) (hv2 : vp_in (nI i + 2) L) (hv3 : vp_in (nI i + 3) L) (hk : lwK p l e s m below meth c b D cy ly h a o q bq mo q2 b2 i cells slots) {R M M2 : Nat → Nat → Int32} {nd n dr n2 dr2 : Nat} {fl an fi ba th an2 fi2 ba2 : Int32} {g : Nat → Int64} {H : Heap} {d0 : Drawn} {ls : Array Slot} (hst : LSt s D cy ly h a o q bq mo q2 b2 R M M2 nd n dr n2 dr2 fl an fi ba th an2 fi2 ba2 g H []) (hd0 : s.drawn.sameBut d0 lw_cs) (hl : lv_has ls 9 [(4, .int (nI i)), (3, .ref o), (2, .ref mo), (1, .ref h), (0, .ref b)]) : W p l e room_1 (s.setDrawn d0) m #[Value.ref b] below meth c H [] cells slots (lw_Z below #[Value.ref b] s) (F0 m 156 ls []) := by
  obtain ⟨hfl, C0, hKL, hXp, hNc⟩ := hc
  obtain ⟨hx, hb, hr, hml, hown, hts0, hX, hbl, hlocks, hgv⟩ := id C0
  have hts := dr_words (s := s) (fun w h9 => hts0 w (wsL_law_in w h9)) d0
  have hown : (s.setDrawn d0).vm.findClass RL = some m.cls := hown
  have hA : ∀ q9 : Nat, s.heap.size ≤ q9 → lwA s q9 := fun _ h9 => h9
  have hbA : ¬ lwA s b := Nat.not_le.mpr hbl
  obtain ⟨hI, hAg, hP, hD, hS⟩ := hst
  have hX := va_X.moved (u := s) (U := s.setDrawn d0) (Vm.Alike.refl s.vm) hX
  have hKL0 := hKL
  have hKL := hKL.dr d0
  have hK := hKL.kk
  have hXp := hXp.dr d0
  have hNc := hNc.dr d0
  have hB1 : n ≤ 120 := hI.1.1
  have hB2 : nd ≤ 20 := hI.1.2.1
  have hB3 : dr ≤ n := hI.2.2.1
  rcases cook_c R n nd (xs (nI i + 1).toNatClampNeg) (xs (nI i + 2).toNatClampNeg) (xs (nI i + 3).toNatClampNeg) with h0 | h0 | h0 | h0
  · obtain ⟨hn1, he, hI1, hA1⟩ := cook_ok hI hAg h0
    refine lv_aload_n hx hb dL_law_156 rfl (lv_at hl 3 rfl) ?_
    refine lv_aload_n hx hb dL_law_157 rfl (lv_at hl 4 rfl) ?_
    refine lv_iload hx hb dL_law_158 (lv_at hl 0 rfl) ?_
    refine lv_iconst (v := 1) hx hb dL_law_160 (by decide) ?_
    refine lv_iadd hx hb dL_law_161 ?_
    refine va_sld hx hb hX hbl hbA hS hv1 dL_law_162 ?_
    refine lv_aload_n hx hb dL_law_163 rfl (lv_at hl 4 rfl) ?_
    refine lv_iload hx hb dL_law_164 (lv_at hl 0 rfl) ?_
    refine lv_iconst (v := 2) hx hb dL_law_166 (by decide) ?_
    refine lv_iadd hx hb dL_law_167 ?_
    refine va_sld hx hb hX hbl hbA hS hv2 dL_law_168 ?_
    refine lv_aload_n hx hb dL_law_169 rfl (lv_at hl 4 rfl) ?_
    refine lv_iload hx hb dL_law_170 (lv_at hl 0 rfl) ?_
    refine lv_iconst (v := 3) hx hb dL_law_172 (by decide) ?_
    refine lv_iadd hx hb dL_law_173 ?_
    refine va_sld hx hb hX hbl hbA hS hv3 dL_law_174 ?_
    refine lv_aload_n hx hb dL_law_175 rfl (lv_at hl 1 rfl) ?_
    refine lh_S (ws0' := cC h a cy (spoonsR R n (xs (nI i + 1).toNatClampNeg) 1 (xs (nI i + 2).toNatClampNeg) (xs (nI i + 3).toNatClampNeg)) nd (n + 1) dr fl ++ [(o, .inl (ly, 1, .inr (.inl (vp_updL g 0 (atS 8 (R 0) (xs (nI i + 2).toNatClampNeg)).toInt64))))] ++ cW q bq cy M n dr an fi ba mo th nd fl q2 b2 M2 n2 dr2 an2 fi2 ba2) (As := [.ref h, .int (xs (nI i + 1).toNatClampNeg), .int (xs (nI i + 2).toNatClampNeg), .int (xs (nI i + 3).toNatClampNeg), .ref o]) (rest := []) ⟨hx, hb, hml, hown, hts⟩ (fun sz => mL_cook_ok l D cy ly h a R nd n dr fl o g (xs (nI i + 1).toNatClampNeg) (xs (nI i + 2).toNatClampNeg) (xs (nI i + 3).toNatClampNeg) (by omega) (by omega) (by omega) h0  sz) (vx_cwSW 5 hts gL_law_L_cook rfl rfl rfl (by decide +kernel) ⟨Nat.le_of_ble_eq_true rfl, Nat.le_of_ble_eq_true rfl⟩) hP hKL hD hS hA hXp hNc [0, 1, 2, 3, 4, 5, 6, 7, 8, 9, 10, 11, 12] [13, 14, 15, 16, 17, 18, 19, 20, 21, 22, 23, 24, 25, 26, 27, 28, 29, 30, 31, 32, 33] [21, 22, 23, 24, 25, 26, 27, 28, 29, 30, 31, 32, 33, 0, 1, 2, 3, 4, 5, 6, 7, 8, 9, 10, 11, 12, 13, 14, 15, 16, 17, 18, 19, 20] rfl rfl rfl (by decide) rfl rfl rfl rfl rfl hl.1 rfl (Nat.le_of_ble_eq_true rfl) dL_law_176 (rm_c (by omega)) (rm_s (by omega)) (fun H locs hP hD hS => ?_)
    refine lv_istore (lv' := [(5, .int 0), (4, .int (nI i)), (3, .ref o), (2, .ref mo), (1, .ref h), (0, .ref b)]) hx hb dL_law_179 hl (by decide) rfl (fun ls hl => ?_)
    refine lv_aload_n hx hb dL_law_181 rfl (lv_at hl 3 rfl) ?_
    refine lv_aload_n hx hb dL_law_182 rfl (lv_at hl 5 rfl) ?_
    refine lv_iload hx hb dL_law_183 (lv_at hl 1 rfl) ?_
    refine lv_iconst (v := 1) hx hb dL_law_185 (by decide) ?_
    refine lv_iadd hx hb dL_law_186 ?_
    refine va_sld hx hb hX hbl hbA hS hv1 dL_law_187 ?_
    refine lv_aload_n hx hb dL_law_188 rfl (lv_at hl 5 rfl) ?_
    refine lv_iload hx hb dL_law_189 (lv_at hl 1 rfl) ?_
    refine lv_iconst (v := 2) hx hb dL_law_191 (by decide) ?_
    refine lv_iadd hx hb dL_law_192 ?_
    refine va_sld hx hb hX hbl hbA hS hv2 dL_law_193 ?_
    refine lv_aload_n hx hb dL_law_194 rfl (lv_at hl 5 rfl) ?_
    refine lv_iload hx hb dL_law_195 (lv_at hl 1 rfl) ?_
    refine lv_iconst (v := 3) hx hb dL_law_197 (by decide) ?_
    refine lv_iadd hx hb dL_law_198 ?_
    refine va_sld hx hb hX hbl hbA hS hv3 dL_law_199 ?_
    refine wr_VI (q := (RX2, TX2, 5)) (ci := 2) (q0 := 10) (ws0' := cC h a cy (spoonsR R n (xs (nI i + 1).toNatClampNeg) 1 (xs (nI i + 2).toNatClampNeg) (xs (nI i + 3).toNatClampNeg)) nd (n + 1) dr fl ++ [(o, .inl (ly, 1, .inr (.inl (vp_updL g 0 (atS 8 (R 0) (xs (nI i + 2).toNatClampNeg)).toInt64))))] ++ cW q bq cy (spoonsM M n (xs (nI i + 1).toNatClampNeg) 1 (xs (nI i + 2).toNatClampNeg) (xs (nI i + 3).toNatClampNeg) (-1)) (n + 1) dr an fi ba mo 0 nd fl q2 b2 M2 n2 dr2 an2 fi2 ba2) (As := [.int (xs (nI i + 1).toNatClampNeg), .int (xs (nI i + 2).toNatClampNeg), .int (xs (nI i + 3).toNatClampNeg)]) (rest := []) ⟨hx, hb, hml, hown, hts⟩ (fun sz => mX2_cook_ok l D cy q bq M n dr an fi ba mo th nd fl q2 (xs (nI i + 1).toNatClampNeg) (xs (nI i + 2).toNatClampNeg) (xs (nI i + 3).toNatClampNeg) (by omega) (by omega) (by omega) ((cook_T hI hAg _ _ _).trans h0) hn1 sz) (cwV 3 hts gL_law_X2_cook rfl rfl rfl (by decide +kernel) ⟨Nat.le_of_ble_eq_true rfl, Nat.le_of_ble_eq_true rfl⟩) hP hK hD hS hA [13, 14, 15, 16, 17, 18, 19, 20, 21, 22, 23] [0, 1, 2, 3, 4, 5, 6, 7, 8, 9, 10, 11, 12, 24, 25, 26, 27, 28, 29, 30, 31, 32, 33] [0, 1, 2, 3, 4, 5, 6, 7, 8, 9, 10, 11, 12, 23, 24, 25, 26, 27, 28, 29, 30, 31, 32, 33, 13, 14, 15, 16, 17, 18, 19, 20, 21, 22] rfl rfl rfl (by decide) rfl rfl rfl rfl rfl rfl rfl hl.1 rfl (Nat.le_of_ble_eq_true rfl) dL_law_200 (rm_c (by omega)) (rm_s (by omega)) (fun H locs hP hD hS => ?_)
    refine lv_istore (lv' := [(6, .int (M 0 (xs (nI i + 2).toNatClampNeg).toNatClampNeg)), (5, .int 0), (4, .int (nI i)), (3, .ref o), (2, .ref mo), (1, .ref h), (0, .ref b)]) hx hb dL_law_203 hl (by decide) rfl (fun ls hl => ?_)
    refine lv_aload_n hx hb dL_law_205 rfl (lv_at hl 4 rfl) ?_
    have hC1 := hI1.1.1
    have hC2 := hI1.1.2.1
    have hC3 := hI1.2.2.1
    refine rd_V (q := (RX2, TX2, 5)) (ci := 2) (q0 := 10) (As := []) (rest := []) ⟨hx, hb, hml, hown, hts⟩ (mX2_thrown l D cy q bq (spoonsM M n (xs (nI i + 1).toNatClampNeg) 1 (xs (nI i + 2).toNatClampNeg) (xs (nI i + 3).toNatClampNeg) (-1)) (n + 1) dr an fi ba mo 0 nd fl q2 (by omega) (by omega) (by omega)) (cwV 0 hts gL_law_X2_thrown rfl rfl rfl (by decide +kernel) ⟨Nat.le_of_ble_eq_true rfl, Nat.le_of_ble_eq_true rfl⟩) (hP.sub (ws' := cSM q bq cy (spoonsM M n (xs (nI i + 1).toNatClampNeg) 1 (xs (nI i + 2).toNatClampNeg) (xs (nI i + 3).toNatClampNeg) (-1)) (n + 1) dr an fi ba mo 0 nd fl q q2) [13, 14, 15, 16, 17, 18, 19, 20, 21, 22, 23] rfl) hK rfl rfl rfl hl.1 rfl (Nat.le_of_ble_eq_true rfl) dL_law_206 (rm_c (by omega)) (rm_s (by omega)) ?_
    refine lv_iload hx hb dL_law_209 (lv_at hl 1 rfl) ?_
    refine lv_icmp_eq (tgt := 216) hx hb dL_law_211 (by decide) (fun _ => ?_) (fun cq => absurd rfl cq)
    refine lv_iload hx hb dL_law_216 (lv_at hl 1 rfl) ?_
    refine lv_if_ne (tgt := 233) hx hb dL_law_218 (by decide) (fun cq => absurd rfl cq) (fun _ => ?_)
    refine lv_aload_n hx hb dL_law_221 rfl (lv_at hl 3 rfl) ?_
    refine lv_iconst (v := 0) hx hb dL_law_222 (by decide) ?_
    refine va_lald hx hb hKL.1 hP 12 1 rfl rfl (vp_in_nI (n := 0) (by omega) (by omega)) dL_law_223 ?_
    refine lv_iload hx hb dL_law_224 (lv_at hl 0 rfl) ?_
    refine lv_i2l (v := (M 0 (xs (nI i + 2).toNatClampNeg).toNatClampNeg).toInt64) hx hb dL_law_226 rfl ?_
    refine W.lcmp hx hb dL_law_227 ?_
    refine lv_if_eq (tgt := 233) hx hb dL_law_228 (by decide) (fun _ => ?_) (fun cq => absurd (cmp_out he) cq)
    refine lv_goto (tgt := 857) hx hb dL_law_233 (by decide) ?_
    exact hk (spoonsR R n (xs (nI i + 1).toNatClampNeg) 1 (xs (nI i + 2).toNatClampNeg) (xs (nI i + 3).toNatClampNeg)) (spoonsM M n (xs (nI i + 1).toNatClampNeg) 1 (xs (nI i + 2).toNatClampNeg) (xs (nI i + 3).toNatClampNeg) (-1)) M2 nd (n + 1) dr n2 dr2 fl an fi ba 0 an2 fi2 ba2 (vp_updL g 0 (atS 8 (R 0) (xs (nI i + 2).toNatClampNeg)).toInt64) H _ d0 ls _ _ ⟨hI1, hA1, hP, hD, hS⟩ hd0 (by omega) (by omega) (lv_sub hl [2, 3, 4, 5, 6] rfl)
  · refine lv_aload_n hx hb dL_law_156 rfl (lv_at hl 3 rfl) ?_
    refine lv_aload_n hx hb dL_law_157 rfl (lv_at hl 4 rfl) ?_
    refine lv_iload hx hb dL_law_158 (lv_at hl 0 rfl) ?_
    refine lv_iconst (v := 1) hx hb dL_law_160 (by decide) ?_
    refine lv_iadd hx hb dL_law_161 ?_
    refine va_sld hx hb hX hbl hbA hS hv1 dL_law_162 ?_
    refine lv_aload_n hx hb dL_law_163 rfl (lv_at hl 4 rfl) ?_
    refine lv_iload hx hb dL_law_164 (lv_at hl 0 rfl) ?_
    refine lv_iconst (v := 2) hx hb dL_law_166 (by decide) ?_
    refine lv_iadd hx hb dL_law_167 ?_
    refine va_sld hx hb hX hbl hbA hS hv2 dL_law_168 ?_
    refine lv_aload_n hx hb dL_law_169 rfl (lv_at hl 4 rfl) ?_
    refine lv_iload hx hb dL_law_170 (lv_at hl 0 rfl) ?_
    refine lv_iconst (v := 3) hx hb dL_law_172 (by decide) ?_
    refine lv_iadd hx hb dL_law_173 ?_
    refine va_sld hx hb hX hbl hbA hS hv3 dL_law_174 ?_
    refine lv_aload_n hx hb dL_law_175 rfl (lv_at hl 1 rfl) ?_
    refine lh_S (ws0' := cC h a cy R nd n dr fl ++ [(o, .inl (ly, 1, .inr (.inl g)))] ++ cW q bq cy M n dr an fi ba mo th nd fl q2 b2 M2 n2 dr2 an2 fi2 ba2) (As := [.ref h, .int (xs (nI i + 1).toNatClampNeg), .int (xs (nI i + 2).toNatClampNeg), .int (xs (nI i + 3).toNatClampNeg), .ref o]) (rest := []) ⟨hx, hb, hml, hown, hts⟩ (fun sz => mL_cook_t1 l hfl D cy ly h a R nd n dr fl o g (xs (nI i + 1).toNatClampNeg) (xs (nI i + 2).toNatClampNeg) (xs (nI i + 3).toNatClampNeg) (by omega) (by omega) (by omega) h0 sz) (vx_cwSW 5 hts gL_law_L_cook rfl rfl rfl (by decide +kernel) ⟨Nat.le_of_ble_eq_true rfl, Nat.le_of_ble_eq_true rfl⟩) hP hKL hD hS hA hXp hNc [0, 1, 2, 3, 4, 5, 6, 7, 8, 9, 10, 11, 12] [13, 14, 15, 16, 17, 18, 19, 20, 21, 22, 23, 24, 25, 26, 27, 28, 29, 30, 31, 32, 33] [21, 22, 23, 24, 25, 26, 27, 28, 29, 30, 31, 32, 33, 0, 1, 2, 3, 4, 5, 6, 7, 8, 9, 10, 11, 12, 13, 14, 15, 16, 17, 18, 19, 20] rfl rfl rfl (by decide) rfl rfl rfl rfl rfl hl.1 rfl (Nat.le_of_ble_eq_true rfl) dL_law_176 (rm_c (by omega)) (rm_s (by omega)) (fun H locs hP hD hS => ?_)
    refine lv_istore (lv' := [(5, .int 1), (4, .int (nI i)), (3, .ref o), (2, .ref mo), (1, .ref h), (0, .ref b)]) hx hb dL_law_179 hl (by decide) rfl (fun ls hl => ?_)
    refine lv_aload_n hx hb dL_law_181 rfl (lv_at hl 3 rfl) ?_
    refine lv_aload_n hx hb dL_law_182 rfl (lv_at hl 5 rfl) ?_
    refine lv_iload hx hb dL_law_183 (lv_at hl 1 rfl) ?_
    refine lv_iconst (v := 1) hx hb dL_law_185 (by decide) ?_
    refine lv_iadd hx hb dL_law_186 ?_
    refine va_sld hx hb hX hbl hbA hS hv1 dL_law_187 ?_
    refine lv_aload_n hx hb dL_law_188 rfl (lv_at hl 5 rfl) ?_
    refine lv_iload hx hb dL_law_189 (lv_at hl 1 rfl) ?_
    refine lv_iconst (v := 2) hx hb dL_law_191 (by decide) ?_
    refine lv_iadd hx hb dL_law_192 ?_
    refine va_sld hx hb hX hbl hbA hS hv2 dL_law_193 ?_
    refine lv_aload_n hx hb dL_law_194 rfl (lv_at hl 5 rfl) ?_
    refine lv_iload hx hb dL_law_195 (lv_at hl 1 rfl) ?_
    refine lv_iconst (v := 3) hx hb dL_law_197 (by decide) ?_
    refine lv_iadd hx hb dL_law_198 ?_
    refine va_sld hx hb hX hbl hbA hS hv3 dL_law_199 ?_
    refine wr_VI (q := (RX2, TX2, 5)) (ci := 2) (q0 := 10) (ws0' := cC h a cy R nd n dr fl ++ [(o, .inl (ly, 1, .inr (.inl g)))] ++ cW q bq cy M n dr an fi ba mo 1 nd fl q2 b2 M2 n2 dr2 an2 fi2 ba2) (As := [.int (xs (nI i + 1).toNatClampNeg), .int (xs (nI i + 2).toNatClampNeg), .int (xs (nI i + 3).toNatClampNeg)]) (rest := []) ⟨hx, hb, hml, hown, hts⟩ (fun sz => mX2_cook_no l D cy q bq M n dr an fi ba mo th nd fl q2 (xs (nI i + 1).toNatClampNeg) (xs (nI i + 2).toNatClampNeg) (xs (nI i + 3).toNatClampNeg) (by omega) (by omega) (by omega) 1 ((cook_T hI hAg _ _ _).trans h0) (by decide) sz) (cwV 3 hts gL_law_X2_cook rfl rfl rfl (by decide +kernel) ⟨Nat.le_of_ble_eq_true rfl, Nat.le_of_ble_eq_true rfl⟩) hP hK hD hS hA [13, 14, 15, 16, 17, 18, 19, 20, 21, 22, 23] [0, 1, 2, 3, 4, 5, 6, 7, 8, 9, 10, 11, 12, 24, 25, 26, 27, 28, 29, 30, 31, 32, 33] [0, 1, 2, 3, 4, 5, 6, 7, 8, 9, 10, 11, 12, 23, 24, 25, 26, 27, 28, 29, 30, 31, 32, 33, 13, 14, 15, 16, 17, 18, 19, 20, 21, 22] rfl rfl rfl (by decide) rfl rfl rfl rfl rfl rfl rfl hl.1 rfl (Nat.le_of_ble_eq_true rfl) dL_law_200 (rm_c (by omega)) (rm_s (by omega)) (fun H locs hP hD hS => ?_)
    refine lv_istore (lv' := [(6, .int 0), (5, .int 1), (4, .int (nI i)), (3, .ref o), (2, .ref mo), (1, .ref h), (0, .ref b)]) hx hb dL_law_203 hl (by decide) rfl (fun ls hl => ?_)
    refine lv_aload_n hx hb dL_law_205 rfl (lv_at hl 4 rfl) ?_
    refine rd_V (q := (RX2, TX2, 5)) (ci := 2) (q0 := 10) (As := []) (rest := []) ⟨hx, hb, hml, hown, hts⟩ (mX2_thrown l D cy q bq M n dr an fi ba mo 1 nd fl q2 (by omega) (by omega) (by omega)) (cwV 0 hts gL_law_X2_thrown rfl rfl rfl (by decide +kernel) ⟨Nat.le_of_ble_eq_true rfl, Nat.le_of_ble_eq_true rfl⟩) (hP.sub (ws' := cSM q bq cy M n dr an fi ba mo 1 nd fl q q2) [13, 14, 15, 16, 17, 18, 19, 20, 21, 22, 23] rfl) hK rfl rfl rfl hl.1 rfl (Nat.le_of_ble_eq_true rfl) dL_law_206 (rm_c (by omega)) (rm_s (by omega)) ?_
    refine lv_iload hx hb dL_law_209 (lv_at hl 1 rfl) ?_
    refine lv_icmp_eq (tgt := 216) hx hb dL_law_211 (by decide) (fun _ => ?_) (fun cq => absurd rfl cq)
    refine lv_iload hx hb dL_law_216 (lv_at hl 1 rfl) ?_
    refine lv_if_ne (tgt := 233) hx hb dL_law_218 (by decide) (fun _ => ?_) (fun cq => absurd cq (by decide))
    refine lv_goto (tgt := 857) hx hb dL_law_233 (by decide) ?_
    exact hk R M M2 nd n dr n2 dr2 fl an fi ba 1 an2 fi2 ba2 g H _ d0 ls _ _ ⟨hI, hAg, hP, hD, hS⟩ hd0 (by omega) (by omega) (lv_sub hl [2, 3, 4, 5, 6] rfl)
  · refine lv_aload_n hx hb dL_law_156 rfl (lv_at hl 3 rfl) ?_
    refine lv_aload_n hx hb dL_law_157 rfl (lv_at hl 4 rfl) ?_
    refine lv_iload hx hb dL_law_158 (lv_at hl 0 rfl) ?_
    refine lv_iconst (v := 1) hx hb dL_law_160 (by decide) ?_
    refine lv_iadd hx hb dL_law_161 ?_
    refine va_sld hx hb hX hbl hbA hS hv1 dL_law_162 ?_
    refine lv_aload_n hx hb dL_law_163 rfl (lv_at hl 4 rfl) ?_
    refine lv_iload hx hb dL_law_164 (lv_at hl 0 rfl) ?_
    refine lv_iconst (v := 2) hx hb dL_law_166 (by decide) ?_
    refine lv_iadd hx hb dL_law_167 ?_
    refine va_sld hx hb hX hbl hbA hS hv2 dL_law_168 ?_
    refine lv_aload_n hx hb dL_law_169 rfl (lv_at hl 4 rfl) ?_
    refine lv_iload hx hb dL_law_170 (lv_at hl 0 rfl) ?_
    refine lv_iconst (v := 3) hx hb dL_law_172 (by decide) ?_
    refine lv_iadd hx hb dL_law_173 ?_
    refine va_sld hx hb hX hbl hbA hS hv3 dL_law_174 ?_
    refine lv_aload_n hx hb dL_law_175 rfl (lv_at hl 1 rfl) ?_
    refine lh_S (ws0' := cC h a cy R nd n dr fl ++ [(o, .inl (ly, 1, .inr (.inl g)))] ++ cW q bq cy M n dr an fi ba mo th nd fl q2 b2 M2 n2 dr2 an2 fi2 ba2) (As := [.ref h, .int (xs (nI i + 1).toNatClampNeg), .int (xs (nI i + 2).toNatClampNeg), .int (xs (nI i + 3).toNatClampNeg), .ref o]) (rest := []) ⟨hx, hb, hml, hown, hts⟩ (fun sz => mL_cook_t2 l hfl D cy ly h a R nd n dr fl o g (xs (nI i + 1).toNatClampNeg) (xs (nI i + 2).toNatClampNeg) (xs (nI i + 3).toNatClampNeg) (by omega) (by omega) (by omega) h0 sz) (vx_cwSW 5 hts gL_law_L_cook rfl rfl rfl (by decide +kernel) ⟨Nat.le_of_ble_eq_true rfl, Nat.le_of_ble_eq_true rfl⟩) hP hKL hD hS hA hXp hNc [0, 1, 2, 3, 4, 5, 6, 7, 8, 9, 10, 11, 12] [13, 14, 15, 16, 17, 18, 19, 20, 21, 22, 23, 24, 25, 26, 27, 28, 29, 30, 31, 32, 33] [21, 22, 23, 24, 25, 26, 27, 28, 29, 30, 31, 32, 33, 0, 1, 2, 3, 4, 5, 6, 7, 8, 9, 10, 11, 12, 13, 14, 15, 16, 17, 18, 19, 20] rfl rfl rfl (by decide) rfl rfl rfl rfl rfl hl.1 rfl (Nat.le_of_ble_eq_true rfl) dL_law_176 (rm_c (by omega)) (rm_s (by omega)) (fun H locs hP hD hS => ?_)
    refine lv_istore (lv' := [(5, .int 2), (4, .int (nI i)), (3, .ref o), (2, .ref mo), (1, .ref h), (0, .ref b)]) hx hb dL_law_179 hl (by decide) rfl (fun ls hl => ?_)
    refine lv_aload_n hx hb dL_law_181 rfl (lv_at hl 3 rfl) ?_
    refine lv_aload_n hx hb dL_law_182 rfl (lv_at hl 5 rfl) ?_
    refine lv_iload hx hb dL_law_183 (lv_at hl 1 rfl) ?_
    refine lv_iconst (v := 1) hx hb dL_law_185 (by decide) ?_
    refine lv_iadd hx hb dL_law_186 ?_
    refine va_sld hx hb hX hbl hbA hS hv1 dL_law_187 ?_
    refine lv_aload_n hx hb dL_law_188 rfl (lv_at hl 5 rfl) ?_
    refine lv_iload hx hb dL_law_189 (lv_at hl 1 rfl) ?_
    refine lv_iconst (v := 2) hx hb dL_law_191 (by decide) ?_
    refine lv_iadd hx hb dL_law_192 ?_
    refine va_sld hx hb hX hbl hbA hS hv2 dL_law_193 ?_
    refine lv_aload_n hx hb dL_law_194 rfl (lv_at hl 5 rfl) ?_
    refine lv_iload hx hb dL_law_195 (lv_at hl 1 rfl) ?_
    refine lv_iconst (v := 3) hx hb dL_law_197 (by decide) ?_
    refine lv_iadd hx hb dL_law_198 ?_
    refine va_sld hx hb hX hbl hbA hS hv3 dL_law_199 ?_
    refine wr_VI (q := (RX2, TX2, 5)) (ci := 2) (q0 := 10) (ws0' := cC h a cy R nd n dr fl ++ [(o, .inl (ly, 1, .inr (.inl g)))] ++ cW q bq cy M n dr an fi ba mo 2 nd fl q2 b2 M2 n2 dr2 an2 fi2 ba2) (As := [.int (xs (nI i + 1).toNatClampNeg), .int (xs (nI i + 2).toNatClampNeg), .int (xs (nI i + 3).toNatClampNeg)]) (rest := []) ⟨hx, hb, hml, hown, hts⟩ (fun sz => mX2_cook_no l D cy q bq M n dr an fi ba mo th nd fl q2 (xs (nI i + 1).toNatClampNeg) (xs (nI i + 2).toNatClampNeg) (xs (nI i + 3).toNatClampNeg) (by omega) (by omega) (by omega) 2 ((cook_T hI hAg _ _ _).trans h0) (by decide) sz) (cwV 3 hts gL_law_X2_cook rfl rfl rfl (by decide +kernel) ⟨Nat.le_of_ble_eq_true rfl, Nat.le_of_ble_eq_true rfl⟩) hP hK hD hS hA [13, 14, 15, 16, 17, 18, 19, 20, 21, 22, 23] [0, 1, 2, 3, 4, 5, 6, 7, 8, 9, 10, 11, 12, 24, 25, 26, 27, 28, 29, 30, 31, 32, 33] [0, 1, 2, 3, 4, 5, 6, 7, 8, 9, 10, 11, 12, 23, 24, 25, 26, 27, 28, 29, 30, 31, 32, 33, 13, 14, 15, 16, 17, 18, 19, 20, 21, 22] rfl rfl rfl (by decide) rfl rfl rfl rfl rfl rfl rfl hl.1 rfl (Nat.le_of_ble_eq_true rfl) dL_law_200 (rm_c (by omega)) (rm_s (by omega)) (fun H locs hP hD hS => ?_)
    refine lv_istore (lv' := [(6, .int 0), (5, .int 2), (4, .int (nI i)), (3, .ref o), (2, .ref mo), (1, .ref h), (0, .ref b)]) hx hb dL_law_203 hl (by decide) rfl (fun ls hl => ?_)
    refine lv_aload_n hx hb dL_law_205 rfl (lv_at hl 4 rfl) ?_
    refine rd_V (q := (RX2, TX2, 5)) (ci := 2) (q0 := 10) (As := []) (rest := []) ⟨hx, hb, hml, hown, hts⟩ (mX2_thrown l D cy q bq M n dr an fi ba mo 2 nd fl q2 (by omega) (by omega) (by omega)) (cwV 0 hts gL_law_X2_thrown rfl rfl rfl (by decide +kernel) ⟨Nat.le_of_ble_eq_true rfl, Nat.le_of_ble_eq_true rfl⟩) (hP.sub (ws' := cSM q bq cy M n dr an fi ba mo 2 nd fl q q2) [13, 14, 15, 16, 17, 18, 19, 20, 21, 22, 23] rfl) hK rfl rfl rfl hl.1 rfl (Nat.le_of_ble_eq_true rfl) dL_law_206 (rm_c (by omega)) (rm_s (by omega)) ?_
    refine lv_iload hx hb dL_law_209 (lv_at hl 1 rfl) ?_
    refine lv_icmp_eq (tgt := 216) hx hb dL_law_211 (by decide) (fun _ => ?_) (fun cq => absurd rfl cq)
    refine lv_iload hx hb dL_law_216 (lv_at hl 1 rfl) ?_
    refine lv_if_ne (tgt := 233) hx hb dL_law_218 (by decide) (fun _ => ?_) (fun cq => absurd cq (by decide))
    refine lv_goto (tgt := 857) hx hb dL_law_233 (by decide) ?_
    exact hk R M M2 nd n dr n2 dr2 fl an fi ba 2 an2 fi2 ba2 g H _ d0 ls _ _ ⟨hI, hAg, hP, hD, hS⟩ hd0 (by omega) (by omega) (lv_sub hl [2, 3, 4, 5, 6] rfl)
  · refine lv_aload_n hx hb dL_law_156 rfl (lv_at hl 3 rfl) ?_
    refine lv_aload_n hx hb dL_law_157 rfl (lv_at hl 4 rfl) ?_
    refine lv_iload hx hb dL_law_158 (lv_at hl 0 rfl) ?_
    refine lv_iconst (v := 1) hx hb dL_law_160 (by decide) ?_
    refine lv_iadd hx hb dL_law_161 ?_
    refine va_sld hx hb hX hbl hbA hS hv1 dL_law_162 ?_
    refine lv_aload_n hx hb dL_law_163 rfl (lv_at hl 4 rfl) ?_
    refine lv_iload hx hb dL_law_164 (lv_at hl 0 rfl) ?_
    refine lv_iconst (v := 2) hx hb dL_law_166 (by decide) ?_
    refine lv_iadd hx hb dL_law_167 ?_
    refine va_sld hx hb hX hbl hbA hS hv2 dL_law_168 ?_
    refine lv_aload_n hx hb dL_law_169 rfl (lv_at hl 4 rfl) ?_
    refine lv_iload hx hb dL_law_170 (lv_at hl 0 rfl) ?_
    refine lv_iconst (v := 3) hx hb dL_law_172 (by decide) ?_
    refine lv_iadd hx hb dL_law_173 ?_
    refine va_sld hx hb hX hbl hbA hS hv3 dL_law_174 ?_
    refine lv_aload_n hx hb dL_law_175 rfl (lv_at hl 1 rfl) ?_
    refine lh_S (ws0' := cC h a cy R nd n dr fl ++ [(o, .inl (ly, 1, .inr (.inl g)))] ++ cW q bq cy M n dr an fi ba mo th nd fl q2 b2 M2 n2 dr2 an2 fi2 ba2) (As := [.ref h, .int (xs (nI i + 1).toNatClampNeg), .int (xs (nI i + 2).toNatClampNeg), .int (xs (nI i + 3).toNatClampNeg), .ref o]) (rest := []) ⟨hx, hb, hml, hown, hts⟩ (fun sz => mL_cook_t3 l hfl D cy ly h a R nd n dr fl o g (xs (nI i + 1).toNatClampNeg) (xs (nI i + 2).toNatClampNeg) (xs (nI i + 3).toNatClampNeg) (by omega) (by omega) (by omega) h0 sz) (vx_cwSW 5 hts gL_law_L_cook rfl rfl rfl (by decide +kernel) ⟨Nat.le_of_ble_eq_true rfl, Nat.le_of_ble_eq_true rfl⟩) hP hKL hD hS hA hXp hNc [0, 1, 2, 3, 4, 5, 6, 7, 8, 9, 10, 11, 12] [13, 14, 15, 16, 17, 18, 19, 20, 21, 22, 23, 24, 25, 26, 27, 28, 29, 30, 31, 32, 33] [21, 22, 23, 24, 25, 26, 27, 28, 29, 30, 31, 32, 33, 0, 1, 2, 3, 4, 5, 6, 7, 8, 9, 10, 11, 12, 13, 14, 15, 16, 17, 18, 19, 20] rfl rfl rfl (by decide) rfl rfl rfl rfl rfl hl.1 rfl (Nat.le_of_ble_eq_true rfl) dL_law_176 (rm_c (by omega)) (rm_s (by omega)) (fun H locs hP hD hS => ?_)
    refine lv_istore (lv' := [(5, .int 3), (4, .int (nI i)), (3, .ref o), (2, .ref mo), (1, .ref h), (0, .ref b)]) hx hb dL_law_179 hl (by decide) rfl (fun ls hl => ?_)
    refine lv_aload_n hx hb dL_law_181 rfl (lv_at hl 3 rfl) ?_
    refine lv_aload_n hx hb dL_law_182 rfl (lv_at hl 5 rfl) ?_
    refine lv_iload hx hb dL_law_183 (lv_at hl 1 rfl) ?_
    refine lv_iconst (v := 1) hx hb dL_law_185 (by decide) ?_
    refine lv_iadd hx hb dL_law_186 ?_
    refine va_sld hx hb hX hbl hbA hS hv1 dL_law_187 ?_
    refine lv_aload_n hx hb dL_law_188 rfl (lv_at hl 5 rfl) ?_
    refine lv_iload hx hb dL_law_189 (lv_at hl 1 rfl) ?_
    refine lv_iconst (v := 2) hx hb dL_law_191 (by decide) ?_
    refine lv_iadd hx hb dL_law_192 ?_
    refine va_sld hx hb hX hbl hbA hS hv2 dL_law_193 ?_
    refine lv_aload_n hx hb dL_law_194 rfl (lv_at hl 5 rfl) ?_
    refine lv_iload hx hb dL_law_195 (lv_at hl 1 rfl) ?_
    refine lv_iconst (v := 3) hx hb dL_law_197 (by decide) ?_
    refine lv_iadd hx hb dL_law_198 ?_
    refine va_sld hx hb hX hbl hbA hS hv3 dL_law_199 ?_
    refine wr_VI (q := (RX2, TX2, 5)) (ci := 2) (q0 := 10) (ws0' := cC h a cy R nd n dr fl ++ [(o, .inl (ly, 1, .inr (.inl g)))] ++ cW q bq cy M n dr an fi ba mo 3 nd fl q2 b2 M2 n2 dr2 an2 fi2 ba2) (As := [.int (xs (nI i + 1).toNatClampNeg), .int (xs (nI i + 2).toNatClampNeg), .int (xs (nI i + 3).toNatClampNeg)]) (rest := []) ⟨hx, hb, hml, hown, hts⟩ (fun sz => mX2_cook_no l D cy q bq M n dr an fi ba mo th nd fl q2 (xs (nI i + 1).toNatClampNeg) (xs (nI i + 2).toNatClampNeg) (xs (nI i + 3).toNatClampNeg) (by omega) (by omega) (by omega) 3 ((cook_T hI hAg _ _ _).trans h0) (by decide) sz) (cwV 3 hts gL_law_X2_cook rfl rfl rfl (by decide +kernel) ⟨Nat.le_of_ble_eq_true rfl, Nat.le_of_ble_eq_true rfl⟩) hP hK hD hS hA [13, 14, 15, 16, 17, 18, 19, 20, 21, 22, 23] [0, 1, 2, 3, 4, 5, 6, 7, 8, 9, 10, 11, 12, 24, 25, 26, 27, 28, 29, 30, 31, 32, 33] [0, 1, 2, 3, 4, 5, 6, 7, 8, 9, 10, 11, 12, 23, 24, 25, 26, 27, 28, 29, 30, 31, 32, 33, 13, 14, 15, 16, 17, 18, 19, 20, 21, 22] rfl rfl rfl (by decide) rfl rfl rfl rfl rfl rfl rfl hl.1 rfl (Nat.le_of_ble_eq_true rfl) dL_law_200 (rm_c (by omega)) (rm_s (by omega)) (fun H locs hP hD hS => ?_)
    refine lv_istore (lv' := [(6, .int 0), (5, .int 3), (4, .int (nI i)), (3, .ref o), (2, .ref mo), (1, .ref h), (0, .ref b)]) hx hb dL_law_203 hl (by decide) rfl (fun ls hl => ?_)
    refine lv_aload_n hx hb dL_law_205 rfl (lv_at hl 4 rfl) ?_
    refine rd_V (q := (RX2, TX2, 5)) (ci := 2) (q0 := 10) (As := []) (rest := []) ⟨hx, hb, hml, hown, hts⟩ (mX2_thrown l D cy q bq M n dr an fi ba mo 3 nd fl q2 (by omega) (by omega) (by omega)) (cwV 0 hts gL_law_X2_thrown rfl rfl rfl (by decide +kernel) ⟨Nat.le_of_ble_eq_true rfl, Nat.le_of_ble_eq_true rfl⟩) (hP.sub (ws' := cSM q bq cy M n dr an fi ba mo 3 nd fl q q2) [13, 14, 15, 16, 17, 18, 19, 20, 21, 22, 23] rfl) hK rfl rfl rfl hl.1 rfl (Nat.le_of_ble_eq_true rfl) dL_law_206 (rm_c (by omega)) (rm_s (by omega)) ?_
    refine lv_iload hx hb dL_law_209 (lv_at hl 1 rfl) ?_
    refine lv_icmp_eq (tgt := 216) hx hb dL_law_211 (by decide) (fun _ => ?_) (fun cq => absurd rfl cq)
    refine lv_iload hx hb dL_law_216 (lv_at hl 1 rfl) ?_
    refine lv_if_ne (tgt := 233) hx hb dL_law_218 (by decide) (fun _ => ?_) (fun cq => absurd cq (by decide))
    refine lv_goto (tgt := 857) hx hb dL_law_233 (by decide) ?_
    exact hk R M M2 nd n dr n2 dr2 fl an fi ba 3 an2 fi2 ba2 g H _ d0 ls _ _ ⟨hI, hAg, hP, hD, hS⟩ hd0 (by omega) (by omega) (lv_sub hl [2, 3, 4, 5, 6] rfl)
end LWD
