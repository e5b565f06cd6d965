section LWD
set_option maxHeartbeats 4000000 in
set_option maxRecDepth 100000 in
theorem lc_mean {p : Program} {l : Launch} {e : Env} {s : State} {m : MethodId} {below : List Frame} {meth : Method} {c : Code} {b L : Nat} {xs : Nat → Int32} {D : va_G} {cy ly : ClassId} {h : Nat} {a : Nat → Nat} {o q : Nat} {bq : Nat → Nat} {mo q2 : Nat} {b2 : Nat → Nat} (hc : LCtx p l s m meth c b L xs D cy ly) {i cells slots : Nat} (hcs : cells ≤ 520000) (hss : slots ≤ 3700000) (hv1 : vp_in (nI i + 1) L) (hv2 : vp_in (nI i + 2) L) (hv3 : vp_in (nI i + 3) L) (hk : lwK p l e s m below meth c b D cy ly h a o q bq mo q2 b2 i cells slots) {R M M2 : Nat → Nat → Int32} {nd n dr n2 dr2 : Nat} {fl an fi ba th an2 fi2 ba2 : Int32} {g : Nat → Int64} {H : Heap} {d0 : Drawn} {ls : Array Slot} (hst : LSt s D cy ly h a o q bq mo q2 b2 R M M2 nd n dr n2 dr2 fl an fi ba th an2 fi2 ba2 g H []) (hd0 : s.drawn.sameBut d0 lw_cs) (hl : lv_has ls 9 [(4, .int (nI i)), (3, .ref o), (2, .ref mo), (1, .ref h), (0, .ref b)]) : W p l e room_1 (s.setDrawn d0) m #[Value.ref b] below meth c H [] cells slots (lw_Z below #[Value.ref b] s) (F0 m 802 ls []) := by
  obtain ⟨hfl, C0, hKL, hXp, hNc⟩ := hc
  obtain ⟨hx, hb, hr, hml, hown, hts0, hX, hbl, hlocks, hgv⟩ := id C0
  have hts := dr_words (s := s) (fun w h9 => hts0 w (wsL_law_in w h9)) d0
  have hown : (s.setDrawn d0).vm.findClass RL = some m.cls := hown
  have hA : ∀ q9 : Nat, s.heap.size ≤ q9 → lwA s q9 := fun _ h9 => h9
  have hbA : ¬ lwA s b := Nat.not_le.mpr hbl
  obtain ⟨hI, hAg, hP, hD, hS⟩ := hst
  have hX := va_X.moved (u := s) (U := s.setDrawn d0) (Vm.Alike.refl s.vm) hX
  have hKL0 := hKL
  have hKL := hKL.dr d0
  have hK := hKL.kk
  have hXp := hXp.dr d0
  have hNc := hNc.dr d0
  have hB1 : n ≤ 120 := hI.1.1
  have hB2 : nd ≤ 20 := hI.1.2.1
  have hB3 : dr ≤ n := hI.2.2.1
  refine lv_aload_n hx hb dL_law_802 rfl (lv_at hl 3 rfl) ?_
  refine rd_VD (q := (RX0, TX0, 15)) (ci := 0) (q0 := 0) (As := []) (rest := []) hd0 ⟨hx, hb, hml, hown, hts⟩ (mX0_mean l D cy h a R nd n dr fl (by omega) (by omega) (by omega)) (cwV 0 hts gL_law_X0_mean rfl rfl rfl (by decide +kernel) ⟨Nat.le_of_ble_eq_true rfl, Nat.le_of_ble_eq_true rfl⟩) hP hS (hP.sub (ws' := cC h a cy R nd n dr fl) [0, 1, 2, 3, 4, 5, 6, 7, 8, 9, 10, 11] rfl) hK rfl rfl rfl hl.1 rfl (Nat.le_of_ble_eq_true rfl) dL_law_803 (rm_c (by omega)) (rm_s (by omega)) (fun r1 d1 H locs hr1 hd1 hP hS => ?_)
  have hts := dr_words (s := s) (fun w h9 => hts0 w (wsL_law_in w h9)) d1
  have hown : (s.setDrawn d1).vm.findClass RL = some m.cls := hown
  have hK := (hKL0.dr d1).kk
  refine lv_dstore (lv' := [(5, .double r1), (4, .int (nI i)), (3, .ref o), (2, .ref mo), (1, .ref h), (0, .ref b)]) hx hb dL_law_806 hl (by decide) rfl (fun ls hl => ?_)
  refine lv_aload_n hx hb dL_law_808 rfl (lv_at hl 3 rfl) ?_
  refine wr_VD (q := (RX2, TX2, 5)) (ci := 2) (q0 := 10) (ws0' := cC h a cy R nd n dr fl ++ [(o, .inl (ly, 1, .inr (.inl g)))] ++ cW q bq cy M n dr an fi ba mo 0 nd fl q2 b2 M2 n2 dr2 an2 fi2 ba2) (As := []) (rest := []) hd1 ⟨hx, hb, hml, hown, hts⟩ (fun sz => mX2_mean l D cy q bq M n dr an fi ba mo th nd fl q2 (by omega) (by omega) (by omega) sz) (cwV 0 hts gL_law_X2_mean rfl rfl rfl (by decide +kernel) ⟨Nat.le_of_ble_eq_true rfl, Nat.le_of_ble_eq_true rfl⟩) hP hK hD hS hA [13, 14, 15, 16, 17, 18, 19, 20, 21, 22, 23] [0, 1, 2, 3, 4, 5, 6, 7, 8, 9, 10, 11, 12, 24, 25, 26, 27, 28, 29, 30, 31, 32, 33] [0, 1, 2, 3, 4, 5, 6, 7, 8, 9, 10, 11, 12, 23, 24, 25, 26, 27, 28, 29, 30, 31, 32, 33, 13, 14, 15, 16, 17, 18, 19, 20, 21, 22] rfl rfl rfl (by decide) rfl rfl rfl rfl rfl rfl rfl hl.1 rfl (Nat.le_of_ble_eq_true rfl) dL_law_809 (rm_c (by omega)) (rm_s (by omega)) (fun r2 d2 H locs hr2 hd2 hP hD hS => ?_)
  rw [hAg 0 (by decide) (by decide)] at hr2
  have hdc := dc_cases hr1 hr2
  refine lv_dstore (lv' := [(7, .double r2), (5, .double r1), (4, .int (nI i)), (3, .ref o), (2, .ref mo), (1, .ref h), (0, .ref b)]) hx hb dL_law_812 hl (by decide) rfl (fun ls hl => ?_)
  refine lv_dload hx hb dL_law_814 (lv_at hl 1 rfl) ?_
  refine lv_dload hx hb dL_law_816 (lv_at hl 0 rfl) ?_
  refine lv_dcmp hx hb dL_law_818 ?_
  refine lv_if_eq (tgt := 840) hx hb dL_law_819 (by decide) (fun _ => ?_) (fun cn => ?_)
  · refine lv_goto (tgt := 857) hx hb dL_law_840 (by decide) ?_
    exact hk R M M2 nd n dr n2 dr2 fl an fi ba 0 an2 fi2 ba2 g H _ d2 ls _ _ ⟨hI, hAg, hP, hD, hS⟩ hd2 (by omega) (by omega) (lv_sub hl [2, 3, 4, 5, 6] rfl)
  · obtain ⟨z1, z2⟩ := hdc.resolve_left cn
    refine lv_dload hx hb dL_law_822 (lv_at hl 1 rfl) ?_
    refine lv_dload hx hb dL_law_824 (lv_at hl 1 rfl) ?_
    refine lv_dcmp hx hb dL_law_826 ?_
    refine lv_if_eq (tgt := 838) hx hb dL_law_827 (by decide) (fun cq => absurd cq z1) (fun _ => ?_)
    refine lv_dload hx hb dL_law_830 (lv_at hl 0 rfl) ?_
    refine lv_dload hx hb dL_law_832 (lv_at hl 0 rfl) ?_
    refine lv_dcmp hx hb dL_law_834 ?_
    refine lv_if_ne (tgt := 840) hx hb dL_law_835 (by decide) (fun _ => ?_) (fun cq => absurd cq z2)
    refine lv_goto (tgt := 857) hx hb dL_law_840 (by decide) ?_
    exact hk R M M2 nd n dr n2 dr2 fl an fi ba 0 an2 fi2 ba2 g H _ d2 ls _ _ ⟨hI, hAg, hP, hD, hS⟩ hd2 (by omega) (by omega) (lv_sub hl [2, 3, 4, 5, 6] rfl)

set_option maxHeartbeats 4000000 in
set_option maxRecDepth 100000 in
theorem lc_digest {p : Program} {l : Launch} {e : Env} {s : State} {m : MethodId} {below : List Frame} {meth : Method} {c : Code} {b L : Nat} {xs : Nat → Int32} {D : va_G} {cy ly : ClassId} {h : Nat} {a : Nat → Nat} {o q : Nat} {bq : Nat → Nat} {mo q2 : Nat} {b2 : Nat → Nat} (hc : LCtx p l s m meth c b L xs D cy ly) {i cells slots : Nat} (hcs : cells ≤ 520000) (hss : slots ≤ 3700000) (hv1 : vp_in (nI i + 1) L) (hv2 : vp_in (nI i + 2) L) (hv3 : vp_in (nI i + 3) L) (hk : lwK p l e s m below meth c b D cy ly h a o q bq mo q2 b2 i cells slots) {R M M2 : Nat → Nat → Int32} {nd n dr n2 dr2 : Nat} {fl an fi ba th an2 fi2 ba2 : Int32} {g : Nat → Int64} {H : Heap} {d0 : Drawn} {ls : Array Slot} (hst : LSt s D cy ly h a o q bq mo q2 b2 R M M2 nd n dr n2 dr2 fl an fi ba th an2 fi2 ba2 g H []) (hd0 : s.drawn.sameBut d0 lw_cs) (hl : lv_has ls 9 [(4, .int (nI i)), (3, .ref o), (2, .ref mo), (1, .ref h), (0, .ref b)]) : W p l e room_1 (s.setDrawn d0) m #[Value.ref b] below meth c H [] cells slots (lw_Z below #[Value.ref b] s) (F0 m 843 ls []) := by
  obtain ⟨hfl, C0, hKL, hXp, hNc⟩ := hc
  obtain ⟨hx, hb, hr, hml, hown, hts0, hX, hbl, hlocks, hgv⟩ := id C0
  have hts := dr_words (s := s) (fun w h9 => hts0 w (wsL_law_in w h9)) d0
  have hown : (s.setDrawn d0).vm.findClass RL = some m.cls := hown
  have hA : ∀ q9 : Nat, s.heap.size ≤ q9 → lwA s q9 := fun _ h9 => h9
  have hbA : ¬ lwA s b := Nat.not_le.mpr hbl
  obtain ⟨hI, hAg, hP, hD, hS⟩ := hst
  have hX := va_X.moved (u := s) (U := s.setDrawn d0) (Vm.Alike.refl s.vm) hX
  have hKL0 := hKL
  have hKL := hKL.dr d0
  have hK := hKL.kk
  have hXp := hXp.dr d0
  have hNc := hNc.dr d0
  have hB1 : n ≤ 120 := hI.1.1
  have hB2 : nd ≤ 20 := hI.1.2.1
  have hB3 : dr ≤ n := hI.2.2.1
  refine lv_aload_n hx hb dL_law_843 rfl (lv_at hl 3 rfl) ?_
  refine rd_VL (q := (RX0, TX0, 15)) (ci := 0) (q0 := 0) (As := []) (rest := []) ⟨hx, hb, hml, hown, hts⟩ (mX0_digest l D cy h a R nd n dr fl (by omega) (by omega) (by omega)) (cwV 0 hts gL_law_X0_digest rfl rfl rfl (by decide +kernel) ⟨Nat.le_of_ble_eq_true rfl, Nat.le_of_ble_eq_true rfl⟩) (hP.sub (ws' := cC h a cy R nd n dr fl) [0, 1, 2, 3, 4, 5, 6, 7, 8, 9, 10, 11] rfl) hK rfl rfl rfl hl.1 rfl (Nat.le_of_ble_eq_true rfl) dL_law_844 (rm_c (by omega)) (rm_s (by omega)) ?_
  refine lv_aload_n hx hb dL_law_847 rfl (lv_at hl 2 rfl) ?_
  refine wn_VL (q := (RX2, TX2, 5)) (ci := 2) (q0 := 10) (ws0' := cC h a cy R nd n dr fl ++ [(o, .inl (ly, 1, .inr (.inl g)))] ++ cW q bq cy M n dr an fi ba mo 0 nd fl q2 b2 M2 n2 dr2 an2 fi2 ba2) (As := []) (rest := [.long (digestS R nd n dr fl)]) ⟨hx, hb, hml, hown, hts⟩ (fun sz => mX2_digest l D cy q bq M n dr an fi ba mo th nd fl q2 (by omega) (by omega) (by omega) sz) (cwV 0 hts gL_law_X2_digest rfl rfl rfl (by decide +kernel) ⟨Nat.le_of_ble_eq_true rfl, Nat.le_of_ble_eq_true rfl⟩) hP hK hD hS hA [13, 14, 15, 16, 17, 18, 19, 20, 21, 22, 23] [0, 1, 2, 3, 4, 5, 6, 7, 8, 9, 10, 11, 12, 24, 25, 26, 27, 28, 29, 30, 31, 32, 33] [0, 1, 2, 3, 4, 5, 6, 7, 8, 9, 10, 11, 12, 23, 24, 25, 26, 27, 28, 29, 30, 31, 32, 33, 13, 14, 15, 16, 17, 18, 19, 20, 21, 22] rfl rfl rfl (by decide) rfl rfl rfl rfl rfl rfl rfl hl.1 rfl (Nat.le_of_ble_eq_true rfl) dL_law_848 (rm_c (by omega)) (rm_s (by omega)) (fun H locs hP hD hS => ?_)
  refine W.lcmp hx hb dL_law_851 ?_
  refine lv_if_eq (tgt := 857) hx hb dL_law_852 (by decide) (fun _ => ?_) (fun cq => absurd (by rw [digest_eq hI hAg]; exact lgc_self _) cq)
  exact hk R M M2 nd n dr n2 dr2 fl an fi ba 0 an2 fi2 ba2 g H _ d0 ls _ _ ⟨hI, hAg, hP, hD, hS⟩ hd0 (by omega) (by omega) (lv_sub hl [0, 1, 2, 3, 4] rfl)
end LWD
