set_option maxRecDepth 100000 in
theorem inX2_begin_2 : ∀ w ∈ wsX20, w ∈ wsX2_begin := by decide +kernel

set_option maxRecDepth 100000 in
theorem inX2_begin_1 : ∀ w ∈ wsX10, w ∈ wsX2_begin := by decide +kernel

set_option maxHeartbeats 4000000 in
set_option maxRecDepth 100000 in
theorem mX2_begin_ok (l : Launch) (D : va_G) (cy : ClassId) (q : Nat) (b : Nat → Nat) (M : Nat → Nat → Int32) (n dr : Nat) (an fi ba : Int32) (mo : Nat) (th : Int32) (nd : Nat) (fl : Int32) (tq : Nat)  (hnd : nd < 1000000) (hn : n ≤ 120) (hdr : dr ≤ 120) (hout : beginT M n nd = 0) (hn1 : n < 120) (sz : Nat) : WrI l yX2_begin wsX2_begin 4 89 [.ref mo] D cy (cSM q b cy M n dr an fi ba mo th nd fl q tq) (cSM q b cy (chalkM M n (nI nd) 0) (n + 1) dr an fi ba mo 0 (nd + 1) fl q tq) sz (nI nd) := by
  refine Met.ofW (cc := cX2_begin) (maxL := 1) (ret := (some .int)) (by decide) rfl ?_
  intro p e s m args below meth c s₁ B hml hv
  obtain ⟨rfl, hsz, hP, hK, hD0⟩ := hv
  have hx := B.exec
  have hb := B.bytes
  have hr := B.returns
  have hts := atoms_spec (ws := wsX2_begin) B.pre
  have hown : s.vm.findClass RX2 = some m.cls := findClass_of_methodNamed B.named
  have hlocks := B.notSynchronized
  subst hsz
  have hD := hD0.self (sz := s.heap.size)
  generalize hAe : va_A (cSM q b cy M n dr an fi ba mo th nd fl q tq) s.heap.size = A at hD ⊢
  have hA : ∀ q : Nat, s.heap.size ≤ q → A q := fun q h => by rw [← hAe]; exact Or.inr h
  have hS : va_S A s.heap s.heap [] := va_S.rf
  have hl := lv_entry ([.ref mo]) (n := 1) (Nat.le_of_ble_eq_true rfl)
  rw [lg_entry_eq]
  generalize (lg_sl ([.ref mo]) ++ List.replicate (1 - (lg_sl ([.ref mo])).length) Slot.unset).toArray = ls at hl ⊢
  have hl : lv_has ls 1 [(0, .ref mo)] := hl
  refine lv_aload_n hx hb dX2_begin_0 rfl (lv_at hl 0 rfl) ?_
  refine lv_iconst (v := 0) hx hb dX2_begin_1 (by decide) ?_
  refine va_put (D := D) (ci := 2) (v := .int 0) (ty := .int) (C := RX2) (T := TX2) (N := 5) hx hb hts inX2_begin_2 tyX2 tyX2_ok nmX2 hown hK.1 hP hD hS 10 rfl rfl 0 (by decide) (hts (.fieldLink RX2 21 "ChalkSlateModel" "thrown" "I") (by decide +kernel)) (fun _ h9 => h9) rfl (by decide +kernel) rfl rfl (Nat.le_of_ble_eq_true rfl) dX2_begin_2 (fun H locs hP hD hS => ?_)
  have hP : va_P D vwCl (cSM q b cy M n dr an fi ba mo 0 nd fl q tq) H := hP
  have hD : va_D A (cSM q b cy M n dr an fi ba mo 0 nd fl q tq) := hD
  refine lv_aload_n hx hb dX2_begin_5 rfl (lv_at hl 0 rfl) ?_
  refine va_get (D := D) (ci := 2) (v := .int (nI nd)) (C := RX2) (T := TX2) (N := 5) hx hb hts inX2_begin_2 hown hK.1 hP 10 rfl rfl 1 (by decide) (hts (.fieldLink RX2 29 "ChalkSlateModel" "dishes" "I") (by decide +kernel)) (fun _ h9 => h9) rfl dX2_begin_6 ?_
  refine lv_bipush (v := 20) hx hb dX2_begin_9 (by decide) ?_
  refine lv_icmp_eq (tgt := 25) hx hb dX2_begin_11 (by decide) (fun c1 => ?_) (fun c1 => ?_)
  · refine lv_aload_n hx hb dX2_begin_25 rfl (lv_at hl 0 rfl) ?_
    refine lv_iconst (v := 1) hx hb dX2_begin_26 (by decide) ?_
    refine wr_VI (q := (RX2, TX2, 5)) (ci := 2) (q0 := 10) (ws0' := cSM q b cy M n dr an fi ba mo 1 nd fl q tq) (As := [.int 1]) (rest := []) ⟨hx, hb, hml, hown, hts⟩ (fun sz => mX2_no l D cy q b M n dr an fi ba mo 0 nd fl tq 1 (by omega) (by omega) (by omega)  sz) (cwV 1 hts gX2_begin_X2_no rfl rfl rfl (by decide +kernel) ⟨Nat.le_of_ble_eq_true rfl, Nat.le_of_ble_eq_true rfl⟩) hP hK hD hS hA [0, 1, 2, 3, 4, 5, 6, 7, 8, 9, 10] [] [0, 1, 2, 3, 4, 5, 6, 7, 8, 9, 10] rfl rfl rfl (by decide) rfl rfl rfl rfl rfl rfl rfl hl.1 rfl (Nat.le_of_ble_eq_true rfl) dX2_begin_27 (Nat.zero_le _) (Nat.zero_le _) (fun H locs hP hD hS => ?_)
    exact absurd (show (0 : Int32) = 1 by rw [← hout, beginT, if_pos c1]) (by decide)
  · refine lv_aload_n hx hb dX2_begin_14 rfl (lv_at hl 0 rfl) ?_
    refine va_get (D := D) (ci := 2) (v := .ref q) (C := RX2) (T := TX2) (N := 5) hx hb hts inX2_begin_2 hown hK.1 hP 10 rfl rfl 3 (by decide) (hts (.fieldLink RX2 12 "ChalkSlateModel" "s" "LChalkSlateModel$State;") (by decide +kernel)) (fun _ h9 => h9) rfl dX2_begin_15 ?_
    refine rd_V (q := (RX1, TX1, 15)) (ci := 1) (q0 := 0) (As := []) (rest := []) ⟨hx, hb, hml, hown, hts⟩ (mX1_room l D cy q b M n dr an fi ba mo 0 nd fl q tq  (by omega) (by omega) (by omega) ) (cwV 0 hts gX2_begin_X1_room rfl rfl rfl (by decide +kernel) ⟨Nat.le_of_ble_eq_true rfl, Nat.le_of_ble_eq_true rfl⟩) hP hK rfl rfl rfl hl.1 rfl (Nat.le_of_ble_eq_true rfl) dX2_begin_18 (Nat.zero_le _) (Nat.zero_le _) ?_
    refine lv_iconst (v := 2) hx hb dX2_begin_21 (by decide) ?_
    refine lv_icmp_ge (tgt := 31) hx hb dX2_begin_22 (by decide) (fun c2 => ?_) (fun c2 => ?_)
    · refine lv_aload_n hx hb dX2_begin_31 rfl (lv_at hl 0 rfl) ?_
      refine va_get (D := D) (ci := 2) (v := .ref q) (C := RX2) (T := TX2) (N := 5) hx hb hts inX2_begin_2 hown hK.1 hP 10 rfl rfl 3 (by decide) (hts (.fieldLink RX2 12 "ChalkSlateModel" "s" "LChalkSlateModel$State;") (by decide +kernel)) (fun _ h9 => h9) rfl dX2_begin_32 ?_
      refine lv_aload_n hx hb dX2_begin_35 rfl (lv_at hl 0 rfl) ?_
      refine va_get (D := D) (ci := 2) (v := .int (nI nd)) (C := RX2) (T := TX2) (N := 5) hx hb hts inX2_begin_2 hown hK.1 hP 10 rfl rfl 1 (by decide) (hts (.fieldLink RX2 29 "ChalkSlateModel" "dishes" "I") (by decide +kernel)) (fun _ h9 => h9) rfl dX2_begin_36 ?_
      refine lv_iconst (v := 0) hx hb dX2_begin_39 (by decide) ?_
      refine wr_VV (q := (RX1, TX1, 15)) (ci := 1) (q0 := 0) (ws0' := cSM q b cy (chalkM M n (nI nd) 0) (n + 1) dr an fi ba mo 0 nd fl q tq) (As := [.int (nI nd), .int 0]) (rest := []) ⟨hx, hb, hml, hown, hts⟩ (fun sz => mX1_chalk l D cy q b M n dr an fi ba mo 0 nd fl q tq (nI nd) 0 (by omega) (by omega) (by omega)  sz) (cwV 2 hts gX2_begin_X1_chalk rfl rfl rfl (by decide +kernel) ⟨Nat.le_of_ble_eq_true rfl, Nat.le_of_ble_eq_true rfl⟩) hP hK hD hS hA [0, 1, 2, 3, 4, 5, 6, 7, 8, 9, 10] [] [0, 1, 2, 3, 4, 5, 6, 7, 8, 9, 10] rfl rfl rfl (by decide) rfl rfl rfl rfl rfl rfl rfl hl.1 rfl (Nat.le_of_ble_eq_true rfl) dX2_begin_40 (Nat.zero_le _) (Nat.zero_le _) (fun H locs hP hD hS => ?_)
      refine lv_aload_n hx hb dX2_begin_43 rfl (lv_at hl 0 rfl) ?_
      refine lv_dup hx hb dX2_begin_44 rfl ?_
      refine va_get (D := D) (ci := 2) (v := .int (nI nd)) (C := RX2) (T := TX2) (N := 5) hx hb hts inX2_begin_2 hown hK.1 hP 10 rfl rfl 1 (by decide) (hts (.fieldLink RX2 29 "ChalkSlateModel" "dishes" "I") (by decide +kernel)) (fun _ h9 => h9) rfl dX2_begin_45 ?_
      refine lv_iconst (v := 1) hx hb dX2_begin_48 (by decide) ?_
      refine lv_iadd hx hb dX2_begin_49 ?_
      rw [show ((nI nd) + 1) = nI (nd + 1) from (nI_succ nd).symm]
      refine va_put (D := D) (ci := 2) (v := .int (nI (nd + 1))) (ty := .int) (C := RX2) (T := TX2) (N := 5) hx hb hts inX2_begin_2 tyX2 tyX2_ok nmX2 hown hK.1 hP hD hS 10 rfl rfl 1 (by decide) (hts (.fieldLink RX2 29 "ChalkSlateModel" "dishes" "I") (by decide +kernel)) (fun _ h9 => h9) rfl (by decide +kernel) rfl rfl (Nat.le_of_ble_eq_true rfl) dX2_begin_50 (fun H locs hP hD hS => ?_)
      have hP : va_P D vwCl (cSM q b cy (chalkM M n (nI nd) 0) (n + 1) dr an fi ba mo 0 (nd + 1) fl q tq) H := hP
      have hD : va_D A (cSM q b cy (chalkM M n (nI nd) 0) (n + 1) dr an fi ba mo 0 (nd + 1) fl q tq) := hD
      refine lv_aload_n hx hb dX2_begin_53 rfl (lv_at hl 0 rfl) ?_
      refine va_get (D := D) (ci := 2) (v := .int (nI (nd + 1))) (C := RX2) (T := TX2) (N := 5) hx hb hts inX2_begin_2 hown hK.1 hP 10 rfl rfl 1 (by decide) (hts (.fieldLink RX2 29 "ChalkSlateModel" "dishes" "I") (by decide +kernel)) (fun _ h9 => h9) rfl dX2_begin_54 ?_
      refine lv_iconst (v := 1) hx hb dX2_begin_57 (by decide) ?_
      refine lv_isub hx hb dX2_begin_58 ?_
      rw [nI_pred nd]
      exact W.iret (v := nI nd) hx hb hr (fun t ht hW => ⟨⟨(nI nd), (), rfl, rfl, by show va_P D vwCl _ t.heap; rw [ht]; exact hP⟩, hS.F ht⟩) hS.2.2 dX2_begin_59
    · refine lv_aload_n hx hb dX2_begin_25 rfl (lv_at hl 0 rfl) ?_
      refine lv_iconst (v := 1) hx hb dX2_begin_26 (by decide) ?_
      refine wr_VI (q := (RX2, TX2, 5)) (ci := 2) (q0 := 10) (ws0' := cSM q b cy M n dr an fi ba mo 1 nd fl q tq) (As := [.int 1]) (rest := []) ⟨hx, hb, hml, hown, hts⟩ (fun sz => mX2_no l D cy q b M n dr an fi ba mo 0 nd fl tq 1 (by omega) (by omega) (by omega)  sz) (cwV 1 hts gX2_begin_X2_no rfl rfl rfl (by decide +kernel) ⟨Nat.le_of_ble_eq_true rfl, Nat.le_of_ble_eq_true rfl⟩) hP hK hD hS hA [0, 1, 2, 3, 4, 5, 6, 7, 8, 9, 10] [] [0, 1, 2, 3, 4, 5, 6, 7, 8, 9, 10] rfl rfl rfl (by decide) rfl rfl rfl rfl rfl rfl rfl hl.1 rfl (Nat.le_of_ble_eq_true rfl) dX2_begin_27 (Nat.zero_le _) (Nat.zero_le _) (fun H locs hP hD hS => ?_)
      exact absurd (show (0 : Int32) = 1 by rw [← hout, beginT, if_neg c1, if_neg c2]) (by decide)

set_option maxHeartbeats 4000000 in
set_option maxRecDepth 100000 in
theorem mX2_begin_no (l : Launch) (D : va_G) (cy : ClassId) (q : Nat) (b : Nat → Nat) (M : Nat → Nat → Int32) (n dr : Nat) (an fi ba : Int32) (mo : Nat) (th : Int32) (nd : Nat) (fl : Int32) (tq : Nat)  (hnd : nd < 1000000) (hn : n ≤ 120) (hdr : dr ≤ 120) (k9 : Int32) (hout : beginT M n nd = k9) (hk9 : ¬ k9 = 0) (sz : Nat) : WrI l yX2_begin wsX2_begin 4 89 [.ref mo] D cy (cSM q b cy M n dr an fi ba mo th nd fl q tq) (cSM q b cy M n dr an fi ba mo k9 nd fl q tq) sz (0) := by
  refine Met.ofW (cc := cX2_begin) (maxL := 1) (ret := (some .int)) (by decide) rfl ?_
  intro p e s m args below meth c s₁ B hml hv
  obtain ⟨rfl, hsz, hP, hK, hD0⟩ := hv
  have hx := B.exec
  have hb := B.bytes
  have hr := B.returns
  have hts := atoms_spec (ws := wsX2_begin) B.pre
  have hown : s.vm.findClass RX2 = some m.cls := findClass_of_methodNamed B.named
  have hlocks := B.notSynchronized
  subst hsz
  have hD := hD0.self (sz := s.heap.size)
  generalize hAe : va_A (cSM q b cy M n dr an fi ba mo th nd fl q tq) s.heap.size = A at hD ⊢
  have hA : ∀ q : Nat, s.heap.size ≤ q → A q := fun q h => by rw [← hAe]; exact Or.inr h
  have hS : va_S A s.heap s.heap [] := va_S.rf
  have hl := lv_entry ([.ref mo]) (n := 1) (Nat.le_of_ble_eq_true rfl)
  rw [lg_entry_eq]
  generalize (lg_sl ([.ref mo]) ++ List.replicate (1 - (lg_sl ([.ref mo])).length) Slot.unset).toArray = ls at hl ⊢
  have hl : lv_has ls 1 [(0, .ref mo)] := hl
  refine lv_aload_n hx hb dX2_begin_0 rfl (lv_at hl 0 rfl) ?_
  refine lv_iconst (v := 0) hx hb dX2_begin_1 (by decide) ?_
  refine va_put (D := D) (ci := 2) (v := .int 0) (ty := .int) (C := RX2) (T := TX2) (N := 5) hx hb hts inX2_begin_2 tyX2 tyX2_ok nmX2 hown hK.1 hP hD hS 10 rfl rfl 0 (by decide) (hts (.fieldLink RX2 21 "ChalkSlateModel" "thrown" "I") (by decide +kernel)) (fun _ h9 => h9) rfl (by decide +kernel) rfl rfl (Nat.le_of_ble_eq_true rfl) dX2_begin_2 (fun H locs hP hD hS => ?_)
  have hP : va_P D vwCl (cSM q b cy M n dr an fi ba mo 0 nd fl q tq) H := hP
  have hD : va_D A (cSM q b cy M n dr an fi ba mo 0 nd fl q tq) := hD
  refine lv_aload_n hx hb dX2_begin_5 rfl (lv_at hl 0 rfl) ?_
  refine va_get (D := D) (ci := 2) (v := .int (nI nd)) (C := RX2) (T := TX2) (N := 5) hx hb hts inX2_begin_2 hown hK.1 hP 10 rfl rfl 1 (by decide) (hts (.fieldLink RX2 29 "ChalkSlateModel" "dishes" "I") (by decide +kernel)) (fun _ h9 => h9) rfl dX2_begin_6 ?_
  refine lv_bipush (v := 20) hx hb dX2_begin_9 (by decide) ?_
  refine lv_icmp_eq (tgt := 25) hx hb dX2_begin_11 (by decide) (fun c1 => ?_) (fun c1 => ?_)
  · refine lv_aload_n hx hb dX2_begin_25 rfl (lv_at hl 0 rfl) ?_
    refine lv_iconst (v := 1) hx hb dX2_begin_26 (by decide) ?_
    refine wr_VI (q := (RX2, TX2, 5)) (ci := 2) (q0 := 10) (ws0' := cSM q b cy M n dr an fi ba mo 1 nd fl q tq) (As := [.int 1]) (rest := []) ⟨hx, hb, hml, hown, hts⟩ (fun sz => mX2_no l D cy q b M n dr an fi ba mo 0 nd fl tq 1 (by omega) (by omega) (by omega)  sz) (cwV 1 hts gX2_begin_X2_no rfl rfl rfl (by decide +kernel) ⟨Nat.le_of_ble_eq_true rfl, Nat.le_of_ble_eq_true rfl⟩) hP hK hD hS hA [0, 1, 2, 3, 4, 5, 6, 7, 8, 9, 10] [] [0, 1, 2, 3, 4, 5, 6, 7, 8, 9, 10] rfl rfl rfl (by decide) rfl rfl rfl rfl rfl rfl rfl hl.1 rfl (Nat.le_of_ble_eq_true rfl) dX2_begin_27 (Nat.zero_le _) (Nat.zero_le _) (fun H locs hP hD hS => ?_)
    have hk : k9 = 1 := by rw [← hout, beginT, if_pos c1]
    subst hk
    exact W.iret (v := 0) hx hb hr (fun t ht hW => ⟨⟨0, (), rfl, rfl, by show va_P D vwCl _ t.heap; rw [ht]; exact hP⟩, hS.F ht⟩) hS.2.2 dX2_begin_30
  · refine lv_aload_n hx hb dX2_begin_14 rfl (lv_at hl 0 rfl) ?_
    refine va_get (D := D) (ci := 2) (v := .ref q) (C := RX2) (T := TX2) (N := 5) hx hb hts inX2_begin_2 hown hK.1 hP 10 rfl rfl 3 (by decide) (hts (.fieldLink RX2 12 "ChalkSlateModel" "s" "LChalkSlateModel$State;") (by decide +kernel)) (fun _ h9 => h9) rfl dX2_begin_15 ?_
    refine rd_V (q := (RX1, TX1, 15)) (ci := 1) (q0 := 0) (As := []) (rest := []) ⟨hx, hb, hml, hown, hts⟩ (mX1_room l D cy q b M n dr an fi ba mo 0 nd fl q tq  (by omega) (by omega) (by omega) ) (cwV 0 hts gX2_begin_X1_room rfl rfl rfl (by decide +kernel) ⟨Nat.le_of_ble_eq_true rfl, Nat.le_of_ble_eq_true rfl⟩) hP hK rfl rfl rfl hl.1 rfl (Nat.le_of_ble_eq_true rfl) dX2_begin_18 (Nat.zero_le _) (Nat.zero_le _) ?_
    refine lv_iconst (v := 2) hx hb dX2_begin_21 (by decide) ?_
    refine lv_icmp_ge (tgt := 31) hx hb dX2_begin_22 (by decide) (fun c2 => ?_) (fun c2 => ?_)
    · exact absurd (show k9 = 0 by rw [← hout, beginT, if_neg c1, if_pos c2]) hk9
    · refine lv_aload_n hx hb dX2_begin_25 rfl (lv_at hl 0 rfl) ?_
      refine lv_iconst (v := 1) hx hb dX2_begin_26 (by decide) ?_
      refine wr_VI (q := (RX2, TX2, 5)) (ci := 2) (q0 := 10) (ws0' := cSM q b cy M n dr an fi ba mo 1 nd fl q tq) (As := [.int 1]) (rest := []) ⟨hx, hb, hml, hown, hts⟩ (fun sz => mX2_no l D cy q b M n dr an fi ba mo 0 nd fl tq 1 (by omega) (by omega) (by omega)  sz) (cwV 1 hts gX2_begin_X2_no rfl rfl rfl (by decide +kernel) ⟨Nat.le_of_ble_eq_true rfl, Nat.le_of_ble_eq_true rfl⟩) hP hK hD hS hA [0, 1, 2, 3, 4, 5, 6, 7, 8, 9, 10] [] [0, 1, 2, 3, 4, 5, 6, 7, 8, 9, 10] rfl rfl rfl (by decide) rfl rfl rfl rfl rfl rfl rfl hl.1 rfl (Nat.le_of_ble_eq_true rfl) dX2_begin_27 (Nat.zero_le _) (Nat.zero_le _) (fun H locs hP hD hS => ?_)
      have hk : k9 = 1 := by rw [← hout, beginT, if_neg c1, if_neg c2]
      subst hk
      exact W.iret (v := 0) hx hb hr (fun t ht hW => ⟨⟨0, (), rfl, rfl, by show va_P D vwCl _ t.heap; rw [ht]; exact hP⟩, hS.F ht⟩) hS.2.2 dX2_begin_30

set_option maxRecDepth 100000 in
theorem inX2_cook_2 : ∀ w ∈ wsX20, w ∈ wsX2_cook := by decide +kernel

set_option maxRecDepth 100000 in
theorem inX2_cook_1 : ∀ w ∈ wsX10, w ∈ wsX2_cook := by decide +kernel

set_option maxHeartbeats 4000000 in
set_option maxRecDepth 100000 in
theorem mX2_cook_ok (l : Launch) (D : va_G) (cy : ClassId) (q : Nat) (b : Nat → Nat) (M : Nat → Nat → Int32) (n dr : Nat) (an fi ba : Int32) (mo : Nat) (th : Int32) (nd : Nat) (fl : Int32) (tq : Nat) (d u x : Int32) (hnd : nd < 1000000) (hn : n ≤ 120) (hdr : dr ≤ 120) (hout : cookT M n nd d u x = 0) (hn1 : n < 120) (sz : Nat) : WrI l yX2_cook wsX2_cook 4 89 [.ref mo, .int d, .int u, .int x] D cy (cSM q b cy M n dr an fi ba mo th nd fl q tq) (cSM q b cy (spoonsM M n d 1 u x (-1)) (n + 1) dr an fi ba mo 0 nd fl q tq) sz (M 0 u.toNatClampNeg) := by
  refine Met.ofW (cc := cX2_cook) (maxL := 6) (ret := (some .int)) (by decide) rfl ?_
  intro p e s m args below meth c s₁ B hml hv
  obtain ⟨rfl, hsz, hP, hK, hD0⟩ := hv
  have hx := B.exec
  have hb := B.bytes
  have hr := B.returns
  have hts := atoms_spec (ws := wsX2_cook) B.pre
  have hown : s.vm.findClass RX2 = some m.cls := findClass_of_methodNamed B.named
  have hlocks := B.notSynchronized
  subst hsz
  have hD := hD0.self (sz := s.heap.size)
  generalize hAe : va_A (cSM q b cy M n dr an fi ba mo th nd fl q tq) s.heap.size = A at hD ⊢
  have hA : ∀ q : Nat, s.heap.size ≤ q → A q := fun q h => by rw [← hAe]; exact Or.inr h
  have hS : va_S A s.heap s.heap [] := va_S.rf
  have hl := lv_entry ([.ref mo, .int d, .int u, .int x]) (n := 6) (Nat.le_of_ble_eq_true rfl)
  rw [lg_entry_eq]
  generalize (lg_sl ([.ref mo, .int d, .int u, .int x]) ++ List.replicate (6 - (lg_sl ([.ref mo, .int d, .int u, .int x])).length) Slot.unset).toArray = ls at hl ⊢
  have hl : lv_has ls 6 [(0, .ref mo), (1, .int d), (2, .int u), (3, .int x)] := hl
  refine lv_aload_n hx hb dX2_cook_0 rfl (lv_at hl 0 rfl) ?_
  refine lv_iconst (v := 0) hx hb dX2_cook_1 (by decide) ?_
  refine va_put (D := D) (ci := 2) (v := .int 0) (ty := .int) (C := RX2) (T := TX2) (N := 5) hx hb hts inX2_cook_2 tyX2 tyX2_ok nmX2 hown hK.1 hP hD hS 10 rfl rfl 0 (by decide) (hts (.fieldLink RX2 21 "ChalkSlateModel" "thrown" "I") (by decide +kernel)) (fun _ h9 => h9) rfl (by decide +kernel) rfl rfl (Nat.le_of_ble_eq_true rfl) dX2_cook_2 (fun H locs hP hD hS => ?_)
  have hP : va_P D vwCl (cSM q b cy M n dr an fi ba mo 0 nd fl q tq) H := hP
  have hD : va_D A (cSM q b cy M n dr an fi ba mo 0 nd fl q tq) := hD
  refine lv_aload_n hx hb dX2_cook_5 rfl (lv_at hl 0 rfl) ?_
  refine lv_iload_n hx hb dX2_cook_6 rfl (lv_at hl 1 rfl) ?_
  refine rd_V (q := (RX2, TX2, 5)) (ci := 2) (q0 := 10) (As := [.int d]) (rest := []) ⟨hx, hb, hml, hown, hts⟩ (mX2_isDish l D cy q b M n dr an fi ba mo 0 nd fl tq d (by omega) (by omega) (by omega) ) (cwV 1 hts gX2_cook_X2_isDish rfl rfl rfl (by decide +kernel) ⟨Nat.le_of_ble_eq_true rfl, Nat.le_of_ble_eq_true rfl⟩) hP hK rfl rfl rfl hl.1 rfl (Nat.le_of_ble_eq_true rfl) dX2_cook_7 (Nat.zero_le _) (Nat.zero_le _) ?_
  refine lv_if_eq (tgt := 20) hx hb dX2_cook_10 (by decide) (fun c1 => ?_) (fun c1 => ?_)
  · refine lv_aload_n hx hb dX2_cook_20 rfl (lv_at hl 0 rfl) ?_
    refine lv_iconst (v := 1) hx hb dX2_cook_21 (by decide) ?_
    refine wr_VI (q := (RX2, TX2, 5)) (ci := 2) (q0 := 10) (ws0' := cSM q b cy M n dr an fi ba mo 1 nd fl q tq) (As := [.int 1]) (rest := []) ⟨hx, hb, hml, hown, hts⟩ (fun sz => mX2_no l D cy q b M n dr an fi ba mo 0 nd fl tq 1 (by omega) (by omega) (by omega)  sz) (cwV 1 hts gX2_cook_X2_no rfl rfl rfl (by decide +kernel) ⟨Nat.le_of_ble_eq_true rfl, Nat.le_of_ble_eq_true rfl⟩) hP hK hD hS hA [0, 1, 2, 3, 4, 5, 6, 7, 8, 9, 10] [] [0, 1, 2, 3, 4, 5, 6, 7, 8, 9, 10] rfl rfl rfl (by decide) rfl rfl rfl rfl rfl rfl rfl hl.1 rfl (Nat.le_of_ble_eq_true rfl) dX2_cook_22 (Nat.zero_le _) (Nat.zero_le _) (fun H locs hP hD hS => ?_)
    exact absurd (show (0 : Int32) = 1 by rw [← hout, cookT, if_pos c1]) (by decide)
  · refine lv_iload_n hx hb dX2_cook_13 rfl (lv_at hl 2 rfl) ?_
    refine rd_S (As := [.int u]) (rest := []) ⟨hx, hb, hml, hown, hts⟩ (mX2_isPot l D cy u) (va_cwS 1 hts gX2_cook_X2_isPot rfl rfl rfl (by decide +kernel) ⟨Nat.le_of_ble_eq_true rfl, Nat.le_of_ble_eq_true rfl⟩) (hP.sub (ws' := []) [] rfl) hK rfl hl.1 rfl (Nat.le_of_ble_eq_true rfl) dX2_cook_14 (Nat.zero_le _) (Nat.zero_le _) ?_
    refine lv_if_ne (tgt := 26) hx hb dX2_cook_17 (by decide) (fun c2 => ?_) (fun c2 => ?_)
    · refine lv_iload_n hx hb dX2_cook_26 rfl (lv_at hl 3 rfl) ?_
      refine lv_iconst (v := 0) hx hb dX2_cook_27 (by decide) ?_
      refine lv_sipush (v := 999) hx hb dX2_cook_28 (by decide) ?_
      refine rd_S (As := [.int x, .int 0, .int 999]) (rest := []) ⟨hx, hb, hml, hown, hts⟩ (mX2_isIn l D cy x 0 999) (va_cwS 3 hts gX2_cook_X2_isIn rfl rfl rfl (by decide +kernel) ⟨Nat.le_of_ble_eq_true rfl, Nat.le_of_ble_eq_true rfl⟩) (hP.sub (ws' := []) [] rfl) hK rfl hl.1 rfl (Nat.le_of_ble_eq_true rfl) dX2_cook_31 (Nat.zero_le _) (Nat.zero_le _) ?_
      refine lv_if_ne (tgt := 43) hx hb dX2_cook_34 (by decide) (fun c3 => ?_) (fun c3 => ?_)
      · refine lv_aload_n hx hb dX2_cook_43 rfl (lv_at hl 0 rfl) ?_
        refine va_get (D := D) (ci := 2) (v := .ref q) (C := RX2) (T := TX2) (N := 5) hx hb hts inX2_cook_2 hown hK.1 hP 10 rfl rfl 3 (by decide) (hts (.fieldLink RX2 12 "ChalkSlateModel" "s" "LChalkSlateModel$State;") (by decide +kernel)) (fun _ h9 => h9) rfl dX2_cook_44 ?_
        refine lv_iload_n hx hb dX2_cook_47 rfl (lv_at hl 2 rfl) ?_
        refine rd_V (q := (RX1, TX1, 15)) (ci := 1) (q0 := 0) (As := [.int u]) (rest := []) ⟨hx, hb, hml, hown, hts⟩ (mX1_holder l D cy q b M n dr an fi ba mo 0 nd fl q tq u (by omega) (by omega) (by omega) ) (cwV 1 hts gX2_cook_X1_holder rfl rfl rfl (by decide +kernel) ⟨Nat.le_of_ble_eq_true rfl, Nat.le_of_ble_eq_true rfl⟩) hP hK rfl rfl rfl hl.1 rfl (Nat.le_of_ble_eq_true rfl) dX2_cook_48 (Nat.zero_le _) (Nat.zero_le _) ?_
        refine lv_istore (lv' := [(4, .int (holderM M n u nd 0)), (0, .ref mo), (1, .int d), (2, .int u), (3, .int x)]) hx hb dX2_cook_51 hl (by decide) rfl (fun ls hl => ?_)
        refine lv_aload_n hx hb dX2_cook_53 rfl (lv_at hl 1 rfl) ?_
        refine va_get (D := D) (ci := 2) (v := .ref q) (C := RX2) (T := TX2) (N := 5) hx hb hts inX2_cook_2 hown hK.1 hP 10 rfl rfl 3 (by decide) (hts (.fieldLink RX2 12 "ChalkSlateModel" "s" "LChalkSlateModel$State;") (by decide +kernel)) (fun _ h9 => h9) rfl dX2_cook_54 ?_
        refine lv_iload_n hx hb dX2_cook_57 rfl (lv_at hl 2 rfl) ?_
        refine rd_V (q := (RX1, TX1, 15)) (ci := 1) (q0 := 0) (As := [.int d]) (rest := []) ⟨hx, hb, hml, hown, hts⟩ (mX1_is l D cy q b M n dr an fi ba mo 0 nd fl q tq d (by omega) (by omega) (by omega) ) (cwV 1 hts gX2_cook_X1_is rfl rfl rfl (by decide +kernel) ⟨Nat.le_of_ble_eq_true rfl, Nat.le_of_ble_eq_true rfl⟩) hP hK rfl rfl rfl hl.1 rfl (Nat.le_of_ble_eq_true rfl) dX2_cook_58 (Nat.zero_le _) (Nat.zero_le _) ?_
        refine lv_if_ne (tgt := 87) hx hb dX2_cook_61 (by decide) (fun c4 => ?_) (fun c4 => ?_)
        · refine lv_aload_n hx hb dX2_cook_87 rfl (lv_at hl 1 rfl) ?_
          refine lv_iconst (v := 3) hx hb dX2_cook_88 (by decide) ?_
          refine wr_VI (q := (RX2, TX2, 5)) (ci := 2) (q0 := 10) (ws0' := cSM q b cy M n dr an fi ba mo 3 nd fl q tq) (As := [.int 3]) (rest := []) ⟨hx, hb, hml, hown, hts⟩ (fun sz => mX2_no l D cy q b M n dr an fi ba mo 0 nd fl tq 3 (by omega) (by omega) (by omega)  sz) (cwV 1 hts gX2_cook_X2_no rfl rfl rfl (by decide +kernel) ⟨Nat.le_of_ble_eq_true rfl, Nat.le_of_ble_eq_true rfl⟩) hP hK hD hS hA [0, 1, 2, 3, 4, 5, 6, 7, 8, 9, 10] [] [0, 1, 2, 3, 4, 5, 6, 7, 8, 9, 10] rfl rfl rfl (by decide) rfl rfl rfl rfl rfl rfl rfl hl.1 rfl (Nat.le_of_ble_eq_true rfl) dX2_cook_89 (Nat.zero_le _) (Nat.zero_le _) (fun H locs hP hD hS => ?_)
          exact absurd (show (0 : Int32) = 3 by rw [← hout, cookT, if_neg c1, if_neg c2, if_neg c3, if_neg c4]) (by decide)
        · refine lv_iload hx hb dX2_cook_64 (lv_at hl 0 rfl) ?_
          refine lv_iconst (v := (-1)) hx hb dX2_cook_66 (by decide) ?_
          refine lv_icmp_eq (tgt := 76) hx hb dX2_cook_67 (by decide) (fun c5 => ?_) (fun c5 => ?_)
          · refine lv_aload_n hx hb dX2_cook_76 rfl (lv_at hl 1 rfl) ?_
            refine va_get (D := D) (ci := 2) (v := .ref q) (C := RX2) (T := TX2) (N := 5) hx hb hts inX2_cook_2 hown hK.1 hP 10 rfl rfl 3 (by decide) (hts (.fieldLink RX2 12 "ChalkSlateModel" "s" "LChalkSlateModel$State;") (by decide +kernel)) (fun _ h9 => h9) rfl dX2_cook_77 ?_
            refine rd_V (q := (RX1, TX1, 15)) (ci := 1) (q0 := 0) (As := []) (rest := []) ⟨hx, hb, hml, hown, hts⟩ (mX1_room l D cy q b M n dr an fi ba mo 0 nd fl q tq  (by omega) (by omega) (by omega) ) (cwV 0 hts gX2_cook_X1_room rfl rfl rfl (by decide +kernel) ⟨Nat.le_of_ble_eq_true rfl, Nat.le_of_ble_eq_true rfl⟩) hP hK rfl rfl rfl hl.1 rfl (Nat.le_of_ble_eq_true rfl) dX2_cook_80 (Nat.zero_le _) (Nat.zero_le _) ?_
            refine lv_iconst (v := 2) hx hb dX2_cook_83 (by decide) ?_
            refine lv_icmp_ge (tgt := 93) hx hb dX2_cook_84 (by decide) (fun c6 => ?_) (fun c6 => ?_)
            · refine lv_aload_n hx hb dX2_cook_93 rfl (lv_at hl 1 rfl) ?_
              refine va_get (D := D) (ci := 2) (v := .ref q) (C := RX2) (T := TX2) (N := 5) hx hb hts inX2_cook_2 hown hK.1 hP 10 rfl rfl 3 (by decide) (hts (.fieldLink RX2 12 "ChalkSlateModel" "s" "LChalkSlateModel$State;") (by decide +kernel)) (fun _ h9 => h9) rfl dX2_cook_94 ?_
              refine va_getN (D := D) (ci := 1) (v := .ref (b 0)) (C := RX1) (T := TX1) (N := 15) hx hb hts inX2_cook_1 hown hK.1 hP 0 rfl rfl 2 (by decide) (va_Nw.use rfl hK.2.2.2.1) (fun _ h9 => h9) rfl dX2_cook_97 ?_
              refine lv_iload_n hx hb dX2_cook_100 rfl (lv_at hl 3 rfl) ?_
              refine va_iald hx hb hK.1 hP 1 0 rfl rfl (isIn_vp (by decide) c2) dX2_cook_101 ?_
              refine lv_istore (lv' := [(5, .int ((M 0) u.toNatClampNeg)), (4, .int (holderM M n u nd 0)), (0, .ref mo), (1, .int d), (2, .int u), (3, .int x)]) hx hb dX2_cook_102 hl (by decide) rfl (fun ls hl => ?_)
              refine lv_aload_n hx hb dX2_cook_104 rfl (lv_at hl 2 rfl) ?_
              refine va_get (D := D) (ci := 2) (v := .ref q) (C := RX2) (T := TX2) (N := 5) hx hb hts inX2_cook_2 hown hK.1 hP 10 rfl rfl 3 (by decide) (hts (.fieldLink RX2 12 "ChalkSlateModel" "s" "LChalkSlateModel$State;") (by decide +kernel)) (fun _ h9 => h9) rfl dX2_cook_105 ?_
              refine lv_iload_n hx hb dX2_cook_108 rfl (lv_at hl 3 rfl) ?_
              refine lv_iconst (v := 1) hx hb dX2_cook_109 (by decide) ?_
              refine lv_iload_n hx hb dX2_cook_110 rfl (lv_at hl 4 rfl) ?_
              refine lv_iload_n hx hb dX2_cook_111 rfl (lv_at hl 5 rfl) ?_
              refine lv_iconst (v := (-1)) hx hb dX2_cook_112 (by decide) ?_
              refine wr_VV (q := (RX1, TX1, 15)) (ci := 1) (q0 := 0) (ws0' := cSM q b cy (spoonsM M n d 1 u x (-1)) (n + 1) dr an fi ba mo 0 nd fl q tq) (As := [.int d, .int 1, .int u, .int x, .int (-1)]) (rest := []) ⟨hx, hb, hml, hown, hts⟩ (fun sz => mX1_chalk_ l D cy q b M n dr an fi ba mo 0 nd fl q tq d 1 u x (-1) (by omega) (by omega) (by omega) (isIn_vp (by decide) c2) sz) (cwV 5 hts gX2_cook_X1_chalk_ rfl rfl rfl (by decide +kernel) ⟨Nat.le_of_ble_eq_true rfl, Nat.le_of_ble_eq_true rfl⟩) hP hK hD hS hA [0, 1, 2, 3, 4, 5, 6, 7, 8, 9, 10] [] [0, 1, 2, 3, 4, 5, 6, 7, 8, 9, 10] rfl rfl rfl (by decide) rfl rfl rfl rfl rfl rfl rfl hl.1 rfl (Nat.le_of_ble_eq_true rfl) dX2_cook_113 (Nat.zero_le _) (Nat.zero_le _) (fun H locs hP hD hS => ?_)
              refine lv_iload hx hb dX2_cook_116 (lv_at hl 0 rfl) ?_
              exact W.iret (v := (M 0) u.toNatClampNeg) hx hb hr (fun t ht hW => ⟨⟨((M 0) u.toNatClampNeg), (), rfl, rfl, by show va_P D vwCl _ t.heap; rw [ht]; exact hP⟩, hS.F ht⟩) hS.2.2 dX2_cook_118
            · refine lv_aload_n hx hb dX2_cook_87 rfl (lv_at hl 1 rfl) ?_
              refine lv_iconst (v := 3) hx hb dX2_cook_88 (by decide) ?_
              refine wr_VI (q := (RX2, TX2, 5)) (ci := 2) (q0 := 10) (ws0' := cSM q b cy M n dr an fi ba mo 3 nd fl q tq) (As := [.int 3]) (rest := []) ⟨hx, hb, hml, hown, hts⟩ (fun sz => mX2_no l D cy q b M n dr an fi ba mo 0 nd fl tq 3 (by omega) (by omega) (by omega)  sz) (cwV 1 hts gX2_cook_X2_no rfl rfl rfl (by decide +kernel) ⟨Nat.le_of_ble_eq_true rfl, Nat.le_of_ble_eq_true rfl⟩) hP hK hD hS hA [0, 1, 2, 3, 4, 5, 6, 7, 8, 9, 10] [] [0, 1, 2, 3, 4, 5, 6, 7, 8, 9, 10] rfl rfl rfl (by decide) rfl rfl rfl rfl rfl rfl rfl hl.1 rfl (Nat.le_of_ble_eq_true rfl) dX2_cook_89 (Nat.zero_le _) (Nat.zero_le _) (fun H locs hP hD hS => ?_)
              exact absurd (show (0 : Int32) = 3 by rw [← hout, cookT, if_neg c1, if_neg c2, if_neg c3, if_pos c4, if_pos c5, if_neg c6]) (by decide)
          · refine lv_iload hx hb dX2_cook_70 (lv_at hl 0 rfl) ?_
            refine lv_iload_n hx hb dX2_cook_72 rfl (lv_at hl 2 rfl) ?_
            refine lv_icmp_ne (tgt := 87) hx hb dX2_cook_73 (by decide) (fun c7 => ?_) (fun c7 => ?_)
            · refine lv_aload_n hx hb dX2_cook_87 rfl (lv_at hl 1 rfl) ?_
              refine lv_iconst (v := 3) hx hb dX2_cook_88 (by decide) ?_
              refine wr_VI (q := (RX2, TX2, 5)) (ci := 2) (q0 := 10) (ws0' := cSM q b cy M n dr an fi ba mo 3 nd fl q tq) (As := [.int 3]) (rest := []) ⟨hx, hb, hml, hown, hts⟩ (fun sz => mX2_no l D cy q b M n dr an fi ba mo 0 nd fl tq 3 (by omega) (by omega) (by omega)  sz) (cwV 1 hts gX2_cook_X2_no rfl rfl rfl (by decide +kernel) ⟨Nat.le_of_ble_eq_true rfl, Nat.le_of_ble_eq_true rfl⟩) hP hK hD hS hA [0, 1, 2, 3, 4, 5, 6, 7, 8, 9, 10] [] [0, 1, 2, 3, 4, 5, 6, 7, 8, 9, 10] rfl rfl rfl (by decide) rfl rfl rfl rfl rfl rfl rfl hl.1 rfl (Nat.le_of_ble_eq_true rfl) dX2_cook_89 (Nat.zero_le _) (Nat.zero_le _) (fun H locs hP hD hS => ?_)
              exact absurd (show (0 : Int32) = 3 by rw [← hout, cookT, if_neg c1, if_neg c2, if_neg c3, if_pos c4, if_neg c5, if_neg c7]) (by decide)
            · refine lv_aload_n hx hb dX2_cook_76 rfl (lv_at hl 1 rfl) ?_
              refine va_get (D := D) (ci := 2) (v := .ref q) (C := RX2) (T := TX2) (N := 5) hx hb hts inX2_cook_2 hown hK.1 hP 10 rfl rfl 3 (by decide) (hts (.fieldLink RX2 12 "ChalkSlateModel" "s" "LChalkSlateModel$State;") (by decide +kernel)) (fun _ h9 => h9) rfl dX2_cook_77 ?_
              refine rd_V (q := (RX1, TX1, 15)) (ci := 1) (q0 := 0) (As := []) (rest := []) ⟨hx, hb, hml, hown, hts⟩ (mX1_room l D cy q b M n dr an fi ba mo 0 nd fl q tq  (by omega) (by omega) (by omega) ) (cwV 0 hts gX2_cook_X1_room rfl rfl rfl (by decide +kernel) ⟨Nat.le_of_ble_eq_true rfl, Nat.le_of_ble_eq_true rfl⟩) hP hK rfl rfl rfl hl.1 rfl (Nat.le_of_ble_eq_true rfl) dX2_cook_80 (Nat.zero_le _) (Nat.zero_le _) ?_
              refine lv_iconst (v := 2) hx hb dX2_cook_83 (by decide) ?_
              refine lv_icmp_ge (tgt := 93) hx hb dX2_cook_84 (by decide) (fun c8 => ?_) (fun c8 => ?_)
              · refine lv_aload_n hx hb dX2_cook_93 rfl (lv_at hl 1 rfl) ?_
                refine va_get (D := D) (ci := 2) (v := .ref q) (C := RX2) (T := TX2) (N := 5) hx hb hts inX2_cook_2 hown hK.1 hP 10 rfl rfl 3 (by decide) (hts (.fieldLink RX2 12 "ChalkSlateModel" "s" "LChalkSlateModel$State;") (by decide +kernel)) (fun _ h9 => h9) rfl dX2_cook_94 ?_
                refine va_getN (D := D) (ci := 1) (v := .ref (b 0)) (C := RX1) (T := TX1) (N := 15) hx hb hts inX2_cook_1 hown hK.1 hP 0 rfl rfl 2 (by decide) (va_Nw.use rfl hK.2.2.2.1) (fun _ h9 => h9) rfl dX2_cook_97 ?_
                refine lv_iload_n hx hb dX2_cook_100 rfl (lv_at hl 3 rfl) ?_
                refine va_iald hx hb hK.1 hP 1 0 rfl rfl (isIn_vp (by decide) c2) dX2_cook_101 ?_
                refine lv_istore (lv' := [(5, .int ((M 0) u.toNatClampNeg)), (4, .int (holderM M n u nd 0)), (0, .ref mo), (1, .int d), (2, .int u), (3, .int x)]) hx hb dX2_cook_102 hl (by decide) rfl (fun ls hl => ?_)
                refine lv_aload_n hx hb dX2_cook_104 rfl (lv_at hl 2 rfl) ?_
                refine va_get (D := D) (ci := 2) (v := .ref q) (C := RX2) (T := TX2) (N := 5) hx hb hts inX2_cook_2 hown hK.1 hP 10 rfl rfl 3 (by decide) (hts (.fieldLink RX2 12 "ChalkSlateModel" "s" "LChalkSlateModel$State;") (by decide +kernel)) (fun _ h9 => h9) rfl dX2_cook_105 ?_
                refine lv_iload_n hx hb dX2_cook_108 rfl (lv_at hl 3 rfl) ?_
                refine lv_iconst (v := 1) hx hb dX2_cook_109 (by decide) ?_
                refine lv_iload_n hx hb dX2_cook_110 rfl (lv_at hl 4 rfl) ?_
                refine lv_iload_n hx hb dX2_cook_111 rfl (lv_at hl 5 rfl) ?_
                refine lv_iconst (v := (-1)) hx hb dX2_cook_112 (by decide) ?_
                refine wr_VV (q := (RX1, TX1, 15)) (ci := 1) (q0 := 0) (ws0' := cSM q b cy (spoonsM M n d 1 u x (-1)) (n + 1) dr an fi ba mo 0 nd fl q tq) (As := [.int d, .int 1, .int u, .int x, .int (-1)]) (rest := []) ⟨hx, hb, hml, hown, hts⟩ (fun sz => mX1_chalk_ l D cy q b M n dr an fi ba mo 0 nd fl q tq d 1 u x (-1) (by omega) (by omega) (by omega) (isIn_vp (by decide) c2) sz) (cwV 5 hts gX2_cook_X1_chalk_ rfl rfl rfl (by decide +kernel) ⟨Nat.le_of_ble_eq_true rfl, Nat.le_of_ble_eq_true rfl⟩) hP hK hD hS hA [0, 1, 2, 3, 4, 5, 6, 7, 8, 9, 10] [] [0, 1, 2, 3, 4, 5, 6, 7, 8, 9, 10] rfl rfl rfl (by decide) rfl rfl rfl rfl rfl rfl rfl hl.1 rfl (Nat.le_of_ble_eq_true rfl) dX2_cook_113 (Nat.zero_le _) (Nat.zero_le _) (fun H locs hP hD hS => ?_)
                refine lv_iload hx hb dX2_cook_116 (lv_at hl 0 rfl) ?_
                exact W.iret (v := (M 0) u.toNatClampNeg) hx hb hr (fun t ht hW => ⟨⟨((M 0) u.toNatClampNeg), (), rfl, rfl, by show va_P D vwCl _ t.heap; rw [ht]; exact hP⟩, hS.F ht⟩) hS.2.2 dX2_cook_118
              · refine lv_aload_n hx hb dX2_cook_87 rfl (lv_at hl 1 rfl) ?_
                refine lv_iconst (v := 3) hx hb dX2_cook_88 (by decide) ?_
                refine wr_VI (q := (RX2, TX2, 5)) (ci := 2) (q0 := 10) (ws0' := cSM q b cy M n dr an fi ba mo 3 nd fl q tq) (As := [.int 3]) (rest := []) ⟨hx, hb, hml, hown, hts⟩ (fun sz => mX2_no l D cy q b M n dr an fi ba mo 0 nd fl tq 3 (by omega) (by omega) (by omega)  sz) (cwV 1 hts gX2_cook_X2_no rfl rfl rfl (by decide +kernel) ⟨Nat.le_of_ble_eq_true rfl, Nat.le_of_ble_eq_true rfl⟩) hP hK hD hS hA [0, 1, 2, 3, 4, 5, 6, 7, 8, 9, 10] [] [0, 1, 2, 3, 4, 5, 6, 7, 8, 9, 10] rfl rfl rfl (by decide) rfl rfl rfl rfl rfl rfl rfl hl.1 rfl (Nat.le_of_ble_eq_true rfl) dX2_cook_89 (Nat.zero_le _) (Nat.zero_le _) (fun H locs hP hD hS => ?_)
                exact absurd (show (0 : Int32) = 3 by rw [← hout, cookT, if_neg c1, if_neg c2, if_neg c3, if_pos c4, if_neg c5, if_pos c7, if_neg c8]) (by decide)
      · refine lv_aload_n hx hb dX2_cook_37 rfl (lv_at hl 0 rfl) ?_
        refine lv_iconst (v := 2) hx hb dX2_cook_38 (by decide) ?_
        refine wr_VI (q := (RX2, TX2, 5)) (ci := 2) (q0 := 10) (ws0' := cSM q b cy M n dr an fi ba mo 2 nd fl q tq) (As := [.int 2]) (rest := []) ⟨hx, hb, hml, hown, hts⟩ (fun sz => mX2_no l D cy q b M n dr an fi ba mo 0 nd fl tq 2 (by omega) (by omega) (by omega)  sz) (cwV 1 hts gX2_cook_X2_no rfl rfl rfl (by decide +kernel) ⟨Nat.le_of_ble_eq_true rfl, Nat.le_of_ble_eq_true rfl⟩) hP hK hD hS hA [0, 1, 2, 3, 4, 5, 6, 7, 8, 9, 10] [] [0, 1, 2, 3, 4, 5, 6, 7, 8, 9, 10] rfl rfl rfl (by decide) rfl rfl rfl rfl rfl rfl rfl hl.1 rfl (Nat.le_of_ble_eq_true rfl) dX2_cook_39 (Nat.zero_le _) (Nat.zero_le _) (fun H locs hP hD hS => ?_)
        exact absurd (show (0 : Int32) = 2 by rw [← hout, cookT, if_neg c1, if_neg c2, if_pos c3]) (by decide)
    · refine lv_aload_n hx hb dX2_cook_20 rfl (lv_at hl 0 rfl) ?_
      refine lv_iconst (v := 1) hx hb dX2_cook_21 (by decide) ?_
      refine wr_VI (q := (RX2, TX2, 5)) (ci := 2) (q0 := 10) (ws0' := cSM q b cy M n dr an fi ba mo 1 nd fl q tq) (As := [.int 1]) (rest := []) ⟨hx, hb, hml, hown, hts⟩ (fun sz => mX2_no l D cy q b M n dr an fi ba mo 0 nd fl tq 1 (by omega) (by omega) (by omega)  sz) (cwV 1 hts gX2_cook_X2_no rfl rfl rfl (by decide +kernel) ⟨Nat.le_of_ble_eq_true rfl, Nat.le_of_ble_eq_true rfl⟩) hP hK hD hS hA [0, 1, 2, 3, 4, 5, 6, 7, 8, 9, 10] [] [0, 1, 2, 3, 4, 5, 6, 7, 8, 9, 10] rfl rfl rfl (by decide) rfl rfl rfl rfl rfl rfl rfl hl.1 rfl (Nat.le_of_ble_eq_true rfl) dX2_cook_22 (Nat.zero_le _) (Nat.zero_le _) (fun H locs hP hD hS => ?_)
      exact absurd (show (0 : Int32) = 1 by rw [← hout, cookT, if_neg c1, if_pos c2]) (by decide)

set_option maxHeartbeats 4000000 in
set_option maxRecDepth 100000 in
theorem mX2_cook_no (l : Launch) (D : va_G) (cy : ClassId) (q : Nat) (b : Nat → Nat) (M : Nat → Nat → Int32) (n dr : Nat) (an fi ba : Int32) (mo : Nat) (th : Int32) (nd : Nat) (fl : Int32) (tq : Nat) (d u x : Int32) (hnd : nd < 1000000) (hn : n ≤ 120) (hdr : dr ≤ 120) (k9 : Int32) (hout : cookT M n nd d u x = k9) (hk9 : ¬ k9 = 0) (sz : Nat) : WrI l yX2_cook wsX2_cook 4 89 [.ref mo, .int d, .int u, .int x] D cy (cSM q b cy M n dr an fi ba mo th nd fl q tq) (cSM q b cy M n dr an fi ba mo k9 nd fl q tq) sz (0) := by
  refine Met.ofW (cc := cX2_cook) (maxL := 6) (ret := (some .int)) (by decide) rfl ?_
  intro p e s m args below meth c s₁ B hml hv
  obtain ⟨rfl, hsz, hP, hK, hD0⟩ := hv
  have hx := B.exec
  have hb := B.bytes
  have hr := B.returns
  have hts := atoms_spec (ws := wsX2_cook) B.pre
  have hown : s.vm.findClass RX2 = some m.cls := findClass_of_methodNamed B.named
  have hlocks := B.notSynchronized
  subst hsz
  have hD := hD0.self (sz := s.heap.size)
  generalize hAe : va_A (cSM q b cy M n dr an fi ba mo th nd fl q tq) s.heap.size = A at hD ⊢
  have hA : ∀ q : Nat, s.heap.size ≤ q → A q := fun q h => by rw [← hAe]; exact Or.inr h
  have hS : va_S A s.heap s.heap [] := va_S.rf
  have hl := lv_entry ([.ref mo, .int d, .int u, .int x]) (n := 6) (Nat.le_of_ble_eq_true rfl)
  rw [lg_entry_eq]
  generalize (lg_sl ([.ref mo, .int d, .int u, .int x]) ++ List.replicate (6 - (lg_sl ([.ref mo, .int d, .int u, .int x])).length) Slot.unset).toArray = ls at hl ⊢
  have hl : lv_has ls 6 [(0, .ref mo), (1, .int d), (2, .int u), (3, .int x)] := hl
  refine lv_aload_n hx hb dX2_cook_0 rfl (lv_at hl 0 rfl) ?_
  refine lv_iconst (v := 0) hx hb dX2_cook_1 (by decide) ?_
  refine va_put (D := D) (ci := 2) (v := .int 0) (ty := .int) (C := RX2) (T := TX2) (N := 5) hx hb hts inX2_cook_2 tyX2 tyX2_ok nmX2 hown hK.1 hP hD hS 10 rfl rfl 0 (by decide) (hts (.fieldLink RX2 21 "ChalkSlateModel" "thrown" "I") (by decide +kernel)) (fun _ h9 => h9) rfl (by decide +kernel) rfl rfl (Nat.le_of_ble_eq_true rfl) dX2_cook_2 (fun H locs hP hD hS => ?_)
  have hP : va_P D vwCl (cSM q b cy M n dr an fi ba mo 0 nd fl q tq) H := hP
  have hD : va_D A (cSM q b cy M n dr an fi ba mo 0 nd fl q tq) := hD
  refine lv_aload_n hx hb dX2_cook_5 rfl (lv_at hl 0 rfl) ?_
  refine lv_iload_n hx hb dX2_cook_6 rfl (lv_at hl 1 rfl) ?_
  refine rd_V (q := (RX2, TX2, 5)) (ci := 2) (q0 := 10) (As := [.int d]) (rest := []) ⟨hx, hb, hml, hown, hts⟩ (mX2_isDish l D cy q b M n dr an fi ba mo 0 nd fl tq d (by omega) (by omega) (by omega) ) (cwV 1 hts gX2_cook_X2_isDish rfl rfl rfl (by decide +kernel) ⟨Nat.le_of_ble_eq_true rfl, Nat.le_of_ble_eq_true rfl⟩) hP hK rfl rfl rfl hl.1 rfl (Nat.le_of_ble_eq_true rfl) dX2_cook_7 (Nat.zero_le _) (Nat.zero_le _) ?_
  refine lv_if_eq (tgt := 20) hx hb dX2_cook_10 (by decide) (fun c1 => ?_) (fun c1 => ?_)
  · refine lv_aload_n hx hb dX2_cook_20 rfl (lv_at hl 0 rfl) ?_
    refine lv_iconst (v := 1) hx hb dX2_cook_21 (by decide) ?_
    refine wr_VI (q := (RX2, TX2, 5)) (ci := 2) (q0 := 10) (ws0' := cSM q b cy M n dr an fi ba mo 1 nd fl q tq) (As := [.int 1]) (rest := []) ⟨hx, hb, hml, hown, hts⟩ (fun sz => mX2_no l D cy q b M n dr an fi ba mo 0 nd fl tq 1 (by omega) (by omega) (by omega)  sz) (cwV 1 hts gX2_cook_X2_no rfl rfl rfl (by decide +kernel) ⟨Nat.le_of_ble_eq_true rfl, Nat.le_of_ble_eq_true rfl⟩) hP hK hD hS hA [0, 1, 2, 3, 4, 5, 6, 7, 8, 9, 10] [] [0, 1, 2, 3, 4, 5, 6, 7, 8, 9, 10] rfl rfl rfl (by decide) rfl rfl rfl rfl rfl rfl rfl hl.1 rfl (Nat.le_of_ble_eq_true rfl) dX2_cook_22 (Nat.zero_le _) (Nat.zero_le _) (fun H locs hP hD hS => ?_)
    have hk : k9 = 1 := by rw [← hout, cookT, if_pos c1]
    subst hk
    exact W.iret (v := 0) hx hb hr (fun t ht hW => ⟨⟨0, (), rfl, rfl, by show va_P D vwCl _ t.heap; rw [ht]; exact hP⟩, hS.F ht⟩) hS.2.2 dX2_cook_25
  · refine lv_iload_n hx hb dX2_cook_13 rfl (lv_at hl 2 rfl) ?_
    refine rd_S (As := [.int u]) (rest := []) ⟨hx, hb, hml, hown, hts⟩ (mX2_isPot l D cy u) (va_cwS 1 hts gX2_cook_X2_isPot rfl rfl rfl (by decide +kernel) ⟨Nat.le_of_ble_eq_true rfl, Nat.le_of_ble_eq_true rfl⟩) (hP.sub (ws' := []) [] rfl) hK rfl hl.1 rfl (Nat.le_of_ble_eq_true rfl) dX2_cook_14 (Nat.zero_le _) (Nat.zero_le _) ?_
    refine lv_if_ne (tgt := 26) hx hb dX2_cook_17 (by decide) (fun c2 => ?_) (fun c2 => ?_)
    · refine lv_iload_n hx hb dX2_cook_26 rfl (lv_at hl 3 rfl) ?_
      refine lv_iconst (v := 0) hx hb dX2_cook_27 (by decide) ?_
      refine lv_sipush (v := 999) hx hb dX2_cook_28 (by decide) ?_
      refine rd_S (As := [.int x, .int 0, .int 999]) (rest := []) ⟨hx, hb, hml, hown, hts⟩ (mX2_isIn l D cy x 0 999) (va_cwS 3 hts gX2_cook_X2_isIn rfl rfl rfl (by decide +kernel) ⟨Nat.le_of_ble_eq_true rfl, Nat.le_of_ble_eq_true rfl⟩) (hP.sub (ws' := []) [] rfl) hK rfl hl.1 rfl (Nat.le_of_ble_eq_true rfl) dX2_cook_31 (Nat.zero_le _) (Nat.zero_le _) ?_
      refine lv_if_ne (tgt := 43) hx hb dX2_cook_34 (by decide) (fun c3 => ?_) (fun c3 => ?_)
      · refine lv_aload_n hx hb dX2_cook_43 rfl (lv_at hl 0 rfl) ?_
        refine va_get (D := D) (ci := 2) (v := .ref q) (C := RX2) (T := TX2) (N := 5) hx hb hts inX2_cook_2 hown hK.1 hP 10 rfl rfl 3 (by decide) (hts (.fieldLink RX2 12 "ChalkSlateModel" "s" "LChalkSlateModel$State;") (by decide +kernel)) (fun _ h9 => h9) rfl dX2_cook_44 ?_
        refine lv_iload_n hx hb dX2_cook_47 rfl (lv_at hl 2 rfl) ?_
        refine rd_V (q := (RX1, TX1, 15)) (ci := 1) (q0 := 0) (As := [.int u]) (rest := []) ⟨hx, hb, hml, hown, hts⟩ (mX1_holder l D cy q b M n dr an fi ba mo 0 nd fl q tq u (by omega) (by omega) (by omega) ) (cwV 1 hts gX2_cook_X1_holder rfl rfl rfl (by decide +kernel) ⟨Nat.le_of_ble_eq_true rfl, Nat.le_of_ble_eq_true rfl⟩) hP hK rfl rfl rfl hl.1 rfl (Nat.le_of_ble_eq_true rfl) dX2_cook_48 (Nat.zero_le _) (Nat.zero_le _) ?_
        refine lv_istore (lv' := [(4, .int (holderM M n u nd 0)), (0, .ref mo), (1, .int d), (2, .int u), (3, .int x)]) hx hb dX2_cook_51 hl (by decide) rfl (fun ls hl => ?_)
        refine lv_aload_n hx hb dX2_cook_53 rfl (lv_at hl 1 rfl) ?_
        refine va_get (D := D) (ci := 2) (v := .ref q) (C := RX2) (T := TX2) (N := 5) hx hb hts inX2_cook_2 hown hK.1 hP 10 rfl rfl 3 (by decide) (hts (.fieldLink RX2 12 "ChalkSlateModel" "s" "LChalkSlateModel$State;") (by decide +kernel)) (fun _ h9 => h9) rfl dX2_cook_54 ?_
        refine lv_iload_n hx hb dX2_cook_57 rfl (lv_at hl 2 rfl) ?_
        refine rd_V (q := (RX1, TX1, 15)) (ci := 1) (q0 := 0) (As := [.int d]) (rest := []) ⟨hx, hb, hml, hown, hts⟩ (mX1_is l D cy q b M n dr an fi ba mo 0 nd fl q tq d (by omega) (by omega) (by omega) ) (cwV 1 hts gX2_cook_X1_is rfl rfl rfl (by decide +kernel) ⟨Nat.le_of_ble_eq_true rfl, Nat.le_of_ble_eq_true rfl⟩) hP hK rfl rfl rfl hl.1 rfl (Nat.le_of_ble_eq_true rfl) dX2_cook_58 (Nat.zero_le _) (Nat.zero_le _) ?_
        refine lv_if_ne (tgt := 87) hx hb dX2_cook_61 (by decide) (fun c4 => ?_) (fun c4 => ?_)
        · refine lv_aload_n hx hb dX2_cook_87 rfl (lv_at hl 1 rfl) ?_
          refine lv_iconst (v := 3) hx hb dX2_cook_88 (by decide) ?_
          refine wr_VI (q := (RX2, TX2, 5)) (ci := 2) (q0 := 10) (ws0' := cSM q b cy M n dr an fi ba mo 3 nd fl q tq) (As := [.int 3]) (rest := []) ⟨hx, hb, hml, hown, hts⟩ (fun sz => mX2_no l D cy q b M n dr an fi ba mo 0 nd fl tq 3 (by omega) (by omega) (by omega)  sz) (cwV 1 hts gX2_cook_X2_no rfl rfl rfl (by decide +kernel) ⟨Nat.le_of_ble_eq_true rfl, Nat.le_of_ble_eq_true rfl⟩) hP hK hD hS hA [0, 1, 2, 3, 4, 5, 6, 7, 8, 9, 10] [] [0, 1, 2, 3, 4, 5, 6, 7, 8, 9, 10] rfl rfl rfl (by decide) rfl rfl rfl rfl rfl rfl rfl hl.1 rfl (Nat.le_of_ble_eq_true rfl) dX2_cook_89 (Nat.zero_le _) (Nat.zero_le _) (fun H locs hP hD hS => ?_)
          have hk : k9 = 3 := by rw [← hout, cookT, if_neg c1, if_neg c2, if_neg c3, if_neg c4]
          subst hk
          exact W.iret (v := 0) hx hb hr (fun t ht hW => ⟨⟨0, (), rfl, rfl, by show va_P D vwCl _ t.heap; rw [ht]; exact hP⟩, hS.F ht⟩) hS.2.2 dX2_cook_92
        · refine lv_iload hx hb dX2_cook_64 (lv_at hl 0 rfl) ?_
          refine lv_iconst (v := (-1)) hx hb dX2_cook_66 (by decide) ?_
          refine lv_icmp_eq (tgt := 76) hx hb dX2_cook_67 (by decide) (fun c5 => ?_) (fun c5 => ?_)
          · refine lv_aload_n hx hb dX2_cook_76 rfl (lv_at hl 1 rfl) ?_
            refine va_get (D := D) (ci := 2) (v := .ref q) (C := RX2) (T := TX2) (N := 5) hx hb hts inX2_cook_2 hown hK.1 hP 10 rfl rfl 3 (by decide) (hts (.fieldLink RX2 12 "ChalkSlateModel" "s" "LChalkSlateModel$State;") (by decide +kernel)) (fun _ h9 => h9) rfl dX2_cook_77 ?_
            refine rd_V (q := (RX1, TX1, 15)) (ci := 1) (q0 := 0) (As := []) (rest := []) ⟨hx, hb, hml, hown, hts⟩ (mX1_room l D cy q b M n dr an fi ba mo 0 nd fl q tq  (by omega) (by omega) (by omega) ) (cwV 0 hts gX2_cook_X1_room rfl rfl rfl (by decide +kernel) ⟨Nat.le_of_ble_eq_true rfl, Nat.le_of_ble_eq_true rfl⟩) hP hK rfl rfl rfl hl.1 rfl (Nat.le_of_ble_eq_true rfl) dX2_cook_80 (Nat.zero_le _) (Nat.zero_le _) ?_
            refine lv_iconst (v := 2) hx hb dX2_cook_83 (by decide) ?_
            refine lv_icmp_ge (tgt := 93) hx hb dX2_cook_84 (by decide) (fun c6 => ?_) (fun c6 => ?_)
            · exact absurd (show k9 = 0 by rw [← hout, cookT, if_neg c1, if_neg c2, if_neg c3, if_pos c4, if_pos c5, if_pos c6]) hk9
            · refine lv_aload_n hx hb dX2_cook_87 rfl (lv_at hl 1 rfl) ?_
              refine lv_iconst (v := 3) hx hb dX2_cook_88 (by decide) ?_
              refine wr_VI (q := (RX2, TX2, 5)) (ci := 2) (q0 := 10) (ws0' := cSM q b cy M n dr an fi ba mo 3 nd fl q tq) (As := [.int 3]) (rest := []) ⟨hx, hb, hml, hown, hts⟩ (fun sz => mX2_no l D cy q b M n dr an fi ba mo 0 nd fl tq 3 (by omega) (by omega) (by omega)  sz) (cwV 1 hts gX2_cook_X2_no rfl rfl rfl (by decide +kernel) ⟨Nat.le_of_ble_eq_true rfl, Nat.le_of_ble_eq_true rfl⟩) hP hK hD hS hA [0, 1, 2, 3, 4, 5, 6, 7, 8, 9, 10] [] [0, 1, 2, 3, 4, 5, 6, 7, 8, 9, 10] rfl rfl rfl (by decide) rfl rfl rfl rfl rfl rfl rfl hl.1 rfl (Nat.le_of_ble_eq_true rfl) dX2_cook_89 (Nat.zero_le _) (Nat.zero_le _) (fun H locs hP hD hS => ?_)
              have hk : k9 = 3 := by rw [← hout, cookT, if_neg c1, if_neg c2, if_neg c3, if_pos c4, if_pos c5, if_neg c6]
              subst hk
              exact W.iret (v := 0) hx hb hr (fun t ht hW => ⟨⟨0, (), rfl, rfl, by show va_P D vwCl _ t.heap; rw [ht]; exact hP⟩, hS.F ht⟩) hS.2.2 dX2_cook_92
          · refine lv_iload hx hb dX2_cook_70 (lv_at hl 0 rfl) ?_
            refine lv_iload_n hx hb dX2_cook_72 rfl (lv_at hl 2 rfl) ?_
            refine lv_icmp_ne (tgt := 87) hx hb dX2_cook_73 (by decide) (fun c7 => ?_) (fun c7 => ?_)
            · refine lv_aload_n hx hb dX2_cook_87 rfl (lv_at hl 1 rfl) ?_
              refine lv_iconst (v := 3) hx hb dX2_cook_88 (by decide) ?_
              refine wr_VI (q := (RX2, TX2, 5)) (ci := 2) (q0 := 10) (ws0' := cSM q b cy M n dr an fi ba mo 3 nd fl q tq) (As := [.int 3]) (rest := []) ⟨hx, hb, hml, hown, hts⟩ (fun sz => mX2_no l D cy q b M n dr an fi ba mo 0 nd fl tq 3 (by omega) (by omega) (by omega)  sz) (cwV 1 hts gX2_cook_X2_no rfl rfl rfl (by decide +kernel) ⟨Nat.le_of_ble_eq_true rfl, Nat.le_of_ble_eq_true rfl⟩) hP hK hD hS hA [0, 1, 2, 3, 4, 5, 6, 7, 8, 9, 10] [] [0, 1, 2, 3, 4, 5, 6, 7, 8, 9, 10] rfl rfl rfl (by decide) rfl rfl rfl rfl rfl rfl rfl hl.1 rfl (Nat.le_of_ble_eq_true rfl) dX2_cook_89 (Nat.zero_le _) (Nat.zero_le _) (fun H locs hP hD hS => ?_)
              have hk : k9 = 3 := by rw [← hout, cookT, if_neg c1, if_neg c2, if_neg c3, if_pos c4, if_neg c5, if_neg c7]
              subst hk
              exact W.iret (v := 0) hx hb hr (fun t ht hW => ⟨⟨0, (), rfl, rfl, by show va_P D vwCl _ t.heap; rw [ht]; exact hP⟩, hS.F ht⟩) hS.2.2 dX2_cook_92
            · refine lv_aload_n hx hb dX2_cook_76 rfl (lv_at hl 1 rfl) ?_
              refine va_get (D := D) (ci := 2) (v := .ref q) (C := RX2) (T := TX2) (N := 5) hx hb hts inX2_cook_2 hown hK.1 hP 10 rfl rfl 3 (by decide) (hts (.fieldLink RX2 12 "ChalkSlateModel" "s" "LChalkSlateModel$State;") (by decide +kernel)) (fun _ h9 => h9) rfl dX2_cook_77 ?_
              refine rd_V (q := (RX1, TX1, 15)) (ci := 1) (q0 := 0) (As := []) (rest := []) ⟨hx, hb, hml, hown, hts⟩ (mX1_room l D cy q b M n dr an fi ba mo 0 nd fl q tq  (by omega) (by omega) (by omega) ) (cwV 0 hts gX2_cook_X1_room rfl rfl rfl (by decide +kernel) ⟨Nat.le_of_ble_eq_true rfl, Nat.le_of_ble_eq_true rfl⟩) hP hK rfl rfl rfl hl.1 rfl (Nat.le_of_ble_eq_true rfl) dX2_cook_80 (Nat.zero_le _) (Nat.zero_le _) ?_
              refine lv_iconst (v := 2) hx hb dX2_cook_83 (by decide) ?_
              refine lv_icmp_ge (tgt := 93) hx hb dX2_cook_84 (by decide) (fun c8 => ?_) (fun c8 => ?_)
              · exact absurd (show k9 = 0 by rw [← hout, cookT, if_neg c1, if_neg c2, if_neg c3, if_pos c4, if_neg c5, if_pos c7, if_pos c8]) hk9
              · refine lv_aload_n hx hb dX2_cook_87 rfl (lv_at hl 1 rfl) ?_
                refine lv_iconst (v := 3) hx hb dX2_cook_88 (by decide) ?_
                refine wr_VI (q := (RX2, TX2, 5)) (ci := 2) (q0 := 10) (ws0' := cSM q b cy M n dr an fi ba mo 3 nd fl q tq) (As := [.int 3]) (rest := []) ⟨hx, hb, hml, hown, hts⟩ (fun sz => mX2_no l D cy q b M n dr an fi ba mo 0 nd fl tq 3 (by omega) (by omega) (by omega)  sz) (cwV 1 hts gX2_cook_X2_no rfl rfl rfl (by decide +kernel) ⟨Nat.le_of_ble_eq_true rfl, Nat.le_of_ble_eq_true rfl⟩) hP hK hD hS hA [0, 1, 2, 3, 4, 5, 6, 7, 8, 9, 10] [] [0, 1, 2, 3, 4, 5, 6, 7, 8, 9, 10] rfl rfl rfl (by decide) rfl rfl rfl rfl rfl rfl rfl hl.1 rfl (Nat.le_of_ble_eq_true rfl) dX2_cook_89 (Nat.zero_le _) (Nat.zero_le _) (fun H locs hP hD hS => ?_)
                have hk : k9 = 3 := by rw [← hout, cookT, if_neg c1, if_neg c2, if_neg c3, if_pos c4, if_neg c5, if_pos c7, if_neg c8]
                subst hk
                exact W.iret (v := 0) hx hb hr (fun t ht hW => ⟨⟨0, (), rfl, rfl, by show va_P D vwCl _ t.heap; rw [ht]; exact hP⟩, hS.F ht⟩) hS.2.2 dX2_cook_92
      · refine lv_aload_n hx hb dX2_cook_37 rfl (lv_at hl 0 rfl) ?_
        refine lv_iconst (v := 2) hx hb dX2_cook_38 (by decide) ?_
        refine wr_VI (q := (RX2, TX2, 5)) (ci := 2) (q0 := 10) (ws0' := cSM q b cy M n dr an fi ba mo 2 nd fl q tq) (As := [.int 2]) (rest := []) ⟨hx, hb, hml, hown, hts⟩ (fun sz => mX2_no l D cy q b M n dr an fi ba mo 0 nd fl tq 2 (by omega) (by omega) (by omega)  sz) (cwV 1 hts gX2_cook_X2_no rfl rfl rfl (by decide +kernel) ⟨Nat.le_of_ble_eq_true rfl, Nat.le_of_ble_eq_true rfl⟩) hP hK hD hS hA [0, 1, 2, 3, 4, 5, 6, 7, 8, 9, 10] [] [0, 1, 2, 3, 4, 5, 6, 7, 8, 9, 10] rfl rfl rfl (by decide) rfl rfl rfl rfl rfl rfl rfl hl.1 rfl (Nat.le_of_ble_eq_true rfl) dX2_cook_39 (Nat.zero_le _) (Nat.zero_le _) (fun H locs hP hD hS => ?_)
        have hk : k9 = 2 := by rw [← hout, cookT, if_neg c1, if_neg c2, if_pos c3]
        subst hk
        exact W.iret (v := 0) hx hb hr (fun t ht hW => ⟨⟨0, (), rfl, rfl, by show va_P D vwCl _ t.heap; rw [ht]; exact hP⟩, hS.F ht⟩) hS.2.2 dX2_cook_42
    · refine lv_aload_n hx hb dX2_cook_20 rfl (lv_at hl 0 rfl) ?_
      refine lv_iconst (v := 1) hx hb dX2_cook_21 (by decide) ?_
      refine wr_VI (q := (RX2, TX2, 5)) (ci := 2) (q0 := 10) (ws0' := cSM q b cy M n dr an fi ba mo 1 nd fl q tq) (As := [.int 1]) (rest := []) ⟨hx, hb, hml, hown, hts⟩ (fun sz => mX2_no l D cy q b M n dr an fi ba mo 0 nd fl tq 1 (by omega) (by omega) (by omega)  sz) (cwV 1 hts gX2_cook_X2_no rfl rfl rfl (by decide +kernel) ⟨Nat.le_of_ble_eq_true rfl, Nat.le_of_ble_eq_true rfl⟩) hP hK hD hS hA [0, 1, 2, 3, 4, 5, 6, 7, 8, 9, 10] [] [0, 1, 2, 3, 4, 5, 6, 7, 8, 9, 10] rfl rfl rfl (by decide) rfl rfl rfl rfl rfl rfl rfl hl.1 rfl (Nat.le_of_ble_eq_true rfl) dX2_cook_22 (Nat.zero_le _) (Nat.zero_le _) (fun H locs hP hD hS => ?_)
      have hk : k9 = 1 := by rw [← hout, cookT, if_neg c1, if_pos c2]
      subst hk
      exact W.iret (v := 0) hx hb hr (fun t ht hW => ⟨⟨0, (), rfl, rfl, by show va_P D vwCl _ t.heap; rw [ht]; exact hP⟩, hS.F ht⟩) hS.2.2 dX2_cook_25

set_option maxRecDepth 100000 in
theorem inX2_finish_2 : ∀ w ∈ wsX20, w ∈ wsX2_finish := by decide +kernel

set_option maxRecDepth 100000 in
theorem inX2_finish_1 : ∀ w ∈ wsX10, w ∈ wsX2_finish := by decide +kernel

set_option maxHeartbeats 4000000 in
set_option maxRecDepth 100000 in
theorem mX2_finish_ok (l : Launch) (D : va_G) (cy : ClassId) (q : Nat) (b : Nat → Nat) (M : Nat → Nat → Int32) (n dr : Nat) (an fi ba : Int32) (mo : Nat) (th : Int32) (nd : Nat) (fl : Int32) (tq : Nat) (d : Int32) (hnd : nd < 1000000) (hn : n ≤ 120) (hdr : dr ≤ 120) (hout : openT M n nd d = 0) (hn1 : n < 120) (sz : Nat) : WrI l yX2_finish wsX2_finish 2 43 [.ref mo, .int d] D cy (cSM q b cy M n dr an fi ba mo th nd fl q tq) (cSM q b cy (chalkM M n d 2) (n + 1) (dryN dr (n + 1)) an fi ba mo 0 nd fl q tq) sz (nI (dryN dr (n + 1)) - nI dr) := by
  refine Met.ofW (cc := cX2_finish) (maxL := 2) (ret := (some .int)) (by decide) rfl ?_
  intro p e s m args below meth c s₁ B hml hv
  obtain ⟨rfl, hsz, hP, hK, hD0⟩ := hv
  have hx := B.exec
  have hb := B.bytes
  have hr := B.returns
  have hts := atoms_spec (ws := wsX2_finish) B.pre
  have hown : s.vm.findClass RX2 = some m.cls := findClass_of_methodNamed B.named
  have hlocks := B.notSynchronized
  subst hsz
  have hD := hD0.self (sz := s.heap.size)
  generalize hAe : va_A (cSM q b cy M n dr an fi ba mo th nd fl q tq) s.heap.size = A at hD ⊢
  have hA : ∀ q : Nat, s.heap.size ≤ q → A q := fun q h => by rw [← hAe]; exact Or.inr h
  have hS : va_S A s.heap s.heap [] := va_S.rf
  have hl := lv_entry ([.ref mo, .int d]) (n := 2) (Nat.le_of_ble_eq_true rfl)
  rw [lg_entry_eq]
  generalize (lg_sl ([.ref mo, .int d]) ++ List.replicate (2 - (lg_sl ([.ref mo, .int d])).length) Slot.unset).toArray = ls at hl ⊢
  have hl : lv_has ls 2 [(0, .ref mo), (1, .int d)] := hl
  refine lv_aload_n hx hb dX2_finish_0 rfl (lv_at hl 0 rfl) ?_
  refine lv_iconst (v := 0) hx hb dX2_finish_1 (by decide) ?_
  refine va_put (D := D) (ci := 2) (v := .int 0) (ty := .int) (C := RX2) (T := TX2) (N := 5) hx hb hts inX2_finish_2 tyX2 tyX2_ok nmX2 hown hK.1 hP hD hS 10 rfl rfl 0 (by decide) (hts (.fieldLink RX2 21 "ChalkSlateModel" "thrown" "I") (by decide +kernel)) (fun _ h9 => h9) rfl (by decide +kernel) rfl rfl (Nat.le_of_ble_eq_true rfl) dX2_finish_2 (fun H locs hP hD hS => ?_)
  have hP : va_P D vwCl (cSM q b cy M n dr an fi ba mo 0 nd fl q tq) H := hP
  have hD : va_D A (cSM q b cy M n dr an fi ba mo 0 nd fl q tq) := hD
  refine lv_aload_n hx hb dX2_finish_5 rfl (lv_at hl 0 rfl) ?_
  refine lv_iload_n hx hb dX2_finish_6 rfl (lv_at hl 1 rfl) ?_
  refine rd_V (q := (RX2, TX2, 5)) (ci := 2) (q0 := 10) (As := [.int d]) (rest := []) ⟨hx, hb, hml, hown, hts⟩ (mX2_isDish l D cy q b M n dr an fi ba mo 0 nd fl tq d (by omega) (by omega) (by omega) ) (cwV 1 hts gX2_finish_X2_isDish rfl rfl rfl (by decide +kernel) ⟨Nat.le_of_ble_eq_true rfl, Nat.le_of_ble_eq_true rfl⟩) hP hK rfl rfl rfl hl.1 rfl (Nat.le_of_ble_eq_true rfl) dX2_finish_7 (Nat.zero_le _) (Nat.zero_le _) ?_
  refine lv_if_ne (tgt := 19) hx hb dX2_finish_10 (by decide) (fun c1 => ?_) (fun c1 => ?_)
  · refine lv_aload_n hx hb dX2_finish_19 rfl (lv_at hl 0 rfl) ?_
    refine va_get (D := D) (ci := 2) (v := .ref q) (C := RX2) (T := TX2) (N := 5) hx hb hts inX2_finish_2 hown hK.1 hP 10 rfl rfl 3 (by decide) (hts (.fieldLink RX2 12 "ChalkSlateModel" "s" "LChalkSlateModel$State;") (by decide +kernel)) (fun _ h9 => h9) rfl dX2_finish_20 ?_
    refine lv_iload_n hx hb dX2_finish_23 rfl (lv_at hl 1 rfl) ?_
    refine rd_V (q := (RX1, TX1, 15)) (ci := 1) (q0 := 0) (As := [.int d]) (rest := []) ⟨hx, hb, hml, hown, hts⟩ (mX1_is l D cy q b M n dr an fi ba mo 0 nd fl q tq d (by omega) (by omega) (by omega) ) (cwV 1 hts gX2_finish_X1_is rfl rfl rfl (by decide +kernel) ⟨Nat.le_of_ble_eq_true rfl, Nat.le_of_ble_eq_true rfl⟩) hP hK rfl rfl rfl hl.1 rfl (Nat.le_of_ble_eq_true rfl) dX2_finish_24 (Nat.zero_le _) (Nat.zero_le _) ?_
    refine lv_if_eq (tgt := 36) hx hb dX2_finish_27 (by decide) (fun c2 => ?_) (fun c2 => ?_)
    · refine lv_aload_n hx hb dX2_finish_36 rfl (lv_at hl 0 rfl) ?_
      refine va_get (D := D) (ci := 2) (v := .ref q) (C := RX2) (T := TX2) (N := 5) hx hb hts inX2_finish_2 hown hK.1 hP 10 rfl rfl 3 (by decide) (hts (.fieldLink RX2 12 "ChalkSlateModel" "s" "LChalkSlateModel$State;") (by decide +kernel)) (fun _ h9 => h9) rfl dX2_finish_37 ?_
      refine lv_iload_n hx hb dX2_finish_40 rfl (lv_at hl 1 rfl) ?_
      refine lv_iconst (v := 2) hx hb dX2_finish_41 (by decide) ?_
      refine wr_VV (q := (RX1, TX1, 15)) (ci := 1) (q0 := 0) (ws0' := cSM q b cy (chalkM M n d 2) (n + 1) dr an fi ba mo 0 nd fl q tq) (As := [.int d, .int 2]) (rest := []) ⟨hx, hb, hml, hown, hts⟩ (fun sz => mX1_chalk l D cy q b M n dr an fi ba mo 0 nd fl q tq d 2 (by omega) (by omega) (by omega)  sz) (cwV 2 hts gX2_finish_X1_chalk rfl rfl rfl (by decide +kernel) ⟨Nat.le_of_ble_eq_true rfl, Nat.le_of_ble_eq_true rfl⟩) hP hK hD hS hA [0, 1, 2, 3, 4, 5, 6, 7, 8, 9, 10] [] [0, 1, 2, 3, 4, 5, 6, 7, 8, 9, 10] rfl rfl rfl (by decide) rfl rfl rfl rfl rfl rfl rfl hl.1 rfl (Nat.le_of_ble_eq_true rfl) dX2_finish_42 (Nat.zero_le _) (Nat.zero_le _) (fun H locs hP hD hS => ?_)
      refine lv_aload_n hx hb dX2_finish_45 rfl (lv_at hl 0 rfl) ?_
      refine va_get (D := D) (ci := 2) (v := .ref q) (C := RX2) (T := TX2) (N := 5) hx hb hts inX2_finish_2 hown hK.1 hP 10 rfl rfl 3 (by decide) (hts (.fieldLink RX2 12 "ChalkSlateModel" "s" "LChalkSlateModel$State;") (by decide +kernel)) (fun _ h9 => h9) rfl dX2_finish_46 ?_
      refine lv_aload_n hx hb dX2_finish_49 rfl (lv_at hl 0 rfl) ?_
      refine va_get (D := D) (ci := 2) (v := .ref q) (C := RX2) (T := TX2) (N := 5) hx hb hts inX2_finish_2 hown hK.1 hP 10 rfl rfl 3 (by decide) (hts (.fieldLink RX2 12 "ChalkSlateModel" "s" "LChalkSlateModel$State;") (by decide +kernel)) (fun _ h9 => h9) rfl dX2_finish_50 ?_
      refine va_getN (D := D) (ci := 1) (v := .int (nI (n + 1))) (C := RX1) (T := TX1) (N := 15) hx hb hts inX2_finish_1 hown hK.1 hP 0 rfl rfl 0 (by decide) (va_Nw.use rfl hK.2.1) (fun _ h9 => h9) rfl dX2_finish_53 ?_
      refine lv_iconst (v := 1) hx hb dX2_finish_56 (by decide) ?_
      refine lv_isub hx hb dX2_finish_57 ?_
      refine wr_VI (q := (RX1, TX1, 15)) (ci := 1) (q0 := 0) (ws0' := cSM q b cy (chalkM M n d 2) (n + 1) (dryN dr (n + 1)) an fi ba mo 0 nd fl q tq) (As := [.int ((nI (n + 1)) - 1)]) (rest := []) ⟨hx, hb, hml, hown, hts⟩ (fun sz => mX1_dries l D cy q b (chalkM M n d 2) (n + 1) dr an fi ba mo 0 nd fl q tq ((nI (n + 1)) - 1) (n + 1) (by omega) (by omega) (by omega) (sub1_add1 _) (by omega) sz) (cwV 1 hts gX2_finish_X1_dries rfl rfl rfl (by decide +kernel) ⟨Nat.le_of_ble_eq_true rfl, Nat.le_of_ble_eq_true rfl⟩) hP hK hD hS hA [0, 1, 2, 3, 4, 5, 6, 7, 8, 9, 10] [] [0, 1, 2, 3, 4, 5, 6, 7, 8, 9, 10] rfl rfl rfl (by decide) rfl rfl rfl rfl rfl rfl rfl hl.1 rfl (Nat.le_of_ble_eq_true rfl) dX2_finish_58 (Nat.zero_le _) (Nat.zero_le _) (fun H locs hP hD hS => ?_)
      exact W.iret (v := nI (dryN dr (n + 1)) - nI dr) hx hb hr (fun t ht hW => ⟨⟨(nI (dryN dr (n + 1)) - nI dr), (), rfl, rfl, by show va_P D vwCl _ t.heap; rw [ht]; exact hP⟩, hS.F ht⟩) hS.2.2 dX2_finish_61
    · refine lv_aload_n hx hb dX2_finish_30 rfl (lv_at hl 0 rfl) ?_
      refine lv_iconst (v := 2) hx hb dX2_finish_31 (by decide) ?_
      refine wr_VI (q := (RX2, TX2, 5)) (ci := 2) (q0 := 10) (ws0' := cSM q b cy M n dr an fi ba mo 2 nd fl q tq) (As := [.int 2]) (rest := []) ⟨hx, hb, hml, hown, hts⟩ (fun sz => mX2_no l D cy q b M n dr an fi ba mo 0 nd fl tq 2 (by omega) (by omega) (by omega)  sz) (cwV 1 hts gX2_finish_X2_no rfl rfl rfl (by decide +kernel) ⟨Nat.le_of_ble_eq_true rfl, Nat.le_of_ble_eq_true rfl⟩) hP hK hD hS hA [0, 1, 2, 3, 4, 5, 6, 7, 8, 9, 10] [] [0, 1, 2, 3, 4, 5, 6, 7, 8, 9, 10] rfl rfl rfl (by decide) rfl rfl rfl rfl rfl rfl rfl hl.1 rfl (Nat.le_of_ble_eq_true rfl) dX2_finish_32 (Nat.zero_le _) (Nat.zero_le _) (fun H locs hP hD hS => ?_)
      exact absurd (show (0 : Int32) = 2 by rw [← hout, openT, if_neg c1, if_neg c2]) (by decide)
  · refine lv_aload_n hx hb dX2_finish_13 rfl (lv_at hl 0 rfl) ?_
    refine lv_iconst (v := 1) hx hb dX2_finish_14 (by decide) ?_
    refine wr_VI (q := (RX2, TX2, 5)) (ci := 2) (q0 := 10) (ws0' := cSM q b cy M n dr an fi ba mo 1 nd fl q tq) (As := [.int 1]) (rest := []) ⟨hx, hb, hml, hown, hts⟩ (fun sz => mX2_no l D cy q b M n dr an fi ba mo 0 nd fl tq 1 (by omega) (by omega) (by omega)  sz) (cwV 1 hts gX2_finish_X2_no rfl rfl rfl (by decide +kernel) ⟨Nat.le_of_ble_eq_true rfl, Nat.le_of_ble_eq_true rfl⟩) hP hK hD hS hA [0, 1, 2, 3, 4, 5, 6, 7, 8, 9, 10] [] [0, 1, 2, 3, 4, 5, 6, 7, 8, 9, 10] rfl rfl rfl (by decide) rfl rfl rfl rfl rfl rfl rfl hl.1 rfl (Nat.le_of_ble_eq_true rfl) dX2_finish_15 (Nat.zero_le _) (Nat.zero_le _) (fun H locs hP hD hS => ?_)
    exact absurd (show (0 : Int32) = 1 by rw [← hout, openT, if_pos c1]) (by decide)

set_option maxHeartbeats 4000000 in
set_option maxRecDepth 100000 in
theorem mX2_finish_no (l : Launch) (D : va_G) (cy : ClassId) (q : Nat) (b : Nat → Nat) (M : Nat → Nat → Int32) (n dr : Nat) (an fi ba : Int32) (mo : Nat) (th : Int32) (nd : Nat) (fl : Int32) (tq : Nat) (d : Int32) (hnd : nd < 1000000) (hn : n ≤ 120) (hdr : dr ≤ 120) (k9 : Int32) (hout : openT M n nd d = k9) (hk9 : ¬ k9 = 0) (sz : Nat) : WrI l yX2_finish wsX2_finish 2 43 [.ref mo, .int d] D cy (cSM q b cy M n dr an fi ba mo th nd fl q tq) (cSM q b cy M n dr an fi ba mo k9 nd fl q tq) sz (0) := by
  refine Met.ofW (cc := cX2_finish) (maxL := 2) (ret := (some .int)) (by decide) rfl ?_
  intro p e s m args below meth c s₁ B hml hv
  obtain ⟨rfl, hsz, hP, hK, hD0⟩ := hv
  have hx := B.exec
  have hb := B.bytes
  have hr := B.returns
  have hts := atoms_spec (ws := wsX2_finish) B.pre
  have hown : s.vm.findClass RX2 = some m.cls := findClass_of_methodNamed B.named
  have hlocks := B.notSynchronized
  subst hsz
  have hD := hD0.self (sz := s.heap.size)
  generalize hAe : va_A (cSM q b cy M n dr an fi ba mo th nd fl q tq) s.heap.size = A at hD ⊢
  have hA : ∀ q : Nat, s.heap.size ≤ q → A q := fun q h => by rw [← hAe]; exact Or.inr h
  have hS : va_S A s.heap s.heap [] := va_S.rf
  have hl := lv_entry ([.ref mo, .int d]) (n := 2) (Nat.le_of_ble_eq_true rfl)
  rw [lg_entry_eq]
  generalize (lg_sl ([.ref mo, .int d]) ++ List.replicate (2 - (lg_sl ([.ref mo, .int d])).length) Slot.unset).toArray = ls at hl ⊢
  have hl : lv_has ls 2 [(0, .ref mo), (1, .int d)] := hl
  refine lv_aload_n hx hb dX2_finish_0 rfl (lv_at hl 0 rfl) ?_
  refine lv_iconst (v := 0) hx hb dX2_finish_1 (by decide) ?_
  refine va_put (D := D) (ci := 2) (v := .int 0) (ty := .int) (C := RX2) (T := TX2) (N := 5) hx hb hts inX2_finish_2 tyX2 tyX2_ok nmX2 hown hK.1 hP hD hS 10 rfl rfl 0 (by decide) (hts (.fieldLink RX2 21 "ChalkSlateModel" "thrown" "I") (by decide +kernel)) (fun _ h9 => h9) rfl (by decide +kernel) rfl rfl (Nat.le_of_ble_eq_true rfl) dX2_finish_2 (fun H locs hP hD hS => ?_)
  have hP : va_P D vwCl (cSM q b cy M n dr an fi ba mo 0 nd fl q tq) H := hP
  have hD : va_D A (cSM q b cy M n dr an fi ba mo 0 nd fl q tq) := hD
  refine lv_aload_n hx hb dX2_finish_5 rfl (lv_at hl 0 rfl) ?_
  refine lv_iload_n hx hb dX2_finish_6 rfl (lv_at hl 1 rfl) ?_
  refine rd_V (q := (RX2, TX2, 5)) (ci := 2) (q0 := 10) (As := [.int d]) (rest := []) ⟨hx, hb, hml, hown, hts⟩ (mX2_isDish l D cy q b M n dr an fi ba mo 0 nd fl tq d (by omega) (by omega) (by omega) ) (cwV 1 hts gX2_finish_X2_isDish rfl rfl rfl (by decide +kernel) ⟨Nat.le_of_ble_eq_true rfl, Nat.le_of_ble_eq_true rfl⟩) hP hK rfl rfl rfl hl.1 rfl (Nat.le_of_ble_eq_true rfl) dX2_finish_7 (Nat.zero_le _) (Nat.zero_le _) ?_
  refine lv_if_ne (tgt := 19) hx hb dX2_finish_10 (by decide) (fun c1 => ?_) (fun c1 => ?_)
  · refine lv_aload_n hx hb dX2_finish_19 rfl (lv_at hl 0 rfl) ?_
    refine va_get (D := D) (ci := 2) (v := .ref q) (C := RX2) (T := TX2) (N := 5) hx hb hts inX2_finish_2 hown hK.1 hP 10 rfl rfl 3 (by decide) (hts (.fieldLink RX2 12 "ChalkSlateModel" "s" "LChalkSlateModel$State;") (by decide +kernel)) (fun _ h9 => h9) rfl dX2_finish_20 ?_
    refine lv_iload_n hx hb dX2_finish_23 rfl (lv_at hl 1 rfl) ?_
    refine rd_V (q := (RX1, TX1, 15)) (ci := 1) (q0 := 0) (As := [.int d]) (rest := []) ⟨hx, hb, hml, hown, hts⟩ (mX1_is l D cy q b M n dr an fi ba mo 0 nd fl q tq d (by omega) (by omega) (by omega) ) (cwV 1 hts gX2_finish_X1_is rfl rfl rfl (by decide +kernel) ⟨Nat.le_of_ble_eq_true rfl, Nat.le_of_ble_eq_true rfl⟩) hP hK rfl rfl rfl hl.1 rfl (Nat.le_of_ble_eq_true rfl) dX2_finish_24 (Nat.zero_le _) (Nat.zero_le _) ?_
    refine lv_if_eq (tgt := 36) hx hb dX2_finish_27 (by decide) (fun c2 => ?_) (fun c2 => ?_)
    · exact absurd (show k9 = 0 by rw [← hout, openT, if_neg c1, if_pos c2]) hk9
    · refine lv_aload_n hx hb dX2_finish_30 rfl (lv_at hl 0 rfl) ?_
      refine lv_iconst (v := 2) hx hb dX2_finish_31 (by decide) ?_
      refine wr_VI (q := (RX2, TX2, 5)) (ci := 2) (q0 := 10) (ws0' := cSM q b cy M n dr an fi ba mo 2 nd fl q tq) (As := [.int 2]) (rest := []) ⟨hx, hb, hml, hown, hts⟩ (fun sz => mX2_no l D cy q b M n dr an fi ba mo 0 nd fl tq 2 (by omega) (by omega) (by omega)  sz) (cwV 1 hts gX2_finish_X2_no rfl rfl rfl (by decide +kernel) ⟨Nat.le_of_ble_eq_true rfl, Nat.le_of_ble_eq_true rfl⟩) hP hK hD hS hA [0, 1, 2, 3, 4, 5, 6, 7, 8, 9, 10] [] [0, 1, 2, 3, 4, 5, 6, 7, 8, 9, 10] rfl rfl rfl (by decide) rfl rfl rfl rfl rfl rfl rfl hl.1 rfl (Nat.le_of_ble_eq_true rfl) dX2_finish_32 (Nat.zero_le _) (Nat.zero_le _) (fun H locs hP hD hS => ?_)
      have hk : k9 = 2 := by rw [← hout, openT, if_neg c1, if_neg c2]
      subst hk
      exact W.iret (v := 0) hx hb hr (fun t ht hW => ⟨⟨0, (), rfl, rfl, by show va_P D vwCl _ t.heap; rw [ht]; exact hP⟩, hS.F ht⟩) hS.2.2 dX2_finish_35
  · refine lv_aload_n hx hb dX2_finish_13 rfl (lv_at hl 0 rfl) ?_
    refine lv_iconst (v := 1) hx hb dX2_finish_14 (by decide) ?_
    refine wr_VI (q := (RX2, TX2, 5)) (ci := 2) (q0 := 10) (ws0' := cSM q b cy M n dr an fi ba mo 1 nd fl q tq) (As := [.int 1]) (rest := []) ⟨hx, hb, hml, hown, hts⟩ (fun sz => mX2_no l D cy q b M n dr an fi ba mo 0 nd fl tq 1 (by omega) (by omega) (by omega)  sz) (cwV 1 hts gX2_finish_X2_no rfl rfl rfl (by decide +kernel) ⟨Nat.le_of_ble_eq_true rfl, Nat.le_of_ble_eq_true rfl⟩) hP hK hD hS hA [0, 1, 2, 3, 4, 5, 6, 7, 8, 9, 10] [] [0, 1, 2, 3, 4, 5, 6, 7, 8, 9, 10] rfl rfl rfl (by decide) rfl rfl rfl rfl rfl rfl rfl hl.1 rfl (Nat.le_of_ble_eq_true rfl) dX2_finish_15 (Nat.zero_le _) (Nat.zero_le _) (fun H locs hP hD hS => ?_)
    have hk : k9 = 1 := by rw [← hout, openT, if_pos c1]
    subst hk
    exact W.iret (v := 0) hx hb hr (fun t ht hW => ⟨⟨0, (), rfl, rfl, by show va_P D vwCl _ t.heap; rw [ht]; exact hP⟩, hS.F ht⟩) hS.2.2 dX2_finish_18

set_option maxRecDepth 100000 in
theorem inX2_drop_2 : ∀ w ∈ wsX20, w ∈ wsX2_drop := by decide +kernel

set_option maxRecDepth 100000 in
theorem inX2_drop_1 : ∀ w ∈ wsX10, w ∈ wsX2_drop := by decide +kernel

set_option maxHeartbeats 4000000 in
set_option maxRecDepth 100000 in
theorem mX2_drop_ok (l : Launch) (D : va_G) (cy : ClassId) (q : Nat) (b : Nat → Nat) (M : Nat → Nat → Int32) (n dr : Nat) (an fi ba : Int32) (mo : Nat) (th : Int32) (nd : Nat) (fl : Int32) (tq : Nat) (d : Int32) (hnd : nd < 1000000) (hn : n ≤ 120) (hdr : dr ≤ 120) (hout : openT M n nd d = 0) (hok : undoOk M n d) (sz : Nat) : WrI l yX2_drop wsX2_drop 3 70 [.ref mo, .int d] D cy (cSM q b cy M n dr an fi ba mo th nd fl q tq) (cSM q b cy (undoMR M n d) (undoMN M n d) dr an fi ba mo 0 nd fl q tq) sz (undoMC M n d) := by
  refine Met.ofW (cc := cX2_drop) (maxL := 2) (ret := (some .int)) (by decide) rfl ?_
  intro p e s m args below meth c s₁ B hml hv
  obtain ⟨rfl, hsz, hP, hK, hD0⟩ := hv
  have hx := B.exec
  have hb := B.bytes
  have hr := B.returns
  have hts := atoms_spec (ws := wsX2_drop) B.pre
  have hown : s.vm.findClass RX2 = some m.cls := findClass_of_methodNamed B.named
  have hlocks := B.notSynchronized
  subst hsz
  have hD := hD0.self (sz := s.heap.size)
  generalize hAe : va_A (cSM q b cy M n dr an fi ba mo th nd fl q tq) s.heap.size = A at hD ⊢
  have hA : ∀ q : Nat, s.heap.size ≤ q → A q := fun q h => by rw [← hAe]; exact Or.inr h
  have hS : va_S A s.heap s.heap [] := va_S.rf
  have hl := lv_entry ([.ref mo, .int d]) (n := 2) (Nat.le_of_ble_eq_true rfl)
  rw [lg_entry_eq]
  generalize (lg_sl ([.ref mo, .int d]) ++ List.replicate (2 - (lg_sl ([.ref mo, .int d])).length) Slot.unset).toArray = ls at hl ⊢
  have hl : lv_has ls 2 [(0, .ref mo), (1, .int d)] := hl
  refine lv_aload_n hx hb dX2_drop_0 rfl (lv_at hl 0 rfl) ?_
  refine lv_iconst (v := 0) hx hb dX2_drop_1 (by decide) ?_
  refine va_put (D := D) (ci := 2) (v := .int 0) (ty := .int) (C := RX2) (T := TX2) (N := 5) hx hb hts inX2_drop_2 tyX2 tyX2_ok nmX2 hown hK.1 hP hD hS 10 rfl rfl 0 (by decide) (hts (.fieldLink RX2 21 "ChalkSlateModel" "thrown" "I") (by decide +kernel)) (fun _ h9 => h9) rfl (by decide +kernel) rfl rfl (Nat.le_of_ble_eq_true rfl) dX2_drop_2 (fun H locs hP hD hS => ?_)
  have hP : va_P D vwCl (cSM q b cy M n dr an fi ba mo 0 nd fl q tq) H := hP
  have hD : va_D A (cSM q b cy M n dr an fi ba mo 0 nd fl q tq) := hD
  refine lv_aload_n hx hb dX2_drop_5 rfl (lv_at hl 0 rfl) ?_
  refine lv_iload_n hx hb dX2_drop_6 rfl (lv_at hl 1 rfl) ?_
  refine rd_V (q := (RX2, TX2, 5)) (ci := 2) (q0 := 10) (As := [.int d]) (rest := []) ⟨hx, hb, hml, hown, hts⟩ (mX2_isDish l D cy q b M n dr an fi ba mo 0 nd fl tq d (by omega) (by omega) (by omega) ) (cwV 1 hts gX2_drop_X2_isDish rfl rfl rfl (by decide +kernel) ⟨Nat.le_of_ble_eq_true rfl, Nat.le_of_ble_eq_true rfl⟩) hP hK rfl rfl rfl hl.1 rfl (Nat.le_of_ble_eq_true rfl) dX2_drop_7 (Nat.zero_le _) (Nat.zero_le _) ?_
  refine lv_if_ne (tgt := 19) hx hb dX2_drop_10 (by decide) (fun c1 => ?_) (fun c1 => ?_)
  · refine lv_aload_n hx hb dX2_drop_19 rfl (lv_at hl 0 rfl) ?_
    refine va_get (D := D) (ci := 2) (v := .ref q) (C := RX2) (T := TX2) (N := 5) hx hb hts inX2_drop_2 hown hK.1 hP 10 rfl rfl 3 (by decide) (hts (.fieldLink RX2 12 "ChalkSlateModel" "s" "LChalkSlateModel$State;") (by decide +kernel)) (fun _ h9 => h9) rfl dX2_drop_20 ?_
    refine lv_iload_n hx hb dX2_drop_23 rfl (lv_at hl 1 rfl) ?_
    refine rd_V (q := (RX1, TX1, 15)) (ci := 1) (q0 := 0) (As := [.int d]) (rest := []) ⟨hx, hb, hml, hown, hts⟩ (mX1_is l D cy q b M n dr an fi ba mo 0 nd fl q tq d (by omega) (by omega) (by omega) ) (cwV 1 hts gX2_drop_X1_is rfl rfl rfl (by decide +kernel) ⟨Nat.le_of_ble_eq_true rfl, Nat.le_of_ble_eq_true rfl⟩) hP hK rfl rfl rfl hl.1 rfl (Nat.le_of_ble_eq_true rfl) dX2_drop_24 (Nat.zero_le _) (Nat.zero_le _) ?_
    refine lv_if_ne (tgt := 41) hx hb dX2_drop_27 (by decide) (fun c2 => ?_) (fun c2 => ?_)
    · refine lv_aload_n hx hb dX2_drop_41 rfl (lv_at hl 0 rfl) ?_
      refine lv_iconst (v := 2) hx hb dX2_drop_42 (by decide) ?_
      refine wr_VI (q := (RX2, TX2, 5)) (ci := 2) (q0 := 10) (ws0' := cSM q b cy M n dr an fi ba mo 2 nd fl q tq) (As := [.int 2]) (rest := []) ⟨hx, hb, hml, hown, hts⟩ (fun sz => mX2_no l D cy q b M n dr an fi ba mo 0 nd fl tq 2 (by omega) (by omega) (by omega)  sz) (cwV 1 hts gX2_drop_X2_no rfl rfl rfl (by decide +kernel) ⟨Nat.le_of_ble_eq_true rfl, Nat.le_of_ble_eq_true rfl⟩) hP hK hD hS hA [0, 1, 2, 3, 4, 5, 6, 7, 8, 9, 10] [] [0, 1, 2, 3, 4, 5, 6, 7, 8, 9, 10] rfl rfl rfl (by decide) rfl rfl rfl rfl rfl rfl rfl hl.1 rfl (Nat.le_of_ble_eq_true rfl) dX2_drop_43 (Nat.zero_le _) (Nat.zero_le _) (fun H locs hP hD hS => ?_)
      exact absurd (show (0 : Int32) = 2 by rw [← hout, openT, if_neg c1, if_neg c2]) (by decide)
    · refine lv_aload_n hx hb dX2_drop_30 rfl (lv_at hl 0 rfl) ?_
      refine va_get (D := D) (ci := 2) (v := .ref q) (C := RX2) (T := TX2) (N := 5) hx hb hts inX2_drop_2 hown hK.1 hP 10 rfl rfl 3 (by decide) (hts (.fieldLink RX2 12 "ChalkSlateModel" "s" "LChalkSlateModel$State;") (by decide +kernel)) (fun _ h9 => h9) rfl dX2_drop_31 ?_
      refine lv_iload_n hx hb dX2_drop_34 rfl (lv_at hl 1 rfl) ?_
      refine wr_VI (q := (RX1, TX1, 15)) (ci := 1) (q0 := 0) (ws0' := cSM q b cy (undoMR M n d) (undoMN M n d) dr an fi ba mo 0 nd fl q tq) (As := [.int d]) (rest := []) ⟨hx, hb, hml, hown, hts⟩ (fun sz => mX1_undo l D cy q b M n dr an fi ba mo 0 nd fl q tq d (by omega) (by omega) (by omega) hok sz) (cwV 1 hts gX2_drop_X1_undo rfl rfl rfl (by decide +kernel) ⟨Nat.le_of_ble_eq_true rfl, Nat.le_of_ble_eq_true rfl⟩) hP hK hD hS hA [0, 1, 2, 3, 4, 5, 6, 7, 8, 9, 10] [] [0, 1, 2, 3, 4, 5, 6, 7, 8, 9, 10] rfl rfl rfl (by decide) rfl rfl rfl rfl rfl rfl rfl hl.1 rfl (Nat.le_of_ble_eq_true rfl) dX2_drop_35 (Nat.zero_le _) (Nat.zero_le _) (fun H locs hP hD hS => ?_)
      refine lv_goto (tgt := 46) hx hb dX2_drop_38 (by decide) ?_
      exact W.iret (v := undoMC M n d) hx hb hr (fun t ht hW => ⟨⟨(undoMC M n d), (), rfl, rfl, by show va_P D vwCl _ t.heap; rw [ht]; exact hP⟩, hS.F ht⟩) hS.2.2 dX2_drop_46
  · refine lv_aload_n hx hb dX2_drop_13 rfl (lv_at hl 0 rfl) ?_
    refine lv_iconst (v := 1) hx hb dX2_drop_14 (by decide) ?_
    refine wr_VI (q := (RX2, TX2, 5)) (ci := 2) (q0 := 10) (ws0' := cSM q b cy M n dr an fi ba mo 1 nd fl q tq) (As := [.int 1]) (rest := []) ⟨hx, hb, hml, hown, hts⟩ (fun sz => mX2_no l D cy q b M n dr an fi ba mo 0 nd fl tq 1 (by omega) (by omega) (by omega)  sz) (cwV 1 hts gX2_drop_X2_no rfl rfl rfl (by decide +kernel) ⟨Nat.le_of_ble_eq_true rfl, Nat.le_of_ble_eq_true rfl⟩) hP hK hD hS hA [0, 1, 2, 3, 4, 5, 6, 7, 8, 9, 10] [] [0, 1, 2, 3, 4, 5, 6, 7, 8, 9, 10] rfl rfl rfl (by decide) rfl rfl rfl rfl rfl rfl rfl hl.1 rfl (Nat.le_of_ble_eq_true rfl) dX2_drop_15 (Nat.zero_le _) (Nat.zero_le _) (fun H locs hP hD hS => ?_)
    exact absurd (show (0 : Int32) = 1 by rw [← hout, openT, if_pos c1]) (by decide)

set_option maxHeartbeats 4000000 in
set_option maxRecDepth 100000 in
theorem mX2_drop_no (l : Launch) (D : va_G) (cy : ClassId) (q : Nat) (b : Nat → Nat) (M : Nat → Nat → Int32) (n dr : Nat) (an fi ba : Int32) (mo : Nat) (th : Int32) (nd : Nat) (fl : Int32) (tq : Nat) (d : Int32) (hnd : nd < 1000000) (hn : n ≤ 120) (hdr : dr ≤ 120) (k9 : Int32) (hout : openT M n nd d = k9) (hk9 : ¬ k9 = 0) (sz : Nat) : WrI l yX2_drop wsX2_drop 2 43 [.ref mo, .int d] D cy (cSM q b cy M n dr an fi ba mo th nd fl q tq) (cSM q b cy M n dr an fi ba mo k9 nd fl q tq) sz (0) := by
  refine Met.ofW (cc := cX2_drop) (maxL := 2) (ret := (some .int)) (by decide) rfl ?_
  intro p e s m args below meth c s₁ B hml hv
  obtain ⟨rfl, hsz, hP, hK, hD0⟩ := hv
  have hx := B.exec
  have hb := B.bytes
  have hr := B.returns
  have hts := atoms_spec (ws := wsX2_drop) B.pre
  have hown : s.vm.findClass RX2 = some m.cls := findClass_of_methodNamed B.named
  have hlocks := B.notSynchronized
  subst hsz
  have hD := hD0.self (sz := s.heap.size)
  generalize hAe : va_A (cSM q b cy M n dr an fi ba mo th nd fl q tq) s.heap.size = A at hD ⊢
  have hA : ∀ q : Nat, s.heap.size ≤ q → A q := fun q h => by rw [← hAe]; exact Or.inr h
  have hS : va_S A s.heap s.heap [] := va_S.rf
  have hl := lv_entry ([.ref mo, .int d]) (n := 2) (Nat.le_of_ble_eq_true rfl)
  rw [lg_entry_eq]
  generalize (lg_sl ([.ref mo, .int d]) ++ List.replicate (2 - (lg_sl ([.ref mo, .int d])).length) Slot.unset).toArray = ls at hl ⊢
  have hl : lv_has ls 2 [(0, .ref mo), (1, .int d)] := hl
  refine lv_aload_n hx hb dX2_drop_0 rfl (lv_at hl 0 rfl) ?_
  refine lv_iconst (v := 0) hx hb dX2_drop_1 (by decide) ?_
  refine va_put (D := D) (ci := 2) (v := .int 0) (ty := .int) (C := RX2) (T := TX2) (N := 5) hx hb hts inX2_drop_2 tyX2 tyX2_ok nmX2 hown hK.1 hP hD hS 10 rfl rfl 0 (by decide) (hts (.fieldLink RX2 21 "ChalkSlateModel" "thrown" "I") (by decide +kernel)) (fun _ h9 => h9) rfl (by decide +kernel) rfl rfl (Nat.le_of_ble_eq_true rfl) dX2_drop_2 (fun H locs hP hD hS => ?_)
  have hP : va_P D vwCl (cSM q b cy M n dr an fi ba mo 0 nd fl q tq) H := hP
  have hD : va_D A (cSM q b cy M n dr an fi ba mo 0 nd fl q tq) := hD
  refine lv_aload_n hx hb dX2_drop_5 rfl (lv_at hl 0 rfl) ?_
  refine lv_iload_n hx hb dX2_drop_6 rfl (lv_at hl 1 rfl) ?_
  refine rd_V (q := (RX2, TX2, 5)) (ci := 2) (q0 := 10) (As := [.int d]) (rest := []) ⟨hx, hb, hml, hown, hts⟩ (mX2_isDish l D cy q b M n dr an fi ba mo 0 nd fl tq d (by omega) (by omega) (by omega) ) (cwV 1 hts gX2_drop_X2_isDish rfl rfl rfl (by decide +kernel) ⟨Nat.le_of_ble_eq_true rfl, Nat.le_of_ble_eq_true rfl⟩) hP hK rfl rfl rfl hl.1 rfl (Nat.le_of_ble_eq_true rfl) dX2_drop_7 (Nat.zero_le _) (Nat.zero_le _) ?_
  refine lv_if_ne (tgt := 19) hx hb dX2_drop_10 (by decide) (fun c1 => ?_) (fun c1 => ?_)
  · refine lv_aload_n hx hb dX2_drop_19 rfl (lv_at hl 0 rfl) ?_
    refine va_get (D := D) (ci := 2) (v := .ref q) (C := RX2) (T := TX2) (N := 5) hx hb hts inX2_drop_2 hown hK.1 hP 10 rfl rfl 3 (by decide) (hts (.fieldLink RX2 12 "ChalkSlateModel" "s" "LChalkSlateModel$State;") (by decide +kernel)) (fun _ h9 => h9) rfl dX2_drop_20 ?_
    refine lv_iload_n hx hb dX2_drop_23 rfl (lv_at hl 1 rfl) ?_
    refine rd_V (q := (RX1, TX1, 15)) (ci := 1) (q0 := 0) (As := [.int d]) (rest := []) ⟨hx, hb, hml, hown, hts⟩ (mX1_is l D cy q b M n dr an fi ba mo 0 nd fl q tq d (by omega) (by omega) (by omega) ) (cwV 1 hts gX2_drop_X1_is rfl rfl rfl (by decide +kernel) ⟨Nat.le_of_ble_eq_true rfl, Nat.le_of_ble_eq_true rfl⟩) hP hK rfl rfl rfl hl.1 rfl (Nat.le_of_ble_eq_true rfl) dX2_drop_24 (Nat.zero_le _) (Nat.zero_le _) ?_
    refine lv_if_ne (tgt := 41) hx hb dX2_drop_27 (by decide) (fun c2 => ?_) (fun c2 => ?_)
    · refine lv_aload_n hx hb dX2_drop_41 rfl (lv_at hl 0 rfl) ?_
      refine lv_iconst (v := 2) hx hb dX2_drop_42 (by decide) ?_
      refine wr_VI (q := (RX2, TX2, 5)) (ci := 2) (q0 := 10) (ws0' := cSM q b cy M n dr an fi ba mo 2 nd fl q tq) (As := [.int 2]) (rest := []) ⟨hx, hb, hml, hown, hts⟩ (fun sz => mX2_no l D cy q b M n dr an fi ba mo 0 nd fl tq 2 (by omega) (by omega) (by omega)  sz) (cwV 1 hts gX2_drop_X2_no rfl rfl rfl (by decide +kernel) ⟨Nat.le_of_ble_eq_true rfl, Nat.le_of_ble_eq_true rfl⟩) hP hK hD hS hA [0, 1, 2, 3, 4, 5, 6, 7, 8, 9, 10] [] [0, 1, 2, 3, 4, 5, 6, 7, 8, 9, 10] rfl rfl rfl (by decide) rfl rfl rfl rfl rfl rfl rfl hl.1 rfl (Nat.le_of_ble_eq_true rfl) dX2_drop_43 (Nat.zero_le _) (Nat.zero_le _) (fun H locs hP hD hS => ?_)
      have hk : k9 = 2 := by rw [← hout, openT, if_neg c1, if_neg c2]
      subst hk
      exact W.iret (v := 0) hx hb hr (fun t ht hW => ⟨⟨0, (), rfl, rfl, by show va_P D vwCl _ t.heap; rw [ht]; exact hP⟩, hS.F ht⟩) hS.2.2 dX2_drop_46
    · exact absurd (show k9 = 0 by rw [← hout, openT, if_neg c1, if_pos c2]) hk9
  · refine lv_aload_n hx hb dX2_drop_13 rfl (lv_at hl 0 rfl) ?_
    refine lv_iconst (v := 1) hx hb dX2_drop_14 (by decide) ?_
    refine wr_VI (q := (RX2, TX2, 5)) (ci := 2) (q0 := 10) (ws0' := cSM q b cy M n dr an fi ba mo 1 nd fl q tq) (As := [.int 1]) (rest := []) ⟨hx, hb, hml, hown, hts⟩ (fun sz => mX2_no l D cy q b M n dr an fi ba mo 0 nd fl tq 1 (by omega) (by omega) (by omega)  sz) (cwV 1 hts gX2_drop_X2_no rfl rfl rfl (by decide +kernel) ⟨Nat.le_of_ble_eq_true rfl, Nat.le_of_ble_eq_true rfl⟩) hP hK hD hS hA [0, 1, 2, 3, 4, 5, 6, 7, 8, 9, 10] [] [0, 1, 2, 3, 4, 5, 6, 7, 8, 9, 10] rfl rfl rfl (by decide) rfl rfl rfl rfl rfl rfl rfl hl.1 rfl (Nat.le_of_ble_eq_true rfl) dX2_drop_15 (Nat.zero_le _) (Nat.zero_le _) (fun H locs hP hD hS => ?_)
    have hk : k9 = 1 := by rw [← hout, openT, if_pos c1]
    subst hk
    exact W.iret (v := 0) hx hb hr (fun t ht hW => ⟨⟨0, (), rfl, rfl, by show va_P D vwCl _ t.heap; rw [ht]; exact hP⟩, hS.F ht⟩) hS.2.2 dX2_drop_18

set_option maxRecDepth 100000 in
theorem inX2_shelve_2 : ∀ w ∈ wsX20, w ∈ wsX2_shelve := by decide +kernel

set_option maxRecDepth 100000 in
theorem inX2_shelve_1 : ∀ w ∈ wsX10, w ∈ wsX2_shelve := by decide +kernel

set_option maxHeartbeats 4000000 in
set_option maxRecDepth 100000 in
theorem mX2_shelve_ok (l : Launch) (D : va_G) (cy : ClassId) (q : Nat) (b : Nat → Nat) (M : Nat → Nat → Int32) (n dr : Nat) (an fi ba : Int32) (mo : Nat) (th : Int32) (nd : Nat) (fl : Int32) (tq : Nat) (u : Int32) (hnd : nd < 1000000) (hn : n ≤ 120) (hdr : dr ≤ 120) (hout : potT u = 0) (sz : Nat) : WrI l yX2_shelve wsX2_shelve 2 42 [.ref mo, .int u] D cy (cSM q b cy M n dr an fi ba mo th nd fl q tq) (cSM q b cy (setM (setM M 1 u.toNatClampNeg (M 0 u.toNatClampNeg)) 2 u.toNatClampNeg (latestM M u n)) n (dryN dr (latN M u n)) an fi ba mo 0 nd fl q tq) sz (nI (dryN dr (latN M u n)) - nI dr) := by
  refine Met.ofW (cc := cX2_shelve) (maxL := 3) (ret := (some .int)) (by decide) rfl ?_
  intro p e s m args below meth c s₁ B hml hv
  obtain ⟨rfl, hsz, hP, hK, hD0⟩ := hv
  have hx := B.exec
  have hb := B.bytes
  have hr := B.returns
  have hts := atoms_spec (ws := wsX2_shelve) B.pre
  have hown : s.vm.findClass RX2 = some m.cls := findClass_of_methodNamed B.named
  have hlocks := B.notSynchronized
  subst hsz
  have hD := hD0.self (sz := s.heap.size)
  generalize hAe : va_A (cSM q b cy M n dr an fi ba mo th nd fl q tq) s.heap.size = A at hD ⊢
  have hA : ∀ q : Nat, s.heap.size ≤ q → A q := fun q h => by rw [← hAe]; exact Or.inr h
  have hS : va_S A s.heap s.heap [] := va_S.rf
  have hl := lv_entry ([.ref mo, .int u]) (n := 3) (Nat.le_of_ble_eq_true rfl)
  rw [lg_entry_eq]
  generalize (lg_sl ([.ref mo, .int u]) ++ List.replicate (3 - (lg_sl ([.ref mo, .int u])).length) Slot.unset).toArray = ls at hl ⊢
  have hl : lv_has ls 3 [(0, .ref mo), (1, .int u)] := hl
  refine lv_aload_n hx hb dX2_shelve_0 rfl (lv_at hl 0 rfl) ?_
  refine lv_iconst (v := 0) hx hb dX2_shelve_1 (by decide) ?_
  refine va_put (D := D) (ci := 2) (v := .int 0) (ty := .int) (C := RX2) (T := TX2) (N := 5) hx hb hts inX2_shelve_2 tyX2 tyX2_ok nmX2 hown hK.1 hP hD hS 10 rfl rfl 0 (by decide) (hts (.fieldLink RX2 21 "ChalkSlateModel" "thrown" "I") (by decide +kernel)) (fun _ h9 => h9) rfl (by decide +kernel) rfl rfl (Nat.le_of_ble_eq_true rfl) dX2_shelve_2 (fun H locs hP hD hS => ?_)
  have hP : va_P D vwCl (cSM q b cy M n dr an fi ba mo 0 nd fl q tq) H := hP
  have hD : va_D A (cSM q b cy M n dr an fi ba mo 0 nd fl q tq) := hD
  refine lv_iload_n hx hb dX2_shelve_5 rfl (lv_at hl 1 rfl) ?_
  refine rd_S (As := [.int u]) (rest := []) ⟨hx, hb, hml, hown, hts⟩ (mX2_isPot l D cy u) (va_cwS 1 hts gX2_shelve_X2_isPot rfl rfl rfl (by decide +kernel) ⟨Nat.le_of_ble_eq_true rfl, Nat.le_of_ble_eq_true rfl⟩) (hP.sub (ws' := []) [] rfl) hK rfl hl.1 rfl (Nat.le_of_ble_eq_true rfl) dX2_shelve_6 (Nat.zero_le _) (Nat.zero_le _) ?_
  refine lv_if_ne (tgt := 18) hx hb dX2_shelve_9 (by decide) (fun c1 => ?_) (fun c1 => ?_)
  · refine lv_aload_n hx hb dX2_shelve_18 rfl (lv_at hl 0 rfl) ?_
    refine va_get (D := D) (ci := 2) (v := .ref q) (C := RX2) (T := TX2) (N := 5) hx hb hts inX2_shelve_2 hown hK.1 hP 10 rfl rfl 3 (by decide) (hts (.fieldLink RX2 12 "ChalkSlateModel" "s" "LChalkSlateModel$State;") (by decide +kernel)) (fun _ h9 => h9) rfl dX2_shelve_19 ?_
    refine lv_iload_n hx hb dX2_shelve_22 rfl (lv_at hl 1 rfl) ?_
    refine rd_V (q := (RX1, TX1, 15)) (ci := 1) (q0 := 0) (As := [.int u]) (rest := []) ⟨hx, hb, hml, hown, hts⟩ (mX1_latest l D cy q b M n dr an fi ba mo 0 nd fl q tq u (by omega) (by omega) (by omega) ) (cwV 1 hts gX2_shelve_X1_latest rfl rfl rfl (by decide +kernel) ⟨Nat.le_of_ble_eq_true rfl, Nat.le_of_ble_eq_true rfl⟩) hP hK rfl rfl rfl hl.1 rfl (Nat.le_of_ble_eq_true rfl) dX2_shelve_23 (Nat.zero_le _) (Nat.zero_le _) ?_
    refine lv_istore_n (lv' := [(2, .int (latestM M u n)), (0, .ref mo), (1, .int u)]) hx hb dX2_shelve_26 rfl hl (by decide) rfl (fun ls hl => ?_)
    refine lv_aload_n hx hb dX2_shelve_27 rfl (lv_at hl 1 rfl) ?_
    refine va_get (D := D) (ci := 2) (v := .ref q) (C := RX2) (T := TX2) (N := 5) hx hb hts inX2_shelve_2 hown hK.1 hP 10 rfl rfl 3 (by decide) (hts (.fieldLink RX2 12 "ChalkSlateModel" "s" "LChalkSlateModel$State;") (by decide +kernel)) (fun _ h9 => h9) rfl dX2_shelve_28 ?_
    refine va_getN (D := D) (ci := 1) (v := .ref (b 1)) (C := RX1) (T := TX1) (N := 15) hx hb hts inX2_shelve_1 hown hK.1 hP 0 rfl rfl 3 (by decide) (va_Nw.use rfl hK.2.2.2.2.1) (fun _ h9 => h9) rfl dX2_shelve_31 ?_
    refine lv_iload_n hx hb dX2_shelve_34 rfl (lv_at hl 2 rfl) ?_
    refine lv_aload_n hx hb dX2_shelve_35 rfl (lv_at hl 1 rfl) ?_
    refine va_get (D := D) (ci := 2) (v := .ref q) (C := RX2) (T := TX2) (N := 5) hx hb hts inX2_shelve_2 hown hK.1 hP 10 rfl rfl 3 (by decide) (hts (.fieldLink RX2 12 "ChalkSlateModel" "s" "LChalkSlateModel$State;") (by decide +kernel)) (fun _ h9 => h9) rfl dX2_shelve_36 ?_
    refine va_getN (D := D) (ci := 1) (v := .ref (b 0)) (C := RX1) (T := TX1) (N := 15) hx hb hts inX2_shelve_1 hown hK.1 hP 0 rfl rfl 2 (by decide) (va_Nw.use rfl hK.2.2.2.1) (fun _ h9 => h9) rfl dX2_shelve_39 ?_
    refine lv_iload_n hx hb dX2_shelve_42 rfl (lv_at hl 2 rfl) ?_
    refine va_iald hx hb hK.1 hP 1 0 rfl rfl (isIn_vp (by decide) c1) dX2_shelve_43 ?_
    refine va_iast hx hb hK.1 hP hD hS 2 0 rfl rfl (isIn_vp (by decide) c1) dX2_shelve_44 (fun H locs hP hD hS => ?_)
    rw [cSM_set_1] at hP hD
    refine lv_aload_n hx hb dX2_shelve_45 rfl (lv_at hl 1 rfl) ?_
    refine va_get (D := D) (ci := 2) (v := .ref q) (C := RX2) (T := TX2) (N := 5) hx hb hts inX2_shelve_2 hown hK.1 hP 10 rfl rfl 3 (by decide) (hts (.fieldLink RX2 12 "ChalkSlateModel" "s" "LChalkSlateModel$State;") (by decide +kernel)) (fun _ h9 => h9) rfl dX2_shelve_46 ?_
    refine va_getN (D := D) (ci := 1) (v := .ref (b 2)) (C := RX1) (T := TX1) (N := 15) hx hb hts inX2_shelve_1 hown hK.1 hP 0 rfl rfl 4 (by decide) (va_Nw.use rfl hK.2.2.2.2.2.1) (fun _ h9 => h9) rfl dX2_shelve_49 ?_
    refine lv_iload_n hx hb dX2_shelve_52 rfl (lv_at hl 2 rfl) ?_
    refine lv_iload_n hx hb dX2_shelve_53 rfl (lv_at hl 0 rfl) ?_
    refine va_iast hx hb hK.1 hP hD hS 3 0 rfl rfl (isIn_vp (by decide) c1) dX2_shelve_54 (fun H locs hP hD hS => ?_)
    rw [cSM_set_2] at hP hD
    refine lv_aload_n hx hb dX2_shelve_55 rfl (lv_at hl 1 rfl) ?_
    refine va_get (D := D) (ci := 2) (v := .ref q) (C := RX2) (T := TX2) (N := 5) hx hb hts inX2_shelve_2 hown hK.1 hP 10 rfl rfl 3 (by decide) (hts (.fieldLink RX2 12 "ChalkSlateModel" "s" "LChalkSlateModel$State;") (by decide +kernel)) (fun _ h9 => h9) rfl dX2_shelve_56 ?_
    refine lv_iload_n hx hb dX2_shelve_59 rfl (lv_at hl 0 rfl) ?_
    have hlat := latN_le M u n
    refine wr_VI (q := (RX1, TX1, 15)) (ci := 1) (q0 := 0) (ws0' := cSM q b cy (setM (setM M 1 u.toNatClampNeg ((M 0) u.toNatClampNeg)) 2 u.toNatClampNeg (latestM M u n)) n (dryN dr (latN M u n)) an fi ba mo 0 nd fl q tq) (As := [.int (latestM M u n)]) (rest := []) ⟨hx, hb, hml, hown, hts⟩ (fun sz => mX1_dries l D cy q b (setM (setM M 1 u.toNatClampNeg ((M 0) u.toNatClampNeg)) 2 u.toNatClampNeg (latestM M u n)) n dr an fi ba mo 0 nd fl q tq (latestM M u n) (latN M u n) (by omega) (by omega) (by omega) (latN_eq M u n) (by omega) sz) (cwV 1 hts gX2_shelve_X1_dries rfl rfl rfl (by decide +kernel) ⟨Nat.le_of_ble_eq_true rfl, Nat.le_of_ble_eq_true rfl⟩) hP hK hD hS hA [0, 1, 2, 3, 4, 5, 6, 7, 8, 9, 10] [] [0, 1, 2, 3, 4, 5, 6, 7, 8, 9, 10] rfl rfl rfl (by decide) rfl rfl rfl rfl rfl rfl rfl hl.1 rfl (Nat.le_of_ble_eq_true rfl) dX2_shelve_60 (Nat.zero_le _) (Nat.zero_le _) (fun H locs hP hD hS => ?_)
    exact W.iret (v := nI (dryN dr (latN M u n)) - nI dr) hx hb hr (fun t ht hW => ⟨⟨(nI (dryN dr (latN M u n)) - nI dr), (), rfl, rfl, by show va_P D vwCl _ t.heap; rw [ht]; exact hP⟩, hS.F ht⟩) hS.2.2 dX2_shelve_63
  · refine lv_aload_n hx hb dX2_shelve_12 rfl (lv_at hl 0 rfl) ?_
    refine lv_iconst (v := 1) hx hb dX2_shelve_13 (by decide) ?_
    refine wr_VI (q := (RX2, TX2, 5)) (ci := 2) (q0 := 10) (ws0' := cSM q b cy M n dr an fi ba mo 1 nd fl q tq) (As := [.int 1]) (rest := []) ⟨hx, hb, hml, hown, hts⟩ (fun sz => mX2_no l D cy q b M n dr an fi ba mo 0 nd fl tq 1 (by omega) (by omega) (by omega)  sz) (cwV 1 hts gX2_shelve_X2_no rfl rfl rfl (by decide +kernel) ⟨Nat.le_of_ble_eq_true rfl, Nat.le_of_ble_eq_true rfl⟩) hP hK hD hS hA [0, 1, 2, 3, 4, 5, 6, 7, 8, 9, 10] [] [0, 1, 2, 3, 4, 5, 6, 7, 8, 9, 10] rfl rfl rfl (by decide) rfl rfl rfl rfl rfl rfl rfl hl.1 rfl (Nat.le_of_ble_eq_true rfl) dX2_shelve_14 (Nat.zero_le _) (Nat.zero_le _) (fun H locs hP hD hS => ?_)
    exact absurd (show (0 : Int32) = 1 by rw [← hout, potT, if_pos c1]) (by decide)

set_option maxHeartbeats 4000000 in
set_option maxRecDepth 100000 in
theorem mX2_shelve_no (l : Launch) (D : va_G) (cy : ClassId) (q : Nat) (b : Nat → Nat) (M : Nat → Nat → Int32) (n dr : Nat) (an fi ba : Int32) (mo : Nat) (th : Int32) (nd : Nat) (fl : Int32) (tq : Nat) (u : Int32) (hnd : nd < 1000000) (hn : n ≤ 120) (hdr : dr ≤ 120) (k9 : Int32) (hout : potT u = k9) (hk9 : ¬ k9 = 0) (sz : Nat) : WrI l yX2_shelve wsX2_shelve 2 42 [.ref mo, .int u] D cy (cSM q b cy M n dr an fi ba mo th nd fl q tq) (cSM q b cy M n dr an fi ba mo k9 nd fl q tq) sz (0) := by
  refine Met.ofW (cc := cX2_shelve) (maxL := 3) (ret := (some .int)) (by decide) rfl ?_
  intro p e s m args below meth c s₁ B hml hv
  obtain ⟨rfl, hsz, hP, hK, hD0⟩ := hv
  have hx := B.exec
  have hb := B.bytes
  have hr := B.returns
  have hts := atoms_spec (ws := wsX2_shelve) B.pre
  have hown : s.vm.findClass RX2 = some m.cls := findClass_of_methodNamed B.named
  have hlocks := B.notSynchronized
  subst hsz
  have hD := hD0.self (sz := s.heap.size)
  generalize hAe : va_A (cSM q b cy M n dr an fi ba mo th nd fl q tq) s.heap.size = A at hD ⊢
  have hA : ∀ q : Nat, s.heap.size ≤ q → A q := fun q h => by rw [← hAe]; exact Or.inr h
  have hS : va_S A s.heap s.heap [] := va_S.rf
  have hl := lv_entry ([.ref mo, .int u]) (n := 3) (Nat.le_of_ble_eq_true rfl)
  rw [lg_entry_eq]
  generalize (lg_sl ([.ref mo, .int u]) ++ List.replicate (3 - (lg_sl ([.ref mo, .int u])).length) Slot.unset).toArray = ls at hl ⊢
  have hl : lv_has ls 3 [(0, .ref mo), (1, .int u)] := hl
  refine lv_aload_n hx hb dX2_shelve_0 rfl (lv_at hl 0 rfl) ?_
  refine lv_iconst (v := 0) hx hb dX2_shelve_1 (by decide) ?_
  refine va_put (D := D) (ci := 2) (v := .int 0) (ty := .int) (C := RX2) (T := TX2) (N := 5) hx hb hts inX2_shelve_2 tyX2 tyX2_ok nmX2 hown hK.1 hP hD hS 10 rfl rfl 0 (by decide) (hts (.fieldLink RX2 21 "ChalkSlateModel" "thrown" "I") (by decide +kernel)) (fun _ h9 => h9) rfl (by decide +kernel) rfl rfl (Nat.le_of_ble_eq_true rfl) dX2_shelve_2 (fun H locs hP hD hS => ?_)
  have hP : va_P D vwCl (cSM q b cy M n dr an fi ba mo 0 nd fl q tq) H := hP
  have hD : va_D A (cSM q b cy M n dr an fi ba mo 0 nd fl q tq) := hD
  refine lv_iload_n hx hb dX2_shelve_5 rfl (lv_at hl 1 rfl) ?_
  refine rd_S (As := [.int u]) (rest := []) ⟨hx, hb, hml, hown, hts⟩ (mX2_isPot l D cy u) (va_cwS 1 hts gX2_shelve_X2_isPot rfl rfl rfl (by decide +kernel) ⟨Nat.le_of_ble_eq_true rfl, Nat.le_of_ble_eq_true rfl⟩) (hP.sub (ws' := []) [] rfl) hK rfl hl.1 rfl (Nat.le_of_ble_eq_true rfl) dX2_shelve_6 (Nat.zero_le _) (Nat.zero_le _) ?_
  refine lv_if_ne (tgt := 18) hx hb dX2_shelve_9 (by decide) (fun c1 => ?_) (fun c1 => ?_)
  · exact absurd (show k9 = 0 by rw [← hout, potT, if_neg c1]) hk9
  · refine lv_aload_n hx hb dX2_shelve_12 rfl (lv_at hl 0 rfl) ?_
    refine lv_iconst (v := 1) hx hb dX2_shelve_13 (by decide) ?_
    refine wr_VI (q := (RX2, TX2, 5)) (ci := 2) (q0 := 10) (ws0' := cSM q b cy M n dr an fi ba mo 1 nd fl q tq) (As := [.int 1]) (rest := []) ⟨hx, hb, hml, hown, hts⟩ (fun sz => mX2_no l D cy q b M n dr an fi ba mo 0 nd fl tq 1 (by omega) (by omega) (by omega)  sz) (cwV 1 hts gX2_shelve_X2_no rfl rfl rfl (by decide +kernel) ⟨Nat.le_of_ble_eq_true rfl, Nat.le_of_ble_eq_true rfl⟩) hP hK hD hS hA [0, 1, 2, 3, 4, 5, 6, 7, 8, 9, 10] [] [0, 1, 2, 3, 4, 5, 6, 7, 8, 9, 10] rfl rfl rfl (by decide) rfl rfl rfl rfl rfl rfl rfl hl.1 rfl (Nat.le_of_ble_eq_true rfl) dX2_shelve_14 (Nat.zero_le _) (Nat.zero_le _) (fun H locs hP hD hS => ?_)
    have hk : k9 = 1 := by rw [← hout, potT, if_pos c1]
    subst hk
    exact W.iret (v := 0) hx hb hr (fun t ht hW => ⟨⟨0, (), rfl, rfl, by show va_P D vwCl _ t.heap; rw [ht]; exact hP⟩, hS.F ht⟩) hS.2.2 dX2_shelve_17

set_option maxRecDepth 100000 in
theorem inX2_blow_2 : ∀ w ∈ wsX20, w ∈ wsX2_blow := by decide +kernel

set_option maxRecDepth 100000 in
theorem inX2_blow_1 : ∀ w ∈ wsX10, w ∈ wsX2_blow := by decide +kernel

set_option maxHeartbeats 4000000 in
set_option maxRecDepth 100000 in
theorem mX2_blow (l : Launch) (D : va_G) (cy : ClassId) (q : Nat) (b : Nat → Nat) (M : Nat → Nat → Int32) (n dr : Nat) (an fi ba : Int32) (mo : Nat) (th : Int32) (nd : Nat) (fl : Int32) (tq : Nat)  (hnd : nd < 1000000) (hn : n ≤ 120) (hdr : dr ≤ 120) (sz : Nat) : WrI l yX2_blow wsX2_blow 2 36 [.ref mo] D cy (cSM q b cy M n dr an fi ba mo th nd fl q tq) (cSM q b cy M n (dryN dr n) an fi ba mo 0 nd fl q tq) sz (nI (dryN dr n) - nI dr) := by
  refine Met.ofW (cc := cX2_blow) (maxL := 1) (ret := (some .int)) (by decide) rfl ?_
  intro p e s m args below meth c s₁ B hml hv
  obtain ⟨rfl, hsz, hP, hK, hD0⟩ := hv
  have hx := B.exec
  have hb := B.bytes
  have hr := B.returns
  have hts := atoms_spec (ws := wsX2_blow) B.pre
  have hown : s.vm.findClass RX2 = some m.cls := findClass_of_methodNamed B.named
  have hlocks := B.notSynchronized
  subst hsz
  have hD := hD0.self (sz := s.heap.size)
  generalize hAe : va_A (cSM q b cy M n dr an fi ba mo th nd fl q tq) s.heap.size = A at hD ⊢
  have hA : ∀ q : Nat, s.heap.size ≤ q → A q := fun q h => by rw [← hAe]; exact Or.inr h
  have hS : va_S A s.heap s.heap [] := va_S.rf
  have hl := lv_entry ([.ref mo]) (n := 1) (Nat.le_of_ble_eq_true rfl)
  rw [lg_entry_eq]
  generalize (lg_sl ([.ref mo]) ++ List.replicate (1 - (lg_sl ([.ref mo])).length) Slot.unset).toArray = ls at hl ⊢
  have hl : lv_has ls 1 [(0, .ref mo)] := hl
  refine lv_aload_n hx hb dX2_blow_0 rfl (lv_at hl 0 rfl) ?_
  refine lv_iconst (v := 0) hx hb dX2_blow_1 (by decide) ?_
  refine va_put (D := D) (ci := 2) (v := .int 0) (ty := .int) (C := RX2) (T := TX2) (N := 5) hx hb hts inX2_blow_2 tyX2 tyX2_ok nmX2 hown hK.1 hP hD hS 10 rfl rfl 0 (by decide) (hts (.fieldLink RX2 21 "ChalkSlateModel" "thrown" "I") (by decide +kernel)) (fun _ h9 => h9) rfl (by decide +kernel) rfl rfl (Nat.le_of_ble_eq_true rfl) dX2_blow_2 (fun H locs hP hD hS => ?_)
  have hP : va_P D vwCl (cSM q b cy M n dr an fi ba mo 0 nd fl q tq) H := hP
  have hD : va_D A (cSM q b cy M n dr an fi ba mo 0 nd fl q tq) := hD
  refine lv_aload_n hx hb dX2_blow_5 rfl (lv_at hl 0 rfl) ?_
  refine va_get (D := D) (ci := 2) (v := .ref q) (C := RX2) (T := TX2) (N := 5) hx hb hts inX2_blow_2 hown hK.1 hP 10 rfl rfl 3 (by decide) (hts (.fieldLink RX2 12 "ChalkSlateModel" "s" "LChalkSlateModel$State;") (by decide +kernel)) (fun _ h9 => h9) rfl dX2_blow_6 ?_
  refine lv_aload_n hx hb dX2_blow_9 rfl (lv_at hl 0 rfl) ?_
  refine va_get (D := D) (ci := 2) (v := .ref q) (C := RX2) (T := TX2) (N := 5) hx hb hts inX2_blow_2 hown hK.1 hP 10 rfl rfl 3 (by decide) (hts (.fieldLink RX2 12 "ChalkSlateModel" "s" "LChalkSlateModel$State;") (by decide +kernel)) (fun _ h9 => h9) rfl dX2_blow_10 ?_
  refine va_getN (D := D) (ci := 1) (v := .int (nI n)) (C := RX1) (T := TX1) (N := 15) hx hb hts inX2_blow_1 hown hK.1 hP 0 rfl rfl 0 (by decide) (va_Nw.use rfl hK.2.1) (fun _ h9 => h9) rfl dX2_blow_13 ?_
  refine lv_iconst (v := 1) hx hb dX2_blow_16 (by decide) ?_
  refine lv_isub hx hb dX2_blow_17 ?_
  refine wr_VI (q := (RX1, TX1, 15)) (ci := 1) (q0 := 0) (ws0' := cSM q b cy M n (dryN dr n) an fi ba mo 0 nd fl q tq) (As := [.int ((nI n) - 1)]) (rest := []) ⟨hx, hb, hml, hown, hts⟩ (fun sz => mX1_dries l D cy q b M n dr an fi ba mo 0 nd fl q tq ((nI n) - 1) n (by omega) (by omega) (by omega) (sub1_add1 _) (by omega) sz) (cwV 1 hts gX2_blow_X1_dries rfl rfl rfl (by decide +kernel) ⟨Nat.le_of_ble_eq_true rfl, Nat.le_of_ble_eq_true rfl⟩) hP hK hD hS hA [0, 1, 2, 3, 4, 5, 6, 7, 8, 9, 10] [] [0, 1, 2, 3, 4, 5, 6, 7, 8, 9, 10] rfl rfl rfl (by decide) rfl rfl rfl rfl rfl rfl rfl hl.1 rfl (Nat.le_of_ble_eq_true rfl) dX2_blow_18 (Nat.zero_le _) (Nat.zero_le _) (fun H locs hP hD hS => ?_)
  exact W.iret (v := nI (dryN dr n) - nI dr) hx hb hr (fun t ht hW => ⟨⟨(nI (dryN dr n) - nI dr), (), rfl, rfl, by show va_P D vwCl _ t.heap; rw [ht]; exact hP⟩, hS.F ht⟩) hS.2.2 dX2_blow_21

set_option maxRecDepth 100000 in
theorem inX2_fall_2 : ∀ w ∈ wsX20, w ∈ wsX2_fall := by decide +kernel

set_option maxRecDepth 100000 in
theorem inX2_fall_1 : ∀ w ∈ wsX10, w ∈ wsX2_fall := by decide +kernel

set_option maxHeartbeats 4000000 in
set_option maxRecDepth 100000 in
theorem mX2_fall (l : Launch) (D : va_G) (cy : ClassId) (q : Nat) (b : Nat → Nat) (M : Nat → Nat → Int32) (n dr : Nat) (an fi ba : Int32) (mo : Nat) (th : Int32) (nd : Nat) (fl : Int32) (tq : Nat)  (hnd : nd < 1000000) (hn : n ≤ 120) (hdr : dr ≤ 120) (hok : fallOk M nd dr) (sz : Nat) : WrI l yX2_fall wsX2_fall 4 91 [.ref mo] D cy (cSM q b cy M n dr an fi ba mo th nd fl q tq) (cSM q b cy ((fallM3 M nd dr).1) ((fallM3 M nd dr).2.1) dr ((fallM2 M dr).2.1) ((fallM2 M dr).2.2) ((fallM3 M nd dr).2.2) mo 0 nd (fl + 1) q tq) sz ((fallM2 M dr).2.1) := by
  refine Met.ofW (cc := cX2_fall) (maxL := 1) (ret := (some .int)) (by decide) rfl ?_
  intro p e s m args below meth c s₁ B hml hv
  obtain ⟨rfl, hsz, hP, hK, hD0⟩ := hv
  have hx := B.exec
  have hb := B.bytes
  have hr := B.returns
  have hts := atoms_spec (ws := wsX2_fall) B.pre
  have hown : s.vm.findClass RX2 = some m.cls := findClass_of_methodNamed B.named
  have hlocks := B.notSynchronized
  subst hsz
  have hD := hD0.self (sz := s.heap.size)
  generalize hAe : va_A (cSM q b cy M n dr an fi ba mo th nd fl q tq) s.heap.size = A at hD ⊢
  have hA : ∀ q : Nat, s.heap.size ≤ q → A q := fun q h => by rw [← hAe]; exact Or.inr h
  have hS : va_S A s.heap s.heap [] := va_S.rf
  have hl := lv_entry ([.ref mo]) (n := 1) (Nat.le_of_ble_eq_true rfl)
  rw [lg_entry_eq]
  generalize (lg_sl ([.ref mo]) ++ List.replicate (1 - (lg_sl ([.ref mo])).length) Slot.unset).toArray = ls at hl ⊢
  have hl : lv_has ls 1 [(0, .ref mo)] := hl
  refine lv_aload_n hx hb dX2_fall_0 rfl (lv_at hl 0 rfl) ?_
  refine lv_iconst (v := 0) hx hb dX2_fall_1 (by decide) ?_
  refine va_put (D := D) (ci := 2) (v := .int 0) (ty := .int) (C := RX2) (T := TX2) (N := 5) hx hb hts inX2_fall_2 tyX2 tyX2_ok nmX2 hown hK.1 hP hD hS 10 rfl rfl 0 (by decide) (hts (.fieldLink RX2 21 "ChalkSlateModel" "thrown" "I") (by decide +kernel)) (fun _ h9 => h9) rfl (by decide +kernel) rfl rfl (Nat.le_of_ble_eq_true rfl) dX2_fall_2 (fun H locs hP hD hS => ?_)
  have hP : va_P D vwCl (cSM q b cy M n dr an fi ba mo 0 nd fl q tq) H := hP
  have hD : va_D A (cSM q b cy M n dr an fi ba mo 0 nd fl q tq) := hD
  refine lv_aload_n hx hb dX2_fall_5 rfl (lv_at hl 0 rfl) ?_
  refine va_get (D := D) (ci := 2) (v := .ref q) (C := RX2) (T := TX2) (N := 5) hx hb hts inX2_fall_2 hown hK.1 hP 10 rfl rfl 3 (by decide) (hts (.fieldLink RX2 12 "ChalkSlateModel" "s" "LChalkSlateModel$State;") (by decide +kernel)) (fun _ h9 => h9) rfl dX2_fall_6 ?_
  refine wr_VV (q := (RX1, TX1, 15)) (ci := 1) (q0 := 0) (ws0' := cSM q b cy ((fallM3 M nd dr).1) ((fallM3 M nd dr).2.1) dr ((fallM2 M dr).2.1) ((fallM2 M dr).2.2) ((fallM3 M nd dr).2.2) mo 0 nd fl q tq) (As := []) (rest := []) ⟨hx, hb, hml, hown, hts⟩ (fun sz => mX1_fall l D cy q b M n dr an fi ba mo 0 nd fl q tq  (by omega) (by omega) (by omega) hok sz) (cwV 0 hts gX2_fall_X1_fall rfl rfl rfl (by decide +kernel) ⟨Nat.le_of_ble_eq_true rfl, Nat.le_of_ble_eq_true rfl⟩) hP hK hD hS hA [0, 1, 2, 3, 4, 5, 6, 7, 8, 9, 10] [] [0, 1, 2, 3, 4, 5, 6, 7, 8, 9, 10] rfl rfl rfl (by decide) rfl rfl rfl rfl rfl rfl rfl hl.1 rfl (Nat.le_of_ble_eq_true rfl) dX2_fall_9 (Nat.zero_le _) (Nat.zero_le _) (fun H locs hP hD hS => ?_)
  refine lv_aload_n hx hb dX2_fall_12 rfl (lv_at hl 0 rfl) ?_
  refine lv_dup hx hb dX2_fall_13 rfl ?_
  refine va_get (D := D) (ci := 2) (v := .int fl) (C := RX2) (T := TX2) (N := 5) hx hb hts inX2_fall_2 hown hK.1 hP 10 rfl rfl 2 (by decide) (hts (.fieldLink RX2 85 "ChalkSlateModel" "falls" "I") (by decide +kernel)) (fun _ h9 => h9) rfl dX2_fall_14 ?_
  refine lv_iconst (v := 1) hx hb dX2_fall_17 (by decide) ?_
  refine lv_iadd hx hb dX2_fall_18 ?_
  refine va_put (D := D) (ci := 2) (v := .int (fl + 1)) (ty := .int) (C := RX2) (T := TX2) (N := 5) hx hb hts inX2_fall_2 tyX2 tyX2_ok nmX2 hown hK.1 hP hD hS 10 rfl rfl 2 (by decide) (hts (.fieldLink RX2 85 "ChalkSlateModel" "falls" "I") (by decide +kernel)) (fun _ h9 => h9) rfl (by decide +kernel) rfl rfl (Nat.le_of_ble_eq_true rfl) dX2_fall_19 (fun H locs hP hD hS => ?_)
  have hP : va_P D vwCl (cSM q b cy ((fallM3 M nd dr).1) ((fallM3 M nd dr).2.1) dr ((fallM2 M dr).2.1) ((fallM2 M dr).2.2) ((fallM3 M nd dr).2.2) mo 0 nd (fl + 1) q tq) H := hP
  have hD : va_D A (cSM q b cy ((fallM3 M nd dr).1) ((fallM3 M nd dr).2.1) dr ((fallM2 M dr).2.1) ((fallM2 M dr).2.2) ((fallM3 M nd dr).2.2) mo 0 nd (fl + 1) q tq) := hD
  refine lv_aload_n hx hb dX2_fall_22 rfl (lv_at hl 0 rfl) ?_
  refine va_get (D := D) (ci := 2) (v := .ref q) (C := RX2) (T := TX2) (N := 5) hx hb hts inX2_fall_2 hown hK.1 hP 10 rfl rfl 3 (by decide) (hts (.fieldLink RX2 12 "ChalkSlateModel" "s" "LChalkSlateModel$State;") (by decide +kernel)) (fun _ h9 => h9) rfl dX2_fall_23 ?_
  refine va_getN (D := D) (ci := 1) (v := .int ((fallM2 M dr).2.1)) (C := RX1) (T := TX1) (N := 15) hx hb hts inX2_fall_1 hown hK.1 hP 0 rfl rfl 11 (by decide) (va_Nw.use rfl hK.2.2.2.2.2.2.2.2.2.2.2.2.1) (fun _ h9 => h9) rfl dX2_fall_26 ?_
  exact W.iret (v := (fallM2 M dr).2.1) hx hb hr (fun t ht hW => ⟨⟨((fallM2 M dr).2.1), (), rfl, rfl, by show va_P D vwCl _ t.heap; rw [ht]; exact hP⟩, hS.F ht⟩) hS.2.2 dX2_fall_29

set_option maxRecDepth 100000 in
theorem inX2_pot_2 : ∀ w ∈ wsX20, w ∈ wsX2_pot := by decide +kernel

set_option maxRecDepth 100000 in
theorem inX2_pot_1 : ∀ w ∈ wsX10, w ∈ wsX2_pot := by decide +kernel

set_option maxHeartbeats 4000000 in
set_option maxRecDepth 100000 in
theorem mX2_pot_ok (l : Launch) (D : va_G) (cy : ClassId) (q : Nat) (b : Nat → Nat) (M : Nat → Nat → Int32) (n dr : Nat) (an fi ba : Int32) (mo : Nat) (th : Int32) (nd : Nat) (fl : Int32) (tq : Nat) (u w : Int32) (hnd : nd < 1000000) (hn : n ≤ 120) (hdr : dr ≤ 120) (hout : potqT u w = 0) (sz : Nat) : WnI l yX2_pot wsX2_pot 4 92 1 5 [.ref mo, .int u, .int w] D cy (cSM q b cy M n dr an fi ba mo th nd fl q tq) (cSM q b cy M n dr an fi ba mo 0 nd fl q tq) sz (potTM M n nd u w) := by
  refine Met.ofW (cc := cX2_pot) (maxL := 3) (ret := (some .int)) (by decide) rfl ?_
  intro p e s m args below meth c s₁ B hml hv
  obtain ⟨rfl, hsz, hP, hK, hD0⟩ := hv
  have hx := B.exec
  have hb := B.bytes
  have hr := B.returns
  have hts := atoms_spec (ws := wsX2_pot) B.pre
  have hown : s.vm.findClass RX2 = some m.cls := findClass_of_methodNamed B.named
  have hlocks := B.notSynchronized
  subst hsz
  have hD := hD0.self (sz := s.heap.size)
  generalize hAe : va_A (cSM q b cy M n dr an fi ba mo th nd fl q tq) s.heap.size = A at hD ⊢
  have hA : ∀ q : Nat, s.heap.size ≤ q → A q := fun q h => by rw [← hAe]; exact Or.inr h
  have hS : va_S A s.heap s.heap [] := va_S.rf
  have hl := lv_entry ([.ref mo, .int u, .int w]) (n := 3) (Nat.le_of_ble_eq_true rfl)
  rw [lg_entry_eq]
  generalize (lg_sl ([.ref mo, .int u, .int w]) ++ List.replicate (3 - (lg_sl ([.ref mo, .int u, .int w])).length) Slot.unset).toArray = ls at hl ⊢
  have hl : lv_has ls 3 [(0, .ref mo), (1, .int u), (2, .int w)] := hl
  refine lv_aload_n hx hb dX2_pot_0 rfl (lv_at hl 0 rfl) ?_
  refine lv_iconst (v := 0) hx hb dX2_pot_1 (by decide) ?_
  refine va_put (D := D) (ci := 2) (v := .int 0) (ty := .int) (C := RX2) (T := TX2) (N := 5) hx hb hts inX2_pot_2 tyX2 tyX2_ok nmX2 hown hK.1 hP hD hS 10 rfl rfl 0 (by decide) (hts (.fieldLink RX2 21 "ChalkSlateModel" "thrown" "I") (by decide +kernel)) (fun _ h9 => h9) rfl (by decide +kernel) rfl rfl (Nat.le_of_ble_eq_true rfl) dX2_pot_2 (fun H locs hP hD hS => ?_)
  have hP : va_P D vwCl (cSM q b cy M n dr an fi ba mo 0 nd fl q tq) H := hP
  have hD : va_D A (cSM q b cy M n dr an fi ba mo 0 nd fl q tq) := hD
  refine lv_iload_n hx hb dX2_pot_5 rfl (lv_at hl 1 rfl) ?_
  refine rd_S (As := [.int u]) (rest := []) ⟨hx, hb, hml, hown, hts⟩ (mX2_isPot l D cy u) (va_cwS 1 hts gX2_pot_X2_isPot rfl rfl rfl (by decide +kernel) ⟨Nat.le_of_ble_eq_true rfl, Nat.le_of_ble_eq_true rfl⟩) (hP.sub (ws' := []) [] rfl) hK rfl hl.1 rfl (Nat.le_of_ble_eq_true rfl) dX2_pot_6 (Nat.le_of_ble_eq_true rfl) (Nat.le_of_ble_eq_true rfl) ?_
  refine lv_if_eq (tgt := 30) hx hb dX2_pot_9 (by decide) (fun c1 => ?_) (fun c1 => ?_)
  · refine lv_aload_n hx hb dX2_pot_30 rfl (lv_at hl 0 rfl) ?_
    refine lv_iconst (v := 1) hx hb dX2_pot_31 (by decide) ?_
    refine wr_VI (q := (RX2, TX2, 5)) (ci := 2) (q0 := 10) (ws0' := cSM q b cy M n dr an fi ba mo 1 nd fl q tq) (As := [.int 1]) (rest := []) ⟨hx, hb, hml, hown, hts⟩ (fun sz => mX2_no l D cy q b M n dr an fi ba mo 0 nd fl tq 1 (by omega) (by omega) (by omega)  sz) (cwV 1 hts gX2_pot_X2_no rfl rfl rfl (by decide +kernel) ⟨Nat.le_of_ble_eq_true rfl, Nat.le_of_ble_eq_true rfl⟩) hP hK hD hS hA [0, 1, 2, 3, 4, 5, 6, 7, 8, 9, 10] [] [0, 1, 2, 3, 4, 5, 6, 7, 8, 9, 10] rfl rfl rfl (by decide) rfl rfl rfl rfl rfl rfl rfl hl.1 rfl (Nat.le_of_ble_eq_true rfl) dX2_pot_32 (Nat.le_of_ble_eq_true rfl) (Nat.le_of_ble_eq_true rfl) (fun H locs hP hD hS => ?_)
    exact absurd (show (0 : Int32) = 1 by rw [← hout, potqT, if_pos c1]) (by decide)
  · refine lv_iload_n hx hb dX2_pot_12 rfl (lv_at hl 2 rfl) ?_
    refine lv_iconst (v := 0) hx hb dX2_pot_13 (by decide) ?_
    refine lv_iconst (v := 4) hx hb dX2_pot_14 (by decide) ?_
    refine rd_S (As := [.int w, .int 0, .int 4]) (rest := []) ⟨hx, hb, hml, hown, hts⟩ (mX2_isIn l D cy w 0 4) (va_cwS 3 hts gX2_pot_X2_isIn rfl rfl rfl (by decide +kernel) ⟨Nat.le_of_ble_eq_true rfl, Nat.le_of_ble_eq_true rfl⟩) (hP.sub (ws' := []) [] rfl) hK rfl hl.1 rfl (Nat.le_of_ble_eq_true rfl) dX2_pot_15 (Nat.le_of_ble_eq_true rfl) (Nat.le_of_ble_eq_true rfl) ?_
    refine lv_if_eq (tgt := 30) hx hb dX2_pot_18 (by decide) (fun c2 => ?_) (fun c2 => ?_)
    · refine lv_aload_n hx hb dX2_pot_30 rfl (lv_at hl 0 rfl) ?_
      refine lv_iconst (v := 1) hx hb dX2_pot_31 (by decide) ?_
      refine wr_VI (q := (RX2, TX2, 5)) (ci := 2) (q0 := 10) (ws0' := cSM q b cy M n dr an fi ba mo 1 nd fl q tq) (As := [.int 1]) (rest := []) ⟨hx, hb, hml, hown, hts⟩ (fun sz => mX2_no l D cy q b M n dr an fi ba mo 0 nd fl tq 1 (by omega) (by omega) (by omega)  sz) (cwV 1 hts gX2_pot_X2_no rfl rfl rfl (by decide +kernel) ⟨Nat.le_of_ble_eq_true rfl, Nat.le_of_ble_eq_true rfl⟩) hP hK hD hS hA [0, 1, 2, 3, 4, 5, 6, 7, 8, 9, 10] [] [0, 1, 2, 3, 4, 5, 6, 7, 8, 9, 10] rfl rfl rfl (by decide) rfl rfl rfl rfl rfl rfl rfl hl.1 rfl (Nat.le_of_ble_eq_true rfl) dX2_pot_32 (Nat.le_of_ble_eq_true rfl) (Nat.le_of_ble_eq_true rfl) (fun H locs hP hD hS => ?_)
      exact absurd (show (0 : Int32) = 1 by rw [← hout, potqT, if_neg c1, if_pos c2]) (by decide)
    · refine lv_aload_n hx hb dX2_pot_21 rfl (lv_at hl 0 rfl) ?_
      refine lv_iload_n hx hb dX2_pot_22 rfl (lv_at hl 1 rfl) ?_
      refine lv_iload_n hx hb dX2_pot_23 rfl (lv_at hl 2 rfl) ?_
      refine wn_VI (q := (RX2, TX2, 5)) (ci := 2) (q0 := 10) (ws0' := cSM q b cy M n dr an fi ba mo 0 nd fl q tq) (As := [.int u, .int w]) (rest := []) ⟨hx, hb, hml, hown, hts⟩ (fun sz => mX2_potTold l D cy q b M n dr an fi ba mo 0 nd fl tq u w (by omega) (by omega) (by omega) (isIn_vp (by decide) c1) (isIn_vp (by decide) c2) sz) (cwV 2 hts gX2_pot_X2_potTold rfl rfl rfl (by decide +kernel) ⟨Nat.le_of_ble_eq_true rfl, Nat.le_of_ble_eq_true rfl⟩) hP hK hD hS hA [0, 1, 2, 3, 4, 5, 6, 7, 8, 9, 10] [] [0, 1, 2, 3, 4, 5, 6, 7, 8, 9, 10] rfl rfl rfl (by decide) rfl rfl rfl rfl rfl rfl rfl hl.1 rfl (Nat.le_of_ble_eq_true rfl) dX2_pot_24 (Nat.le_of_ble_eq_true rfl) (Nat.le_of_ble_eq_true rfl) (fun H locs hP hD hS => ?_)
      refine lv_goto (tgt := 35) hx hb dX2_pot_27 (by decide) ?_
      have hP : va_P D vwCl (cSM q b cy M n dr an fi ba mo 0 nd fl q tq) H := hP
      exact W.iret (v := potTM M n nd u w) hx hb hr (fun t ht hW => ⟨⟨(potTM M n nd u w), (), rfl, rfl, by show va_P D vwCl _ t.heap; rw [ht]; exact hP⟩, hS.F ht⟩) hS.2.2 dX2_pot_35

set_option maxHeartbeats 4000000 in
set_option maxRecDepth 100000 in
theorem mX2_pot_no (l : Launch) (D : va_G) (cy : ClassId) (q : Nat) (b : Nat → Nat) (M : Nat → Nat → Int32) (n dr : Nat) (an fi ba : Int32) (mo : Nat) (th : Int32) (nd : Nat) (fl : Int32) (tq : Nat) (u w : Int32) (hnd : nd < 1000000) (hn : n ≤ 120) (hdr : dr ≤ 120) (k9 : Int32) (hout : potqT u w = k9) (hk9 : ¬ k9 = 0) (sz : Nat) : WrI l yX2_pot wsX2_pot 2 42 [.ref mo, .int u, .int w] D cy (cSM q b cy M n dr an fi ba mo th nd fl q tq) (cSM q b cy M n dr an fi ba mo k9 nd fl q tq) sz (0) := by
  refine Met.ofW (cc := cX2_pot) (maxL := 3) (ret := (some .int)) (by decide) rfl ?_
  intro p e s m args below meth c s₁ B hml hv
  obtain ⟨rfl, hsz, hP, hK, hD0⟩ := hv
  have hx := B.exec
  have hb := B.bytes
  have hr := B.returns
  have hts := atoms_spec (ws := wsX2_pot) B.pre
  have hown : s.vm.findClass RX2 = some m.cls := findClass_of_methodNamed B.named
  have hlocks := B.notSynchronized
  subst hsz
  have hD := hD0.self (sz := s.heap.size)
  generalize hAe : va_A (cSM q b cy M n dr an fi ba mo th nd fl q tq) s.heap.size = A at hD ⊢
  have hA : ∀ q : Nat, s.heap.size ≤ q → A q := fun q h => by rw [← hAe]; exact Or.inr h
  have hS : va_S A s.heap s.heap [] := va_S.rf
  have hl := lv_entry ([.ref mo, .int u, .int w]) (n := 3) (Nat.le_of_ble_eq_true rfl)
  rw [lg_entry_eq]
  generalize (lg_sl ([.ref mo, .int u, .int w]) ++ List.replicate (3 - (lg_sl ([.ref mo, .int u, .int w])).length) Slot.unset).toArray = ls at hl ⊢
  have hl : lv_has ls 3 [(0, .ref mo), (1, .int u), (2, .int w)] := hl
  refine lv_aload_n hx hb dX2_pot_0 rfl (lv_at hl 0 rfl) ?_
  refine lv_iconst (v := 0) hx hb dX2_pot_1 (by decide) ?_
  refine va_put (D := D) (ci := 2) (v := .int 0) (ty := .int) (C := RX2) (T := TX2) (N := 5) hx hb hts inX2_pot_2 tyX2 tyX2_ok nmX2 hown hK.1 hP hD hS 10 rfl rfl 0 (by decide) (hts (.fieldLink RX2 21 "ChalkSlateModel" "thrown" "I") (by decide +kernel)) (fun _ h9 => h9) rfl (by decide +kernel) rfl rfl (Nat.le_of_ble_eq_true rfl) dX2_pot_2 (fun H locs hP hD hS => ?_)
  have hP : va_P D vwCl (cSM q b cy M n dr an fi ba mo 0 nd fl q tq) H := hP
  have hD : va_D A (cSM q b cy M n dr an fi ba mo 0 nd fl q tq) := hD
  refine lv_iload_n hx hb dX2_pot_5 rfl (lv_at hl 1 rfl) ?_
  refine rd_S (As := [.int u]) (rest := []) ⟨hx, hb, hml, hown, hts⟩ (mX2_isPot l D cy u) (va_cwS 1 hts gX2_pot_X2_isPot rfl rfl rfl (by decide +kernel) ⟨Nat.le_of_ble_eq_true rfl, Nat.le_of_ble_eq_true rfl⟩) (hP.sub (ws' := []) [] rfl) hK rfl hl.1 rfl (Nat.le_of_ble_eq_true rfl) dX2_pot_6 (Nat.zero_le _) (Nat.zero_le _) ?_
  refine lv_if_eq (tgt := 30) hx hb dX2_pot_9 (by decide) (fun c1 => ?_) (fun c1 => ?_)
  · refine lv_aload_n hx hb dX2_pot_30 rfl (lv_at hl 0 rfl) ?_
    refine lv_iconst (v := 1) hx hb dX2_pot_31 (by decide) ?_
    refine wr_VI (q := (RX2, TX2, 5)) (ci := 2) (q0 := 10) (ws0' := cSM q b cy M n dr an fi ba mo 1 nd fl q tq) (As := [.int 1]) (rest := []) ⟨hx, hb, hml, hown, hts⟩ (fun sz => mX2_no l D cy q b M n dr an fi ba mo 0 nd fl tq 1 (by omega) (by omega) (by omega)  sz) (cwV 1 hts gX2_pot_X2_no rfl rfl rfl (by decide +kernel) ⟨Nat.le_of_ble_eq_true rfl, Nat.le_of_ble_eq_true rfl⟩) hP hK hD hS hA [0, 1, 2, 3, 4, 5, 6, 7, 8, 9, 10] [] [0, 1, 2, 3, 4, 5, 6, 7, 8, 9, 10] rfl rfl rfl (by decide) rfl rfl rfl rfl rfl rfl rfl hl.1 rfl (Nat.le_of_ble_eq_true rfl) dX2_pot_32 (Nat.zero_le _) (Nat.zero_le _) (fun H locs hP hD hS => ?_)
    have hk : k9 = 1 := by rw [← hout, potqT, if_pos c1]
    subst hk
    exact W.iret (v := 0) hx hb hr (fun t ht hW => ⟨⟨0, (), rfl, rfl, by show va_P D vwCl _ t.heap; rw [ht]; exact hP⟩, hS.F ht⟩) hS.2.2 dX2_pot_35
  · refine lv_iload_n hx hb dX2_pot_12 rfl (lv_at hl 2 rfl) ?_
    refine lv_iconst (v := 0) hx hb dX2_pot_13 (by decide) ?_
    refine lv_iconst (v := 4) hx hb dX2_pot_14 (by decide) ?_
    refine rd_S (As := [.int w, .int 0, .int 4]) (rest := []) ⟨hx, hb, hml, hown, hts⟩ (mX2_isIn l D cy w 0 4) (va_cwS 3 hts gX2_pot_X2_isIn rfl rfl rfl (by decide +kernel) ⟨Nat.le_of_ble_eq_true rfl, Nat.le_of_ble_eq_true rfl⟩) (hP.sub (ws' := []) [] rfl) hK rfl hl.1 rfl (Nat.le_of_ble_eq_true rfl) dX2_pot_15 (Nat.zero_le _) (Nat.zero_le _) ?_
    refine lv_if_eq (tgt := 30) hx hb dX2_pot_18 (by decide) (fun c2 => ?_) (fun c2 => ?_)
    · refine lv_aload_n hx hb dX2_pot_30 rfl (lv_at hl 0 rfl) ?_
      refine lv_iconst (v := 1) hx hb dX2_pot_31 (by decide) ?_
      refine wr_VI (q := (RX2, TX2, 5)) (ci := 2) (q0 := 10) (ws0' := cSM q b cy M n dr an fi ba mo 1 nd fl q tq) (As := [.int 1]) (rest := []) ⟨hx, hb, hml, hown, hts⟩ (fun sz => mX2_no l D cy q b M n dr an fi ba mo 0 nd fl tq 1 (by omega) (by omega) (by omega)  sz) (cwV 1 hts gX2_pot_X2_no rfl rfl rfl (by decide +kernel) ⟨Nat.le_of_ble_eq_true rfl, Nat.le_of_ble_eq_true rfl⟩) hP hK hD hS hA [0, 1, 2, 3, 4, 5, 6, 7, 8, 9, 10] [] [0, 1, 2, 3, 4, 5, 6, 7, 8, 9, 10] rfl rfl rfl (by decide) rfl rfl rfl rfl rfl rfl rfl hl.1 rfl (Nat.le_of_ble_eq_true rfl) dX2_pot_32 (Nat.zero_le _) (Nat.zero_le _) (fun H locs hP hD hS => ?_)
      have hk : k9 = 1 := by rw [← hout, potqT, if_neg c1, if_pos c2]
      subst hk
      exact W.iret (v := 0) hx hb hr (fun t ht hW => ⟨⟨0, (), rfl, rfl, by show va_P D vwCl _ t.heap; rw [ht]; exact hP⟩, hS.F ht⟩) hS.2.2 dX2_pot_35
    · exact absurd (show k9 = 0 by rw [← hout, potqT, if_neg c1, if_neg c2]) hk9

set_option maxRecDepth 100000 in
theorem inX2_dish_2 : ∀ w ∈ wsX20, w ∈ wsX2_dish := by decide +kernel

set_option maxRecDepth 100000 in
theorem inX2_dish_1 : ∀ w ∈ wsX10, w ∈ wsX2_dish := by decide +kernel

set_option maxHeartbeats 4000000 in
set_option maxRecDepth 100000 in
theorem mX2_dish_ok (l : Launch) (D : va_G) (cy : ClassId) (q : Nat) (b : Nat → Nat) (M : Nat → Nat → Int32) (n dr : Nat) (an fi ba : Int32) (mo : Nat) (th : Int32) (nd : Nat) (fl : Int32) (tq : Nat) (d w : Int32) (hnd : nd < 1000000) (hn : n ≤ 120) (hdr : dr ≤ 120) (hout : dishqT nd d w = 0) (sz : Nat) : WnI l yX2_dish wsX2_dish 4 93 1 5 [.ref mo, .int d, .int w] D cy (cSM q b cy M n dr an fi ba mo th nd fl q tq) (cSM q b cy M n dr an fi ba mo 0 nd fl q tq) sz (dishTM M n d w) := by
  refine Met.ofW (cc := cX2_dish) (maxL := 3) (ret := (some .int)) (by decide) rfl ?_
  intro p e s m args below meth c s₁ B hml hv
  obtain ⟨rfl, hsz, hP, hK, hD0⟩ := hv
  have hx := B.exec
  have hb := B.bytes
  have hr := B.returns
  have hts := atoms_spec (ws := wsX2_dish) B.pre
  have hown : s.vm.findClass RX2 = some m.cls := findClass_of_methodNamed B.named
  have hlocks := B.notSynchronized
  subst hsz
  have hD := hD0.self (sz := s.heap.size)
  generalize hAe : va_A (cSM q b cy M n dr an fi ba mo th nd fl q tq) s.heap.size = A at hD ⊢
  have hA : ∀ q : Nat, s.heap.size ≤ q → A q := fun q h => by rw [← hAe]; exact Or.inr h
  have hS : va_S A s.heap s.heap [] := va_S.rf
  have hl := lv_entry ([.ref mo, .int d, .int w]) (n := 3) (Nat.le_of_ble_eq_true rfl)
  rw [lg_entry_eq]
  generalize (lg_sl ([.ref mo, .int d, .int w]) ++ List.replicate (3 - (lg_sl ([.ref mo, .int d, .int w])).length) Slot.unset).toArray = ls at hl ⊢
  have hl : lv_has ls 3 [(0, .ref mo), (1, .int d), (2, .int w)] := hl
  refine lv_aload_n hx hb dX2_dish_0 rfl (lv_at hl 0 rfl) ?_
  refine lv_iconst (v := 0) hx hb dX2_dish_1 (by decide) ?_
  refine va_put (D := D) (ci := 2) (v := .int 0) (ty := .int) (C := RX2) (T := TX2) (N := 5) hx hb hts inX2_dish_2 tyX2 tyX2_ok nmX2 hown hK.1 hP hD hS 10 rfl rfl 0 (by decide) (hts (.fieldLink RX2 21 "ChalkSlateModel" "thrown" "I") (by decide +kernel)) (fun _ h9 => h9) rfl (by decide +kernel) rfl rfl (Nat.le_of_ble_eq_true rfl) dX2_dish_2 (fun H locs hP hD hS => ?_)
  have hP : va_P D vwCl (cSM q b cy M n dr an fi ba mo 0 nd fl q tq) H := hP
  have hD : va_D A (cSM q b cy M n dr an fi ba mo 0 nd fl q tq) := hD
  refine lv_aload_n hx hb dX2_dish_5 rfl (lv_at hl 0 rfl) ?_
  refine lv_iload_n hx hb dX2_dish_6 rfl (lv_at hl 1 rfl) ?_
  refine rd_V (q := (RX2, TX2, 5)) (ci := 2) (q0 := 10) (As := [.int d]) (rest := []) ⟨hx, hb, hml, hown, hts⟩ (mX2_isDish l D cy q b M n dr an fi ba mo 0 nd fl tq d (by omega) (by omega) (by omega) ) (cwV 1 hts gX2_dish_X2_isDish rfl rfl rfl (by decide +kernel) ⟨Nat.le_of_ble_eq_true rfl, Nat.le_of_ble_eq_true rfl⟩) hP hK rfl rfl rfl hl.1 rfl (Nat.le_of_ble_eq_true rfl) dX2_dish_7 (Nat.le_of_ble_eq_true rfl) (Nat.le_of_ble_eq_true rfl) ?_
  refine lv_if_eq (tgt := 31) hx hb dX2_dish_10 (by decide) (fun c1 => ?_) (fun c1 => ?_)
  · refine lv_aload_n hx hb dX2_dish_31 rfl (lv_at hl 0 rfl) ?_
    refine lv_iconst (v := 1) hx hb dX2_dish_32 (by decide) ?_
    refine wr_VI (q := (RX2, TX2, 5)) (ci := 2) (q0 := 10) (ws0' := cSM q b cy M n dr an fi ba mo 1 nd fl q tq) (As := [.int 1]) (rest := []) ⟨hx, hb, hml, hown, hts⟩ (fun sz => mX2_no l D cy q b M n dr an fi ba mo 0 nd fl tq 1 (by omega) (by omega) (by omega)  sz) (cwV 1 hts gX2_dish_X2_no rfl rfl rfl (by decide +kernel) ⟨Nat.le_of_ble_eq_true rfl, Nat.le_of_ble_eq_true rfl⟩) hP hK hD hS hA [0, 1, 2, 3, 4, 5, 6, 7, 8, 9, 10] [] [0, 1, 2, 3, 4, 5, 6, 7, 8, 9, 10] rfl rfl rfl (by decide) rfl rfl rfl rfl rfl rfl rfl hl.1 rfl (Nat.le_of_ble_eq_true rfl) dX2_dish_33 (Nat.le_of_ble_eq_true rfl) (Nat.le_of_ble_eq_true rfl) (fun H locs hP hD hS => ?_)
    exact absurd (show (0 : Int32) = 1 by rw [← hout, dishqT, if_pos c1]) (by decide)
  · refine lv_iload_n hx hb dX2_dish_13 rfl (lv_at hl 2 rfl) ?_
    refine lv_iconst (v := 0) hx hb dX2_dish_14 (by decide) ?_
    refine lv_iconst (v := 4) hx hb dX2_dish_15 (by decide) ?_
    refine rd_S (As := [.int w, .int 0, .int 4]) (rest := []) ⟨hx, hb, hml, hown, hts⟩ (mX2_isIn l D cy w 0 4) (va_cwS 3 hts gX2_dish_X2_isIn rfl rfl rfl (by decide +kernel) ⟨Nat.le_of_ble_eq_true rfl, Nat.le_of_ble_eq_true rfl⟩) (hP.sub (ws' := []) [] rfl) hK rfl hl.1 rfl (Nat.le_of_ble_eq_true rfl) dX2_dish_16 (Nat.le_of_ble_eq_true rfl) (Nat.le_of_ble_eq_true rfl) ?_
    refine lv_if_eq (tgt := 31) hx hb dX2_dish_19 (by decide) (fun c2 => ?_) (fun c2 => ?_)
    · refine lv_aload_n hx hb dX2_dish_31 rfl (lv_at hl 0 rfl) ?_
      refine lv_iconst (v := 1) hx hb dX2_dish_32 (by decide) ?_
      refine wr_VI (q := (RX2, TX2, 5)) (ci := 2) (q0 := 10) (ws0' := cSM q b cy M n dr an fi ba mo 1 nd fl q tq) (As := [.int 1]) (rest := []) ⟨hx, hb, hml, hown, hts⟩ (fun sz => mX2_no l D cy q b M n dr an fi ba mo 0 nd fl tq 1 (by omega) (by omega) (by omega)  sz) (cwV 1 hts gX2_dish_X2_no rfl rfl rfl (by decide +kernel) ⟨Nat.le_of_ble_eq_true rfl, Nat.le_of_ble_eq_true rfl⟩) hP hK hD hS hA [0, 1, 2, 3, 4, 5, 6, 7, 8, 9, 10] [] [0, 1, 2, 3, 4, 5, 6, 7, 8, 9, 10] rfl rfl rfl (by decide) rfl rfl rfl rfl rfl rfl rfl hl.1 rfl (Nat.le_of_ble_eq_true rfl) dX2_dish_33 (Nat.le_of_ble_eq_true rfl) (Nat.le_of_ble_eq_true rfl) (fun H locs hP hD hS => ?_)
      exact absurd (show (0 : Int32) = 1 by rw [← hout, dishqT, if_neg c1, if_pos c2]) (by decide)
    · refine lv_aload_n hx hb dX2_dish_22 rfl (lv_at hl 0 rfl) ?_
      refine lv_iload_n hx hb dX2_dish_23 rfl (lv_at hl 1 rfl) ?_
      refine lv_iload_n hx hb dX2_dish_24 rfl (lv_at hl 2 rfl) ?_
      refine wn_VI (q := (RX2, TX2, 5)) (ci := 2) (q0 := 10) (ws0' := cSM q b cy M n dr an fi ba mo 0 nd fl q tq) (As := [.int d, .int w]) (rest := []) ⟨hx, hb, hml, hown, hts⟩ (fun sz => mX2_dishTold l D cy q b M n dr an fi ba mo 0 nd fl tq d w (by omega) (by omega) (by omega) (isIn_vp (by decide) c2) sz) (cwV 2 hts gX2_dish_X2_dishTold rfl rfl rfl (by decide +kernel) ⟨Nat.le_of_ble_eq_true rfl, Nat.le_of_ble_eq_true rfl⟩) hP hK hD hS hA [0, 1, 2, 3, 4, 5, 6, 7, 8, 9, 10] [] [0, 1, 2, 3, 4, 5, 6, 7, 8, 9, 10] rfl rfl rfl (by decide) rfl rfl rfl rfl rfl rfl rfl hl.1 rfl (Nat.le_of_ble_eq_true rfl) dX2_dish_25 (Nat.le_of_ble_eq_true rfl) (Nat.le_of_ble_eq_true rfl) (fun H locs hP hD hS => ?_)
      refine lv_goto (tgt := 36) hx hb dX2_dish_28 (by decide) ?_
      have hP : va_P D vwCl (cSM q b cy M n dr an fi ba mo 0 nd fl q tq) H := hP
      exact W.iret (v := dishTM M n d w) hx hb hr (fun t ht hW => ⟨⟨(dishTM M n d w), (), rfl, rfl, by show va_P D vwCl _ t.heap; rw [ht]; exact hP⟩, hS.F ht⟩) hS.2.2 dX2_dish_36

set_option maxHeartbeats 4000000 in
set_option maxRecDepth 100000 in
theorem mX2_dish_no (l : Launch) (D : va_G) (cy : ClassId) (q : Nat) (b : Nat → Nat) (M : Nat → Nat → Int32) (n dr : Nat) (an fi ba : Int32) (mo : Nat) (th : Int32) (nd : Nat) (fl : Int32) (tq : Nat) (d w : Int32) (hnd : nd < 1000000) (hn : n ≤ 120) (hdr : dr ≤ 120) (k9 : Int32) (hout : dishqT nd d w = k9) (hk9 : ¬ k9 = 0) (sz : Nat) : WrI l yX2_dish wsX2_dish 2 43 [.ref mo, .int d, .int w] D cy (cSM q b cy M n dr an fi ba mo th nd fl q tq) (cSM q b cy M n dr an fi ba mo k9 nd fl q tq) sz (0) := by
  refine Met.ofW (cc := cX2_dish) (maxL := 3) (ret := (some .int)) (by decide) rfl ?_
  intro p e s m args below meth c s₁ B hml hv
  obtain ⟨rfl, hsz, hP, hK, hD0⟩ := hv
  have hx := B.exec
  have hb := B.bytes
  have hr := B.returns
  have hts := atoms_spec (ws := wsX2_dish) B.pre
  have hown : s.vm.findClass RX2 = some m.cls := findClass_of_methodNamed B.named
  have hlocks := B.notSynchronized
  subst hsz
  have hD := hD0.self (sz := s.heap.size)
  generalize hAe : va_A (cSM q b cy M n dr an fi ba mo th nd fl q tq) s.heap.size = A at hD ⊢
  have hA : ∀ q : Nat, s.heap.size ≤ q → A q := fun q h => by rw [← hAe]; exact Or.inr h
  have hS : va_S A s.heap s.heap [] := va_S.rf
  have hl := lv_entry ([.ref mo, .int d, .int w]) (n := 3) (Nat.le_of_ble_eq_true rfl)
  rw [lg_entry_eq]
  generalize (lg_sl ([.ref mo, .int d, .int w]) ++ List.replicate (3 - (lg_sl ([.ref mo, .int d, .int w])).length) Slot.unset).toArray = ls at hl ⊢
  have hl : lv_has ls 3 [(0, .ref mo), (1, .int d), (2, .int w)] := hl
  refine lv_aload_n hx hb dX2_dish_0 rfl (lv_at hl 0 rfl) ?_
  refine lv_iconst (v := 0) hx hb dX2_dish_1 (by decide) ?_
  refine va_put (D := D) (ci := 2) (v := .int 0) (ty := .int) (C := RX2) (T := TX2) (N := 5) hx hb hts inX2_dish_2 tyX2 tyX2_ok nmX2 hown hK.1 hP hD hS 10 rfl rfl 0 (by decide) (hts (.fieldLink RX2 21 "ChalkSlateModel" "thrown" "I") (by decide +kernel)) (fun _ h9 => h9) rfl (by decide +kernel) rfl rfl (Nat.le_of_ble_eq_true rfl) dX2_dish_2 (fun H locs hP hD hS => ?_)
  have hP : va_P D vwCl (cSM q b cy M n dr an fi ba mo 0 nd fl q tq) H := hP
  have hD : va_D A (cSM q b cy M n dr an fi ba mo 0 nd fl q tq) := hD
  refine lv_aload_n hx hb dX2_dish_5 rfl (lv_at hl 0 rfl) ?_
  refine lv_iload_n hx hb dX2_dish_6 rfl (lv_at hl 1 rfl) ?_
  refine rd_V (q := (RX2, TX2, 5)) (ci := 2) (q0 := 10) (As := [.int d]) (rest := []) ⟨hx, hb, hml, hown, hts⟩ (mX2_isDish l D cy q b M n dr an fi ba mo 0 nd fl tq d (by omega) (by omega) (by omega) ) (cwV 1 hts gX2_dish_X2_isDish rfl rfl rfl (by decide +kernel) ⟨Nat.le_of_ble_eq_true rfl, Nat.le_of_ble_eq_true rfl⟩) hP hK rfl rfl rfl hl.1 rfl (Nat.le_of_ble_eq_true rfl) dX2_dish_7 (Nat.zero_le _) (Nat.zero_le _) ?_
  refine lv_if_eq (tgt := 31) hx hb dX2_dish_10 (by decide) (fun c1 => ?_) (fun c1 => ?_)
  · refine lv_aload_n hx hb dX2_dish_31 rfl (lv_at hl 0 rfl) ?_
    refine lv_iconst (v := 1) hx hb dX2_dish_32 (by decide) ?_
    refine wr_VI (q := (RX2, TX2, 5)) (ci := 2) (q0 := 10) (ws0' := cSM q b cy M n dr an fi ba mo 1 nd fl q tq) (As := [.int 1]) (rest := []) ⟨hx, hb, hml, hown, hts⟩ (fun sz => mX2_no l D cy q b M n dr an fi ba mo 0 nd fl tq 1 (by omega) (by omega) (by omega)  sz) (cwV 1 hts gX2_dish_X2_no rfl rfl rfl (by decide +kernel) ⟨Nat.le_of_ble_eq_true rfl, Nat.le_of_ble_eq_true rfl⟩) hP hK hD hS hA [0, 1, 2, 3, 4, 5, 6, 7, 8, 9, 10] [] [0, 1, 2, 3, 4, 5, 6, 7, 8, 9, 10] rfl rfl rfl (by decide) rfl rfl rfl rfl rfl rfl rfl hl.1 rfl (Nat.le_of_ble_eq_true rfl) dX2_dish_33 (Nat.zero_le _) (Nat.zero_le _) (fun H locs hP hD hS => ?_)
    have hk : k9 = 1 := by rw [← hout, dishqT, if_pos c1]
    subst hk
    exact W.iret (v := 0) hx hb hr (fun t ht hW => ⟨⟨0, (), rfl, rfl, by show va_P D vwCl _ t.heap; rw [ht]; exact hP⟩, hS.F ht⟩) hS.2.2 dX2_dish_36
  · refine lv_iload_n hx hb dX2_dish_13 rfl (lv_at hl 2 rfl) ?_
    refine lv_iconst (v := 0) hx hb dX2_dish_14 (by decide) ?_
    refine lv_iconst (v := 4) hx hb dX2_dish_15 (by decide) ?_
    refine rd_S (As := [.int w, .int 0, .int 4]) (rest := []) ⟨hx, hb, hml, hown, hts⟩ (mX2_isIn l D cy w 0 4) (va_cwS 3 hts gX2_dish_X2_isIn rfl rfl rfl (by decide +kernel) ⟨Nat.le_of_ble_eq_true rfl, Nat.le_of_ble_eq_true rfl⟩) (hP.sub (ws' := []) [] rfl) hK rfl hl.1 rfl (Nat.le_of_ble_eq_true rfl) dX2_dish_16 (Nat.zero_le _) (Nat.zero_le _) ?_
    refine lv_if_eq (tgt := 31) hx hb dX2_dish_19 (by decide) (fun c2 => ?_) (fun c2 => ?_)
    · refine lv_aload_n hx hb dX2_dish_31 rfl (lv_at hl 0 rfl) ?_
      refine lv_iconst (v := 1) hx hb dX2_dish_32 (by decide) ?_
      refine wr_VI (q := (RX2, TX2, 5)) (ci := 2) (q0 := 10) (ws0' := cSM q b cy M n dr an fi ba mo 1 nd fl q tq) (As := [.int 1]) (rest := []) ⟨hx, hb, hml, hown, hts⟩ (fun sz => mX2_no l D cy q b M n dr an fi ba mo 0 nd fl tq 1 (by omega) (by omega) (by omega)  sz) (cwV 1 hts gX2_dish_X2_no rfl rfl rfl (by decide +kernel) ⟨Nat.le_of_ble_eq_true rfl, Nat.le_of_ble_eq_true rfl⟩) hP hK hD hS hA [0, 1, 2, 3, 4, 5, 6, 7, 8, 9, 10] [] [0, 1, 2, 3, 4, 5, 6, 7, 8, 9, 10] rfl rfl rfl (by decide) rfl rfl rfl rfl rfl rfl rfl hl.1 rfl (Nat.le_of_ble_eq_true rfl) dX2_dish_33 (Nat.zero_le _) (Nat.zero_le _) (fun H locs hP hD hS => ?_)
      have hk : k9 = 1 := by rw [← hout, dishqT, if_neg c1, if_pos c2]
      subst hk
      exact W.iret (v := 0) hx hb hr (fun t ht hW => ⟨⟨0, (), rfl, rfl, by show va_P D vwCl _ t.heap; rw [ht]; exact hP⟩, hS.F ht⟩) hS.2.2 dX2_dish_36
    · exact absurd (show k9 = 0 by rw [← hout, dishqT, if_neg c1, if_neg c2]) hk9

set_option maxRecDepth 100000 in
theorem inX2_line_2 : ∀ w ∈ wsX20, w ∈ wsX2_line := by decide +kernel

set_option maxRecDepth 100000 in
theorem inX2_line_1 : ∀ w ∈ wsX10, w ∈ wsX2_line := by decide +kernel

set_option maxHeartbeats 4000000 in
set_option maxRecDepth 100000 in
theorem mX2_line_ok (l : Launch) (D : va_G) (cy : ClassId) (q : Nat) (b : Nat → Nat) (M : Nat → Nat → Int32) (n dr : Nat) (an fi ba : Int32) (mo : Nat) (th : Int32) (nd : Nat) (fl : Int32) (tq : Nat) (u w : Int32) (hnd : nd < 1000000) (hn : n ≤ 120) (hdr : dr ≤ 120) (hout : lineqT n u w = 0) (sz : Nat) : WnI l yX2_line wsX2_line 1 23 1 7 [.ref mo, .int u, .int w] D cy (cSM q b cy M n dr an fi ba mo th nd fl q tq) (cSM q b cy M n dr an fi ba mo 0 nd fl q tq) sz (lineTM M dr u w) := by
  refine Met.ofW (cc := cX2_line) (maxL := 3) (ret := (some .int)) (by decide) rfl ?_
  intro p e s m args below meth c s₁ B hml hv
  obtain ⟨rfl, hsz, hP, hK, hD0⟩ := hv
  have hx := B.exec
  have hb := B.bytes
  have hr := B.returns
  have hts := atoms_spec (ws := wsX2_line) B.pre
  have hown : s.vm.findClass RX2 = some m.cls := findClass_of_methodNamed B.named
  have hlocks := B.notSynchronized
  subst hsz
  have hD := hD0.self (sz := s.heap.size)
  generalize hAe : va_A (cSM q b cy M n dr an fi ba mo th nd fl q tq) s.heap.size = A at hD ⊢
  have hA : ∀ q : Nat, s.heap.size ≤ q → A q := fun q h => by rw [← hAe]; exact Or.inr h
  have hS : va_S A s.heap s.heap [] := va_S.rf
  have hl := lv_entry ([.ref mo, .int u, .int w]) (n := 3) (Nat.le_of_ble_eq_true rfl)
  rw [lg_entry_eq]
  generalize (lg_sl ([.ref mo, .int u, .int w]) ++ List.replicate (3 - (lg_sl ([.ref mo, .int u, .int w])).length) Slot.unset).toArray = ls at hl ⊢
  have hl : lv_has ls 3 [(0, .ref mo), (1, .int u), (2, .int w)] := hl
  refine lv_aload_n hx hb dX2_line_0 rfl (lv_at hl 0 rfl) ?_
  refine lv_iconst (v := 0) hx hb dX2_line_1 (by decide) ?_
  refine va_put (D := D) (ci := 2) (v := .int 0) (ty := .int) (C := RX2) (T := TX2) (N := 5) hx hb hts inX2_line_2 tyX2 tyX2_ok nmX2 hown hK.1 hP hD hS 10 rfl rfl 0 (by decide) (hts (.fieldLink RX2 21 "ChalkSlateModel" "thrown" "I") (by decide +kernel)) (fun _ h9 => h9) rfl (by decide +kernel) rfl rfl (Nat.le_of_ble_eq_true rfl) dX2_line_2 (fun H locs hP hD hS => ?_)
  have hP : va_P D vwCl (cSM q b cy M n dr an fi ba mo 0 nd fl q tq) H := hP
  have hD : va_D A (cSM q b cy M n dr an fi ba mo 0 nd fl q tq) := hD
  refine lv_iload_n hx hb dX2_line_5 rfl (lv_at hl 1 rfl) ?_
  refine lv_iconst (v := 0) hx hb dX2_line_6 (by decide) ?_
  refine lv_aload_n hx hb dX2_line_7 rfl (lv_at hl 0 rfl) ?_
  refine va_get (D := D) (ci := 2) (v := .ref q) (C := RX2) (T := TX2) (N := 5) hx hb hts inX2_line_2 hown hK.1 hP 10 rfl rfl 3 (by decide) (hts (.fieldLink RX2 12 "ChalkSlateModel" "s" "LChalkSlateModel$State;") (by decide +kernel)) (fun _ h9 => h9) rfl dX2_line_8 ?_
  refine va_getN (D := D) (ci := 1) (v := .int (nI n)) (C := RX1) (T := TX1) (N := 15) hx hb hts inX2_line_1 hown hK.1 hP 0 rfl rfl 0 (by decide) (va_Nw.use rfl hK.2.1) (fun _ h9 => h9) rfl dX2_line_11 ?_
  refine lv_iconst (v := 1) hx hb dX2_line_14 (by decide) ?_
  refine lv_isub hx hb dX2_line_15 ?_
  refine rd_S (As := [.int u, .int 0, .int ((nI n) - 1)]) (rest := []) ⟨hx, hb, hml, hown, hts⟩ (mX2_isIn l D cy u 0 ((nI n) - 1)) (va_cwS 3 hts gX2_line_X2_isIn rfl rfl rfl (by decide +kernel) ⟨Nat.le_of_ble_eq_true rfl, Nat.le_of_ble_eq_true rfl⟩) (hP.sub (ws' := []) [] rfl) hK rfl hl.1 rfl (Nat.le_of_ble_eq_true rfl) dX2_line_16 (Nat.le_of_ble_eq_true rfl) (Nat.le_of_ble_eq_true rfl) ?_
  refine lv_if_eq (tgt := 41) hx hb dX2_line_19 (by decide) (fun c1 => ?_) (fun c1 => ?_)
  · refine lv_aload_n hx hb dX2_line_41 rfl (lv_at hl 0 rfl) ?_
    refine lv_iconst (v := 1) hx hb dX2_line_42 (by decide) ?_
    refine wr_VI (q := (RX2, TX2, 5)) (ci := 2) (q0 := 10) (ws0' := cSM q b cy M n dr an fi ba mo 1 nd fl q tq) (As := [.int 1]) (rest := []) ⟨hx, hb, hml, hown, hts⟩ (fun sz => mX2_no l D cy q b M n dr an fi ba mo 0 nd fl tq 1 (by omega) (by omega) (by omega)  sz) (cwV 1 hts gX2_line_X2_no rfl rfl rfl (by decide +kernel) ⟨Nat.le_of_ble_eq_true rfl, Nat.le_of_ble_eq_true rfl⟩) hP hK hD hS hA [0, 1, 2, 3, 4, 5, 6, 7, 8, 9, 10] [] [0, 1, 2, 3, 4, 5, 6, 7, 8, 9, 10] rfl rfl rfl (by decide) rfl rfl rfl rfl rfl rfl rfl hl.1 rfl (Nat.le_of_ble_eq_true rfl) dX2_line_43 (Nat.le_of_ble_eq_true rfl) (Nat.le_of_ble_eq_true rfl) (fun H locs hP hD hS => ?_)
    exact absurd (show (0 : Int32) = 1 by rw [← hout, lineqT, if_pos c1]) (by decide)
  · refine lv_iload_n hx hb dX2_line_22 rfl (lv_at hl 2 rfl) ?_
    refine lv_iconst (v := 0) hx hb dX2_line_23 (by decide) ?_
    refine lv_bipush (v := 6) hx hb dX2_line_24 (by decide) ?_
    refine rd_S (As := [.int w, .int 0, .int 6]) (rest := []) ⟨hx, hb, hml, hown, hts⟩ (mX2_isIn l D cy w 0 6) (va_cwS 3 hts gX2_line_X2_isIn rfl rfl rfl (by decide +kernel) ⟨Nat.le_of_ble_eq_true rfl, Nat.le_of_ble_eq_true rfl⟩) (hP.sub (ws' := []) [] rfl) hK rfl hl.1 rfl (Nat.le_of_ble_eq_true rfl) dX2_line_26 (Nat.le_of_ble_eq_true rfl) (Nat.le_of_ble_eq_true rfl) ?_
    refine lv_if_eq (tgt := 41) hx hb dX2_line_29 (by decide) (fun c2 => ?_) (fun c2 => ?_)
    · refine lv_aload_n hx hb dX2_line_41 rfl (lv_at hl 0 rfl) ?_
      refine lv_iconst (v := 1) hx hb dX2_line_42 (by decide) ?_
      refine wr_VI (q := (RX2, TX2, 5)) (ci := 2) (q0 := 10) (ws0' := cSM q b cy M n dr an fi ba mo 1 nd fl q tq) (As := [.int 1]) (rest := []) ⟨hx, hb, hml, hown, hts⟩ (fun sz => mX2_no l D cy q b M n dr an fi ba mo 0 nd fl tq 1 (by omega) (by omega) (by omega)  sz) (cwV 1 hts gX2_line_X2_no rfl rfl rfl (by decide +kernel) ⟨Nat.le_of_ble_eq_true rfl, Nat.le_of_ble_eq_true rfl⟩) hP hK hD hS hA [0, 1, 2, 3, 4, 5, 6, 7, 8, 9, 10] [] [0, 1, 2, 3, 4, 5, 6, 7, 8, 9, 10] rfl rfl rfl (by decide) rfl rfl rfl rfl rfl rfl rfl hl.1 rfl (Nat.le_of_ble_eq_true rfl) dX2_line_43 (Nat.le_of_ble_eq_true rfl) (Nat.le_of_ble_eq_true rfl) (fun H locs hP hD hS => ?_)
      exact absurd (show (0 : Int32) = 1 by rw [← hout, lineqT, if_neg c1, if_pos c2]) (by decide)
    · refine lv_aload_n hx hb dX2_line_32 rfl (lv_at hl 0 rfl) ?_
      refine lv_iload_n hx hb dX2_line_33 rfl (lv_at hl 1 rfl) ?_
      refine lv_iload_n hx hb dX2_line_34 rfl (lv_at hl 2 rfl) ?_
      refine wn_VI (q := (RX2, TX2, 5)) (ci := 2) (q0 := 10) (ws0' := cSM q b cy M n dr an fi ba mo 0 nd fl q tq) (As := [.int u, .int w]) (rest := []) ⟨hx, hb, hml, hown, hts⟩ (fun sz => mX2_lineTold l D cy q b M n dr an fi ba mo 0 nd fl tq u w (by omega) (by omega) (by omega) (isIn_line hn c1) (isIn_vp (by decide) c2) sz) (cwV 2 hts gX2_line_X2_lineTold rfl rfl rfl (by decide +kernel) ⟨Nat.le_of_ble_eq_true rfl, Nat.le_of_ble_eq_true rfl⟩) hP hK hD hS hA [0, 1, 2, 3, 4, 5, 6, 7, 8, 9, 10] [] [0, 1, 2, 3, 4, 5, 6, 7, 8, 9, 10] rfl rfl rfl (by decide) rfl rfl rfl rfl rfl rfl rfl hl.1 rfl (Nat.le_of_ble_eq_true rfl) dX2_line_35 (Nat.le_of_ble_eq_true rfl) (Nat.le_of_ble_eq_true rfl) (fun H locs hP hD hS => ?_)
      refine lv_goto (tgt := 46) hx hb dX2_line_38 (by decide) ?_
      have hP : va_P D vwCl (cSM q b cy M n dr an fi ba mo 0 nd fl q tq) H := hP
      exact W.iret (v := lineTM M dr u w) hx hb hr (fun t ht hW => ⟨⟨(lineTM M dr u w), (), rfl, rfl, by show va_P D vwCl _ t.heap; rw [ht]; exact hP⟩, hS.F ht⟩) hS.2.2 dX2_line_46

set_option maxHeartbeats 4000000 in
set_option maxRecDepth 100000 in
theorem mX2_line_no (l : Launch) (D : va_G) (cy : ClassId) (q : Nat) (b : Nat → Nat) (M : Nat → Nat → Int32) (n dr : Nat) (an fi ba : Int32) (mo : Nat) (th : Int32) (nd : Nat) (fl : Int32) (tq : Nat) (u w : Int32) (hnd : nd < 1000000) (hn : n ≤ 120) (hdr : dr ≤ 120) (k9 : Int32) (hout : lineqT n u w = k9) (hk9 : ¬ k9 = 0) (sz : Nat) : WrI l yX2_line wsX2_line 1 22 [.ref mo, .int u, .int w] D cy (cSM q b cy M n dr an fi ba mo th nd fl q tq) (cSM q b cy M n dr an fi ba mo k9 nd fl q tq) sz (0) := by
  refine Met.ofW (cc := cX2_line) (maxL := 3) (ret := (some .int)) (by decide) rfl ?_
  intro p e s m args below meth c s₁ B hml hv
  obtain ⟨rfl, hsz, hP, hK, hD0⟩ := hv
  have hx := B.exec
  have hb := B.bytes
  have hr := B.returns
  have hts := atoms_spec (ws := wsX2_line) B.pre
  have hown : s.vm.findClass RX2 = some m.cls := findClass_of_methodNamed B.named
  have hlocks := B.notSynchronized
  subst hsz
  have hD := hD0.self (sz := s.heap.size)
  generalize hAe : va_A (cSM q b cy M n dr an fi ba mo th nd fl q tq) s.heap.size = A at hD ⊢
  have hA : ∀ q : Nat, s.heap.size ≤ q → A q := fun q h => by rw [← hAe]; exact Or.inr h
  have hS : va_S A s.heap s.heap [] := va_S.rf
  have hl := lv_entry ([.ref mo, .int u, .int w]) (n := 3) (Nat.le_of_ble_eq_true rfl)
  rw [lg_entry_eq]
  generalize (lg_sl ([.ref mo, .int u, .int w]) ++ List.replicate (3 - (lg_sl ([.ref mo, .int u, .int w])).length) Slot.unset).toArray = ls at hl ⊢
  have hl : lv_has ls 3 [(0, .ref mo), (1, .int u), (2, .int w)] := hl
  refine lv_aload_n hx hb dX2_line_0 rfl (lv_at hl 0 rfl) ?_
  refine lv_iconst (v := 0) hx hb dX2_line_1 (by decide) ?_
  refine va_put (D := D) (ci := 2) (v := .int 0) (ty := .int) (C := RX2) (T := TX2) (N := 5) hx hb hts inX2_line_2 tyX2 tyX2_ok nmX2 hown hK.1 hP hD hS 10 rfl rfl 0 (by decide) (hts (.fieldLink RX2 21 "ChalkSlateModel" "thrown" "I") (by decide +kernel)) (fun _ h9 => h9) rfl (by decide +kernel) rfl rfl (Nat.le_of_ble_eq_true rfl) dX2_line_2 (fun H locs hP hD hS => ?_)
  have hP : va_P D vwCl (cSM q b cy M n dr an fi ba mo 0 nd fl q tq) H := hP
  have hD : va_D A (cSM q b cy M n dr an fi ba mo 0 nd fl q tq) := hD
  refine lv_iload_n hx hb dX2_line_5 rfl (lv_at hl 1 rfl) ?_
  refine lv_iconst (v := 0) hx hb dX2_line_6 (by decide) ?_
  refine lv_aload_n hx hb dX2_line_7 rfl (lv_at hl 0 rfl) ?_
  refine va_get (D := D) (ci := 2) (v := .ref q) (C := RX2) (T := TX2) (N := 5) hx hb hts inX2_line_2 hown hK.1 hP 10 rfl rfl 3 (by decide) (hts (.fieldLink RX2 12 "ChalkSlateModel" "s" "LChalkSlateModel$State;") (by decide +kernel)) (fun _ h9 => h9) rfl dX2_line_8 ?_
  refine va_getN (D := D) (ci := 1) (v := .int (nI n)) (C := RX1) (T := TX1) (N := 15) hx hb hts inX2_line_1 hown hK.1 hP 0 rfl rfl 0 (by decide) (va_Nw.use rfl hK.2.1) (fun _ h9 => h9) rfl dX2_line_11 ?_
  refine lv_iconst (v := 1) hx hb dX2_line_14 (by decide) ?_
  refine lv_isub hx hb dX2_line_15 ?_
  refine rd_S (As := [.int u, .int 0, .int ((nI n) - 1)]) (rest := []) ⟨hx, hb, hml, hown, hts⟩ (mX2_isIn l D cy u 0 ((nI n) - 1)) (va_cwS 3 hts gX2_line_X2_isIn rfl rfl rfl (by decide +kernel) ⟨Nat.le_of_ble_eq_true rfl, Nat.le_of_ble_eq_true rfl⟩) (hP.sub (ws' := []) [] rfl) hK rfl hl.1 rfl (Nat.le_of_ble_eq_true rfl) dX2_line_16 (Nat.zero_le _) (Nat.zero_le _) ?_
  refine lv_if_eq (tgt := 41) hx hb dX2_line_19 (by decide) (fun c1 => ?_) (fun c1 => ?_)
  · refine lv_aload_n hx hb dX2_line_41 rfl (lv_at hl 0 rfl) ?_
    refine lv_iconst (v := 1) hx hb dX2_line_42 (by decide) ?_
    refine wr_VI (q := (RX2, TX2, 5)) (ci := 2) (q0 := 10) (ws0' := cSM q b cy M n dr an fi ba mo 1 nd fl q tq) (As := [.int 1]) (rest := []) ⟨hx, hb, hml, hown, hts⟩ (fun sz => mX2_no l D cy q b M n dr an fi ba mo 0 nd fl tq 1 (by omega) (by omega) (by omega)  sz) (cwV 1 hts gX2_line_X2_no rfl rfl rfl (by decide +kernel) ⟨Nat.le_of_ble_eq_true rfl, Nat.le_of_ble_eq_true rfl⟩) hP hK hD hS hA [0, 1, 2, 3, 4, 5, 6, 7, 8, 9, 10] [] [0, 1, 2, 3, 4, 5, 6, 7, 8, 9, 10] rfl rfl rfl (by decide) rfl rfl rfl rfl rfl rfl rfl hl.1 rfl (Nat.le_of_ble_eq_true rfl) dX2_line_43 (Nat.zero_le _) (Nat.zero_le _) (fun H locs hP hD hS => ?_)
    have hk : k9 = 1 := by rw [← hout, lineqT, if_pos c1]
    subst hk
    exact W.iret (v := 0) hx hb hr (fun t ht hW => ⟨⟨0, (), rfl, rfl, by show va_P D vwCl _ t.heap; rw [ht]; exact hP⟩, hS.F ht⟩) hS.2.2 dX2_line_46
  · refine lv_iload_n hx hb dX2_line_22 rfl (lv_at hl 2 rfl) ?_
    refine lv_iconst (v := 0) hx hb dX2_line_23 (by decide) ?_
    refine lv_bipush (v := 6) hx hb dX2_line_24 (by decide) ?_
    refine rd_S (As := [.int w, .int 0, .int 6]) (rest := []) ⟨hx, hb, hml, hown, hts⟩ (mX2_isIn l D cy w 0 6) (va_cwS 3 hts gX2_line_X2_isIn rfl rfl rfl (by decide +kernel) ⟨Nat.le_of_ble_eq_true rfl, Nat.le_of_ble_eq_true rfl⟩) (hP.sub (ws' := []) [] rfl) hK rfl hl.1 rfl (Nat.le_of_ble_eq_true rfl) dX2_line_26 (Nat.zero_le _) (Nat.zero_le _) ?_
    refine lv_if_eq (tgt := 41) hx hb dX2_line_29 (by decide) (fun c2 => ?_) (fun c2 => ?_)
    · refine lv_aload_n hx hb dX2_line_41 rfl (lv_at hl 0 rfl) ?_
      refine lv_iconst (v := 1) hx hb dX2_line_42 (by decide) ?_
      refine wr_VI (q := (RX2, TX2, 5)) (ci := 2) (q0 := 10) (ws0' := cSM q b cy M n dr an fi ba mo 1 nd fl q tq) (As := [.int 1]) (rest := []) ⟨hx, hb, hml, hown, hts⟩ (fun sz => mX2_no l D cy q b M n dr an fi ba mo 0 nd fl tq 1 (by omega) (by omega) (by omega)  sz) (cwV 1 hts gX2_line_X2_no rfl rfl rfl (by decide +kernel) ⟨Nat.le_of_ble_eq_true rfl, Nat.le_of_ble_eq_true rfl⟩) hP hK hD hS hA [0, 1, 2, 3, 4, 5, 6, 7, 8, 9, 10] [] [0, 1, 2, 3, 4, 5, 6, 7, 8, 9, 10] rfl rfl rfl (by decide) rfl rfl rfl rfl rfl rfl rfl hl.1 rfl (Nat.le_of_ble_eq_true rfl) dX2_line_43 (Nat.zero_le _) (Nat.zero_le _) (fun H locs hP hD hS => ?_)
      have hk : k9 = 1 := by rw [← hout, lineqT, if_neg c1, if_pos c2]
      subst hk
      exact W.iret (v := 0) hx hb hr (fun t ht hW => ⟨⟨0, (), rfl, rfl, by show va_P D vwCl _ t.heap; rw [ht]; exact hP⟩, hS.F ht⟩) hS.2.2 dX2_line_46
    · exact absurd (show k9 = 0 by rw [← hout, lineqT, if_neg c1, if_neg c2]) hk9

set_option maxRecDepth 100000 in
theorem inX2_count_2 : ∀ w ∈ wsX20, w ∈ wsX2_count := by decide +kernel

set_option maxRecDepth 100000 in
theorem inX2_count_1 : ∀ w ∈ wsX10, w ∈ wsX2_count := by decide +kernel

set_option maxHeartbeats 4000000 in
set_option maxRecDepth 100000 in
theorem mX2_count_ok (l : Launch) (D : va_G) (cy : ClassId) (q : Nat) (b : Nat → Nat) (M : Nat → Nat → Int32) (n dr : Nat) (an fi ba : Int32) (mo : Nat) (th : Int32) (nd : Nat) (fl : Int32) (tq : Nat) (w : Int32) (hnd : nd < 1000000) (hn : n ≤ 120) (hdr : dr ≤ 120) (hout : countqT w = 0) (sz : Nat) : WrI l yX2_count wsX2_count 5 110 [.ref mo, .int w] D cy (cSM q b cy M n dr an fi ba mo th nd fl q tq) (cSM q b cy M n dr an fi ba mo 0 nd fl q tq) sz (countedM M nd n dr fl w) := by
  refine Met.ofW (cc := cX2_count) (maxL := 2) (ret := (some .int)) (by decide) rfl ?_
  intro p e s m args below meth c s₁ B hml hv
  obtain ⟨rfl, hsz, hP, hK, hD0⟩ := hv
  have hx := B.exec
  have hb := B.bytes
  have hr := B.returns
  have hts := atoms_spec (ws := wsX2_count) B.pre
  have hown : s.vm.findClass RX2 = some m.cls := findClass_of_methodNamed B.named
  have hlocks := B.notSynchronized
  subst hsz
  have hD := hD0.self (sz := s.heap.size)
  generalize hAe : va_A (cSM q b cy M n dr an fi ba mo th nd fl q tq) s.heap.size = A at hD ⊢
  have hA : ∀ q : Nat, s.heap.size ≤ q → A q := fun q h => by rw [← hAe]; exact Or.inr h
  have hS : va_S A s.heap s.heap [] := va_S.rf
  have hl := lv_entry ([.ref mo, .int w]) (n := 2) (Nat.le_of_ble_eq_true rfl)
  rw [lg_entry_eq]
  generalize (lg_sl ([.ref mo, .int w]) ++ List.replicate (2 - (lg_sl ([.ref mo, .int w])).length) Slot.unset).toArray = ls at hl ⊢
  have hl : lv_has ls 2 [(0, .ref mo), (1, .int w)] := hl
  refine lv_aload_n hx hb dX2_count_0 rfl (lv_at hl 0 rfl) ?_
  refine lv_iconst (v := 0) hx hb dX2_count_1 (by decide) ?_
  refine va_put (D := D) (ci := 2) (v := .int 0) (ty := .int) (C := RX2) (T := TX2) (N := 5) hx hb hts inX2_count_2 tyX2 tyX2_ok nmX2 hown hK.1 hP hD hS 10 rfl rfl 0 (by decide) (hts (.fieldLink RX2 21 "ChalkSlateModel" "thrown" "I") (by decide +kernel)) (fun _ h9 => h9) rfl (by decide +kernel) rfl rfl (Nat.le_of_ble_eq_true rfl) dX2_count_2 (fun H locs hP hD hS => ?_)
  have hP : va_P D vwCl (cSM q b cy M n dr an fi ba mo 0 nd fl q tq) H := hP
  have hD : va_D A (cSM q b cy M n dr an fi ba mo 0 nd fl q tq) := hD
  refine lv_iload_n hx hb dX2_count_5 rfl (lv_at hl 1 rfl) ?_
  refine lv_iconst (v := 0) hx hb dX2_count_6 (by decide) ?_
  refine lv_bipush (v := 10) hx hb dX2_count_7 (by decide) ?_
  refine rd_S (As := [.int w, .int 0, .int 10]) (rest := []) ⟨hx, hb, hml, hown, hts⟩ (mX2_isIn l D cy w 0 10) (va_cwS 3 hts gX2_count_X2_isIn rfl rfl rfl (by decide +kernel) ⟨Nat.le_of_ble_eq_true rfl, Nat.le_of_ble_eq_true rfl⟩) (hP.sub (ws' := []) [] rfl) hK rfl hl.1 rfl (Nat.le_of_ble_eq_true rfl) dX2_count_9 (Nat.zero_le _) (Nat.zero_le _) ?_
  refine lv_if_eq (tgt := 23) hx hb dX2_count_12 (by decide) (fun c1 => ?_) (fun c1 => ?_)
  · refine lv_aload_n hx hb dX2_count_23 rfl (lv_at hl 0 rfl) ?_
    refine lv_iconst (v := 1) hx hb dX2_count_24 (by decide) ?_
    refine wr_VI (q := (RX2, TX2, 5)) (ci := 2) (q0 := 10) (ws0' := cSM q b cy M n dr an fi ba mo 1 nd fl q tq) (As := [.int 1]) (rest := []) ⟨hx, hb, hml, hown, hts⟩ (fun sz => mX2_no l D cy q b M n dr an fi ba mo 0 nd fl tq 1 (by omega) (by omega) (by omega)  sz) (cwV 1 hts gX2_count_X2_no rfl rfl rfl (by decide +kernel) ⟨Nat.le_of_ble_eq_true rfl, Nat.le_of_ble_eq_true rfl⟩) hP hK hD hS hA [0, 1, 2, 3, 4, 5, 6, 7, 8, 9, 10] [] [0, 1, 2, 3, 4, 5, 6, 7, 8, 9, 10] rfl rfl rfl (by decide) rfl rfl rfl rfl rfl rfl rfl hl.1 rfl (Nat.le_of_ble_eq_true rfl) dX2_count_25 (Nat.zero_le _) (Nat.zero_le _) (fun H locs hP hD hS => ?_)
    exact absurd (show (0 : Int32) = 1 by rw [← hout, countqT, if_pos c1]) (by decide)
  · refine lv_aload_n hx hb dX2_count_15 rfl (lv_at hl 0 rfl) ?_
    refine lv_iload_n hx hb dX2_count_16 rfl (lv_at hl 1 rfl) ?_
    refine rd_V (q := (RX2, TX2, 5)) (ci := 2) (q0 := 10) (As := [.int w]) (rest := []) ⟨hx, hb, hml, hown, hts⟩ (mX2_counted l D cy q b M n dr an fi ba mo 0 nd fl tq w (by omega) (by omega) (by omega) ) (cwV 1 hts gX2_count_X2_counted rfl rfl rfl (by decide +kernel) ⟨Nat.le_of_ble_eq_true rfl, Nat.le_of_ble_eq_true rfl⟩) hP hK rfl rfl rfl hl.1 rfl (Nat.le_of_ble_eq_true rfl) dX2_count_17 (Nat.zero_le _) (Nat.zero_le _) ?_
    refine lv_goto (tgt := 28) hx hb dX2_count_20 (by decide) ?_
    exact W.iret (v := countedM M nd n dr fl w) hx hb hr (fun t ht hW => ⟨⟨(countedM M nd n dr fl w), (), rfl, rfl, by show va_P D vwCl _ t.heap; rw [ht]; exact hP⟩, hS.F ht⟩) hS.2.2 dX2_count_28

set_option maxHeartbeats 4000000 in
set_option maxRecDepth 100000 in
theorem mX2_count_no (l : Launch) (D : va_G) (cy : ClassId) (q : Nat) (b : Nat → Nat) (M : Nat → Nat → Int32) (n dr : Nat) (an fi ba : Int32) (mo : Nat) (th : Int32) (nd : Nat) (fl : Int32) (tq : Nat) (w : Int32) (hnd : nd < 1000000) (hn : n ≤ 120) (hdr : dr ≤ 120) (k9 : Int32) (hout : countqT w = k9) (hk9 : ¬ k9 = 0) (sz : Nat) : WrI l yX2_count wsX2_count 1 22 [.ref mo, .int w] D cy (cSM q b cy M n dr an fi ba mo th nd fl q tq) (cSM q b cy M n dr an fi ba mo k9 nd fl q tq) sz (0) := by
  refine Met.ofW (cc := cX2_count) (maxL := 2) (ret := (some .int)) (by decide) rfl ?_
  intro p e s m args below meth c s₁ B hml hv
  obtain ⟨rfl, hsz, hP, hK, hD0⟩ := hv
  have hx := B.exec
  have hb := B.bytes
  have hr := B.returns
  have hts := atoms_spec (ws := wsX2_count) B.pre
  have hown : s.vm.findClass RX2 = some m.cls := findClass_of_methodNamed B.named
  have hlocks := B.notSynchronized
  subst hsz
  have hD := hD0.self (sz := s.heap.size)
  generalize hAe : va_A (cSM q b cy M n dr an fi ba mo th nd fl q tq) s.heap.size = A at hD ⊢
  have hA : ∀ q : Nat, s.heap.size ≤ q → A q := fun q h => by rw [← hAe]; exact Or.inr h
  have hS : va_S A s.heap s.heap [] := va_S.rf
  have hl := lv_entry ([.ref mo, .int w]) (n := 2) (Nat.le_of_ble_eq_true rfl)
  rw [lg_entry_eq]
  generalize (lg_sl ([.ref mo, .int w]) ++ List.replicate (2 - (lg_sl ([.ref mo, .int w])).length) Slot.unset).toArray = ls at hl ⊢
  have hl : lv_has ls 2 [(0, .ref mo), (1, .int w)] := hl
  refine lv_aload_n hx hb dX2_count_0 rfl (lv_at hl 0 rfl) ?_
  refine lv_iconst (v := 0) hx hb dX2_count_1 (by decide) ?_
  refine va_put (D := D) (ci := 2) (v := .int 0) (ty := .int) (C := RX2) (T := TX2) (N := 5) hx hb hts inX2_count_2 tyX2 tyX2_ok nmX2 hown hK.1 hP hD hS 10 rfl rfl 0 (by decide) (hts (.fieldLink RX2 21 "ChalkSlateModel" "thrown" "I") (by decide +kernel)) (fun _ h9 => h9) rfl (by decide +kernel) rfl rfl (Nat.le_of_ble_eq_true rfl) dX2_count_2 (fun H locs hP hD hS => ?_)
  have hP : va_P D vwCl (cSM q b cy M n dr an fi ba mo 0 nd fl q tq) H := hP
  have hD : va_D A (cSM q b cy M n dr an fi ba mo 0 nd fl q tq) := hD
  refine lv_iload_n hx hb dX2_count_5 rfl (lv_at hl 1 rfl) ?_
  refine lv_iconst (v := 0) hx hb dX2_count_6 (by decide) ?_
  refine lv_bipush (v := 10) hx hb dX2_count_7 (by decide) ?_
  refine rd_S (As := [.int w, .int 0, .int 10]) (rest := []) ⟨hx, hb, hml, hown, hts⟩ (mX2_isIn l D cy w 0 10) (va_cwS 3 hts gX2_count_X2_isIn rfl rfl rfl (by decide +kernel) ⟨Nat.le_of_ble_eq_true rfl, Nat.le_of_ble_eq_true rfl⟩) (hP.sub (ws' := []) [] rfl) hK rfl hl.1 rfl (Nat.le_of_ble_eq_true rfl) dX2_count_9 (Nat.zero_le _) (Nat.zero_le _) ?_
  refine lv_if_eq (tgt := 23) hx hb dX2_count_12 (by decide) (fun c1 => ?_) (fun c1 => ?_)
  · refine lv_aload_n hx hb dX2_count_23 rfl (lv_at hl 0 rfl) ?_
    refine lv_iconst (v := 1) hx hb dX2_count_24 (by decide) ?_
    refine wr_VI (q := (RX2, TX2, 5)) (ci := 2) (q0 := 10) (ws0' := cSM q b cy M n dr an fi ba mo 1 nd fl q tq) (As := [.int 1]) (rest := []) ⟨hx, hb, hml, hown, hts⟩ (fun sz => mX2_no l D cy q b M n dr an fi ba mo 0 nd fl tq 1 (by omega) (by omega) (by omega)  sz) (cwV 1 hts gX2_count_X2_no rfl rfl rfl (by decide +kernel) ⟨Nat.le_of_ble_eq_true rfl, Nat.le_of_ble_eq_true rfl⟩) hP hK hD hS hA [0, 1, 2, 3, 4, 5, 6, 7, 8, 9, 10] [] [0, 1, 2, 3, 4, 5, 6, 7, 8, 9, 10] rfl rfl rfl (by decide) rfl rfl rfl rfl rfl rfl rfl hl.1 rfl (Nat.le_of_ble_eq_true rfl) dX2_count_25 (Nat.zero_le _) (Nat.zero_le _) (fun H locs hP hD hS => ?_)
    have hk : k9 = 1 := by rw [← hout, countqT, if_pos c1]
    subst hk
    exact W.iret (v := 0) hx hb hr (fun t ht hW => ⟨⟨0, (), rfl, rfl, by show va_P D vwCl _ t.heap; rw [ht]; exact hP⟩, hS.F ht⟩) hS.2.2 dX2_count_28
  · exact absurd (show k9 = 0 by rw [← hout, countqT, if_neg c1]) hk9
