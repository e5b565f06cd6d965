set_option maxRecDepth 100000 in
theorem inX0_mean_0 : ∀ w ∈ wsX00, w ∈ wsX0_mean := by decide +kernel

set_option maxHeartbeats 4000000 in
set_option maxRecDepth 100000 in
theorem mX0_mean (l : Launch) (D : va_G) (cy : ClassId) (h : Nat) (a : Nat → Nat) (R : Nat → Nat → Int32) (nd n dr : Nat) (fl : Int32)  (hnd : nd < 1000000) (hn : n < 1000000) (hdr : dr < 1000000) : MetD lw_cs l yX0_mean wsX0_mean ({ frames := 1, cells := 0, slots := 0, locals := 22 }) (va_Pc [.ref h] (rdB D cy (cC h a cy R nd n dr fl))) (va_Qd (fun (r : UInt64) (_ : Unit) => alike64 r (FP.ddiv (FP.i2d (sumS (R 0) 8)) 4620693217682128896) = true) (fun _ _ => True) (fun _ => False)) 0 0 (fun _ => False) := by
  refine MetD.ofW (cc := cX0_mean) (maxL := 1) (ret := (some .double)) (by decide) rfl ?_
  intro p e s m args below meth c s₁ B hml hv hd0
  obtain ⟨rfl, hP, hK⟩ := hv
  have hx := B.exec
  have hb := B.bytes
  have hr := B.returns
  have hts := atoms_spec (ws := wsX0_mean) B.pre
  have hown : s.vm.findClass RX0 = some m.cls := findClass_of_methodNamed B.named
  have hlocks := B.notSynchronized
  have hK1 := hK
  have hK : ∀ d : Drawn, KK D cy (s.setDrawn d) := fun d => hK1
  have hl := lv_entry ([.ref h]) (n := 1) (Nat.le_of_ble_eq_true rfl)
  rw [lg_entry_eq]
  generalize (lg_sl ([.ref h]) ++ List.replicate (1 - (lg_sl ([.ref h])).length) Slot.unset).toArray = ls at hl ⊢
  have hl : lv_has ls 1 [(0, .ref h)] := hl
  refine lv_aload_n hx hb dX0_mean_0 rfl (lv_at hl 0 rfl) ?_
  refine va_get (D := D) (ci := 0) (v := .ref (a 0)) (C := RX0) (T := TX0) (N := 15) hx hb (dr_words hts _) inX0_mean_0 hown (hK _).1 hP 0 rfl rfl 0 (by decide) ((dr_words hts _) (.fieldLink RX0 9 "ChalkSlate" "stove" "[I") (by decide +kernel)) (fun _ h9 => h9) rfl dX0_mean_1 ?_
  refine rd_S (As := [.ref (a 0)]) (rest := []) ⟨hx, hb, hml, hown, (dr_words hts _)⟩ (mX0_sumOf l D cy (a 0) 8 (R 0) (Nat.le_of_ble_eq_true rfl)) (va_cwS 1 (dr_words hts _) gX0_mean_X0_sumOf rfl rfl rfl (by decide +kernel) ⟨Nat.le_of_ble_eq_true rfl, Nat.le_of_ble_eq_true rfl⟩) (hP.sub (ws' := [(a 0, .inl (cy, 8, .inl (R 0)))]) [1] rfl) (hK _) rfl hl.1 rfl (Nat.le_of_ble_eq_true rfl) dX0_mean_4 (Nat.zero_le _) (Nat.zero_le _) ?_
  refine lv_i2d hx hb dX0_mean_7 ?_
  refine lv_ldc2d hx hb hown ((dr_words hts _) (.constantDouble RX0 195 (4620693217682128896)) (by decide +kernel)) dX0_mean_8 ?_
  refine lv_ddiv_any hd0 lw_bits hx hb dX0_mean_11 (fun r d1 hal hd1 => ?_)
  refine W.endD hd1 ?_
  exact W.dret hx hb hr (fun t ht hW => ⟨⟨r, (), rfl, hal, trivial⟩, (va_S.rf (A := fun _ => False) (H0 := s.heap)).F ht⟩) (fun q hq => absurd hq List.not_mem_nil) dX0_mean_12

set_option maxRecDepth 100000 in
theorem inX2_mean_2 : ∀ w ∈ wsX20, w ∈ wsX2_mean := by decide +kernel

set_option maxRecDepth 100000 in
theorem inX2_mean_1 : ∀ w ∈ wsX10, w ∈ wsX2_mean := by decide +kernel

set_option maxHeartbeats 4000000 in
set_option maxRecDepth 100000 in
theorem mX2_mean (l : Launch) (D : va_G) (cy : ClassId) (q : Nat) (b : Nat → Nat) (M : Nat → Nat → Int32) (n dr : Nat) (an fi ba : Int32) (mo : Nat) (th : Int32) (nd : Nat) (fl : Int32) (tq : Nat)  (hnd : nd < 1000000) (hn : n ≤ 120) (hdr : dr ≤ 120) (sz : Nat) : MetD lw_cs l yX2_mean wsX2_mean ({ frames := 1, cells := 0, slots := 0, locals := 26 }) (va_Pc [.ref mo] (wrB D cy (cSM q b cy M n dr an fi ba mo th nd fl q tq) sz)) (va_Qd (fun (r : UInt64) (_ : Unit) => alike64 r (FP.ddiv (FP.i2d (sumS (M 0) 8)) 4620693217682128896) = true) (fun _ t => va_P D vwCl (cSM q b cy M n dr an fi ba mo 0 nd fl q tq) t.heap) (va_A (cSM q b cy M n dr an fi ba mo th nd fl q tq) sz)) 0 0 (va_A (cSM q b cy M n dr an fi ba mo th nd fl q tq) sz) := by
  refine MetD.ofW (cc := cX2_mean) (maxL := 1) (ret := (some .double)) (by decide) rfl ?_
  intro p e s m args below meth c s₁ B hml hv hd0
  obtain ⟨rfl, hsz, hP, hK, hD0⟩ := hv
  have hx := B.exec
  have hb := B.bytes
  have hr := B.returns
  have hts := atoms_spec (ws := wsX2_mean) B.pre
  have hown : s.vm.findClass RX2 = some m.cls := findClass_of_methodNamed B.named
  have hlocks := B.notSynchronized
  have hK1 := hK
  have hK : ∀ d : Drawn, KK D cy (s.setDrawn d) := fun d => hK1
  subst hsz
  have hD := hD0.self (sz := s.heap.size)
  generalize hAe : va_A (cSM q b cy M n dr an fi ba mo th nd fl q tq) s.heap.size = A at hD ⊢
  have hA : ∀ q : Nat, s.heap.size ≤ q → A q := fun q h => by rw [← hAe]; exact Or.inr h
  have hS : va_S A s.heap s.heap [] := va_S.rf
  have hl := lv_entry ([.ref mo]) (n := 1) (Nat.le_of_ble_eq_true rfl)
  rw [lg_entry_eq]
  generalize (lg_sl ([.ref mo]) ++ List.replicate (1 - (lg_sl ([.ref mo])).length) Slot.unset).toArray = ls at hl ⊢
  have hl : lv_has ls 1 [(0, .ref mo)] := hl
  refine lv_aload_n hx hb dX2_mean_0 rfl (lv_at hl 0 rfl) ?_
  refine lv_iconst (v := 0) hx hb dX2_mean_1 (by decide) ?_
  refine va_put (D := D) (ci := 2) (v := .int 0) (ty := .int) (C := RX2) (T := TX2) (N := 5) hx hb (dr_words hts _) inX2_mean_2 tyX2 tyX2_ok nmX2 hown (hK _).1 hP hD hS 10 rfl rfl 0 (by decide) ((dr_words hts _) (.fieldLink RX2 21 "ChalkSlateModel" "thrown" "I") (by decide +kernel)) (fun _ h9 => h9) rfl (by decide +kernel) rfl rfl (Nat.le_of_ble_eq_true rfl) dX2_mean_2 (fun H locs hP hD hS => ?_)
  have hP : va_P D vwCl (cSM q b cy M n dr an fi ba mo 0 nd fl q tq) H := hP
  have hD : va_D A (cSM q b cy M n dr an fi ba mo 0 nd fl q tq) := hD
  refine lv_aload_n hx hb dX2_mean_5 rfl (lv_at hl 0 rfl) ?_
  refine va_get (D := D) (ci := 2) (v := .ref q) (C := RX2) (T := TX2) (N := 5) hx hb (dr_words hts _) inX2_mean_2 hown (hK _).1 hP 10 rfl rfl 3 (by decide) ((dr_words hts _) (.fieldLink RX2 12 "ChalkSlateModel" "s" "LChalkSlateModel$State;") (by decide +kernel)) (fun _ h9 => h9) rfl dX2_mean_6 ?_
  refine lv_aload_n hx hb dX2_mean_9 rfl (lv_at hl 0 rfl) ?_
  refine va_get (D := D) (ci := 2) (v := .ref q) (C := RX2) (T := TX2) (N := 5) hx hb (dr_words hts _) inX2_mean_2 hown (hK _).1 hP 10 rfl rfl 3 (by decide) ((dr_words hts _) (.fieldLink RX2 12 "ChalkSlateModel" "s" "LChalkSlateModel$State;") (by decide +kernel)) (fun _ h9 => h9) rfl dX2_mean_10 ?_
  refine va_getN (D := D) (ci := 1) (v := .ref (b 0)) (C := RX1) (T := TX1) (N := 15) hx hb (dr_words hts _) inX2_mean_1 hown (hK _).1 hP 0 rfl rfl 2 (by decide) (va_Nw.use rfl (hK _).2.2.2.1) (fun _ h9 => h9) rfl dX2_mean_13 ?_
  refine rd_V (q := (RX1, TX1, 15)) (ci := 1) (q0 := 0) (As := [.ref (b 0)]) (rest := []) ⟨hx, hb, hml, hown, (dr_words hts _)⟩ (mX1_sum0 l D cy q b M n dr an fi ba mo 0 nd fl q tq (by omega) (by omega) (by omega)) (cwV 1 (dr_words hts _) gX2_mean_X1_sum rfl rfl rfl (by decide +kernel) ⟨Nat.le_of_ble_eq_true rfl, Nat.le_of_ble_eq_true rfl⟩) hP (hK _) rfl rfl rfl hl.1 rfl (Nat.le_of_ble_eq_true rfl) dX2_mean_16 (Nat.zero_le _) (Nat.zero_le _) ?_
  refine lv_i2d hx hb dX2_mean_19 ?_
  refine lv_ldc2d hx hb hown ((dr_words hts _) (.constantDouble RX2 149 (4620693217682128896)) (by decide +kernel)) dX2_mean_20 ?_
  refine lv_ddiv_any hd0 lw_bits hx hb dX2_mean_23 (fun r d1 hal hd1 => ?_)
  refine W.endD hd1 ?_
  exact W.dret hx hb hr (fun t ht hW => ⟨⟨r, (), rfl, hal, by show va_P D vwCl _ t.heap; rw [ht]; exact hP⟩, hS.F ht⟩) hS.2.2 dX2_mean_24
