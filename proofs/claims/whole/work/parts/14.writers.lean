set_option maxRecDepth 100000 in
theorem inX0_chalk_0 : ∀ w ∈ wsX00, w ∈ wsX0_chalk := by decide +kernel

set_option maxHeartbeats 4000000 in
set_option maxRecDepth 100000 in
theorem mX0_chalk (l : Launch) (D : va_G) (cy : ClassId) (h : Nat) (a : Nat → Nat) (R : Nat → Nat → Int32) (nd n dr : Nat) (fl : Int32) (d k : Int32) (hnd : nd < 1000000) (hn : n < 1000000) (hdr : dr < 1000000) (sz : Nat) : WrV l yX0_chalk wsX0_chalk 2 43 [.ref h, .int d, .int k] D cy (cC h a cy R nd n dr fl) (cC h a cy (chalkR R n d k) nd (n + 1) dr fl) sz := by
  refine Met.ofW (cc := cX0_chalk) (maxL := 3) (ret := none) (by decide) rfl ?_
  intro p e s m args below meth c s₁ B hml hv
  obtain ⟨rfl, hsz, hP, hK, hD0⟩ := hv
  have hx := B.exec
  have hb := B.bytes
  have hr := B.returns
  have hts := atoms_spec (ws := wsX0_chalk) B.pre
  have hown : s.vm.findClass RX0 = some m.cls := findClass_of_methodNamed B.named
  have hlocks := B.notSynchronized
  subst hsz
  have hD := hD0.self (sz := s.heap.size)
  generalize hAe : va_A (cC h a cy R nd n dr fl) s.heap.size = A at hD ⊢
  have hA : ∀ q : Nat, s.heap.size ≤ q → A q := fun q h => by rw [← hAe]; exact Or.inr h
  have hS : va_S A s.heap s.heap [] := va_S.rf
  have hl := lv_entry ([.ref h, .int d, .int k]) (n := 3) (Nat.le_of_ble_eq_true rfl)
  rw [lg_entry_eq]
  generalize (lg_sl ([.ref h, .int d, .int k]) ++ List.replicate (3 - (lg_sl ([.ref h, .int d, .int k])).length) Slot.unset).toArray = ls at hl ⊢
  have hl : lv_has ls 3 [(0, .ref h), (1, .int d), (2, .int k)] := hl
  refine lv_aload_n hx hb dX0_chalk_0 rfl (lv_at hl 0 rfl) ?_
  refine va_get (D := D) (ci := 0) (v := .ref (a 4)) (C := RX0) (T := TX0) (N := 15) hx hb hts inX0_chalk_0 hown hK.1 hP 0 rfl rfl 5 (by decide) (hts (.fieldLink RX0 22 "ChalkSlate" "lineDish" "[I") (by decide +kernel)) (fun _ h9 => h9) rfl dX0_chalk_1 ?_
  refine lv_aload_n hx hb dX0_chalk_4 rfl (lv_at hl 0 rfl) ?_
  refine va_get (D := D) (ci := 0) (v := .int (nI n)) (C := RX0) (T := TX0) (N := 15) hx hb hts inX0_chalk_0 hown hK.1 hP 0 rfl rfl 12 (by decide) (hts (.fieldLink RX0 112 "ChalkSlate" "lines" "I") (by decide +kernel)) (fun _ h9 => h9) rfl dX0_chalk_5 ?_
  refine lv_iload_n hx hb dX0_chalk_8 rfl (lv_at hl 1 rfl) ?_
  refine put_4 (rest := []) ⟨hx, hb, hml, hown, hts⟩ (va_cwS 3 hts gX0_chalk_X0_put rfl rfl rfl (by decide +kernel) ⟨Nat.le_of_ble_eq_true rfl, Nat.le_of_ble_eq_true rfl⟩) hP hK hD hS hA hl.1 rfl (Nat.le_of_ble_eq_true rfl) dX0_chalk_9 (Nat.zero_le _) (Nat.zero_le _) (fun H locs hP hD hS => ?_)
  refine lv_aload_n hx hb dX0_chalk_12 rfl (lv_at hl 0 rfl) ?_
  refine va_get (D := D) (ci := 0) (v := .ref (a 5)) (C := RX0) (T := TX0) (N := 15) hx hb hts inX0_chalk_0 hown hK.1 hP 0 rfl rfl 6 (by decide) (hts (.fieldLink RX0 25 "ChalkSlate" "lineKind" "[I") (by decide +kernel)) (fun _ h9 => h9) rfl dX0_chalk_13 ?_
  refine lv_aload_n hx hb dX0_chalk_16 rfl (lv_at hl 0 rfl) ?_
  refine va_get (D := D) (ci := 0) (v := .int (nI n)) (C := RX0) (T := TX0) (N := 15) hx hb hts inX0_chalk_0 hown hK.1 hP 0 rfl rfl 12 (by decide) (hts (.fieldLink RX0 112 "ChalkSlate" "lines" "I") (by decide +kernel)) (fun _ h9 => h9) rfl dX0_chalk_17 ?_
  refine lv_iload_n hx hb dX0_chalk_20 rfl (lv_at hl 2 rfl) ?_
  refine put_5 (rest := []) ⟨hx, hb, hml, hown, hts⟩ (va_cwS 3 hts gX0_chalk_X0_put rfl rfl rfl (by decide +kernel) ⟨Nat.le_of_ble_eq_true rfl, Nat.le_of_ble_eq_true rfl⟩) hP hK hD hS hA hl.1 rfl (Nat.le_of_ble_eq_true rfl) dX0_chalk_21 (Nat.zero_le _) (Nat.zero_le _) (fun H locs hP hD hS => ?_)
  refine lv_aload_n hx hb dX0_chalk_24 rfl (lv_at hl 0 rfl) ?_
  refine va_get (D := D) (ci := 0) (v := .ref (a 6)) (C := RX0) (T := TX0) (N := 15) hx hb hts inX0_chalk_0 hown hK.1 hP 0 rfl rfl 7 (by decide) (hts (.fieldLink RX0 28 "ChalkSlate" "linePot" "[I") (by decide +kernel)) (fun _ h9 => h9) rfl dX0_chalk_25 ?_
  refine lv_aload_n hx hb dX0_chalk_28 rfl (lv_at hl 0 rfl) ?_
  refine va_get (D := D) (ci := 0) (v := .int (nI n)) (C := RX0) (T := TX0) (N := 15) hx hb hts inX0_chalk_0 hown hK.1 hP 0 rfl rfl 12 (by decide) (hts (.fieldLink RX0 112 "ChalkSlate" "lines" "I") (by decide +kernel)) (fun _ h9 => h9) rfl dX0_chalk_29 ?_
  refine lv_iconst (v := (-1)) hx hb dX0_chalk_32 (by decide) ?_
  refine put_6 (rest := []) ⟨hx, hb, hml, hown, hts⟩ (va_cwS 3 hts gX0_chalk_X0_put rfl rfl rfl (by decide +kernel) ⟨Nat.le_of_ble_eq_true rfl, Nat.le_of_ble_eq_true rfl⟩) hP hK hD hS hA hl.1 rfl (Nat.le_of_ble_eq_true rfl) dX0_chalk_33 (Nat.zero_le _) (Nat.zero_le _) (fun H locs hP hD hS => ?_)
  refine lv_aload_n hx hb dX0_chalk_36 rfl (lv_at hl 0 rfl) ?_
  refine va_get (D := D) (ci := 0) (v := .ref (a 7)) (C := RX0) (T := TX0) (N := 15) hx hb hts inX0_chalk_0 hown hK.1 hP 0 rfl rfl 8 (by decide) (hts (.fieldLink RX0 31 "ChalkSlate" "lineAhead" "[I") (by decide +kernel)) (fun _ h9 => h9) rfl dX0_chalk_37 ?_
  refine lv_aload_n hx hb dX0_chalk_40 rfl (lv_at hl 0 rfl) ?_
  refine va_get (D := D) (ci := 0) (v := .int (nI n)) (C := RX0) (T := TX0) (N := 15) hx hb hts inX0_chalk_0 hown hK.1 hP 0 rfl rfl 12 (by decide) (hts (.fieldLink RX0 112 "ChalkSlate" "lines" "I") (by decide +kernel)) (fun _ h9 => h9) rfl dX0_chalk_41 ?_
  refine lv_iconst (v := (-1)) hx hb dX0_chalk_44 (by decide) ?_
  refine put_7 (rest := []) ⟨hx, hb, hml, hown, hts⟩ (va_cwS 3 hts gX0_chalk_X0_put rfl rfl rfl (by decide +kernel) ⟨Nat.le_of_ble_eq_true rfl, Nat.le_of_ble_eq_true rfl⟩) hP hK hD hS hA hl.1 rfl (Nat.le_of_ble_eq_true rfl) dX0_chalk_45 (Nat.zero_le _) (Nat.zero_le _) (fun H locs hP hD hS => ?_)
  refine lv_aload_n hx hb dX0_chalk_48 rfl (lv_at hl 0 rfl) ?_
  refine va_get (D := D) (ci := 0) (v := .ref (a 8)) (C := RX0) (T := TX0) (N := 15) hx hb hts inX0_chalk_0 hown hK.1 hP 0 rfl rfl 9 (by decide) (hts (.fieldLink RX0 34 "ChalkSlate" "lineBehind" "[I") (by decide +kernel)) (fun _ h9 => h9) rfl dX0_chalk_49 ?_
  refine lv_aload_n hx hb dX0_chalk_52 rfl (lv_at hl 0 rfl) ?_
  refine va_get (D := D) (ci := 0) (v := .int (nI n)) (C := RX0) (T := TX0) (N := 15) hx hb hts inX0_chalk_0 hown hK.1 hP 0 rfl rfl 12 (by decide) (hts (.fieldLink RX0 112 "ChalkSlate" "lines" "I") (by decide +kernel)) (fun _ h9 => h9) rfl dX0_chalk_53 ?_
  refine lv_iconst (v := (-1)) hx hb dX0_chalk_56 (by decide) ?_
  refine put_8 (rest := []) ⟨hx, hb, hml, hown, hts⟩ (va_cwS 3 hts gX0_chalk_X0_put rfl rfl rfl (by decide +kernel) ⟨Nat.le_of_ble_eq_true rfl, Nat.le_of_ble_eq_true rfl⟩) hP hK hD hS hA hl.1 rfl (Nat.le_of_ble_eq_true rfl) dX0_chalk_57 (Nat.zero_le _) (Nat.zero_le _) (fun H locs hP hD hS => ?_)
  refine lv_aload_n hx hb dX0_chalk_60 rfl (lv_at hl 0 rfl) ?_
  refine va_get (D := D) (ci := 0) (v := .ref (a 9)) (C := RX0) (T := TX0) (N := 15) hx hb hts inX0_chalk_0 hown hK.1 hP 0 rfl rfl 10 (by decide) (hts (.fieldLink RX0 37 "ChalkSlate" "lineTakesBack" "[I") (by decide +kernel)) (fun _ h9 => h9) rfl dX0_chalk_61 ?_
  refine lv_aload_n hx hb dX0_chalk_64 rfl (lv_at hl 0 rfl) ?_
  refine va_get (D := D) (ci := 0) (v := .int (nI n)) (C := RX0) (T := TX0) (N := 15) hx hb hts inX0_chalk_0 hown hK.1 hP 0 rfl rfl 12 (by decide) (hts (.fieldLink RX0 112 "ChalkSlate" "lines" "I") (by decide +kernel)) (fun _ h9 => h9) rfl dX0_chalk_65 ?_
  refine lv_iconst (v := (-1)) hx hb dX0_chalk_68 (by decide) ?_
  refine put_9 (rest := []) ⟨hx, hb, hml, hown, hts⟩ (va_cwS 3 hts gX0_chalk_X0_put rfl rfl rfl (by decide +kernel) ⟨Nat.le_of_ble_eq_true rfl, Nat.le_of_ble_eq_true rfl⟩) hP hK hD hS hA hl.1 rfl (Nat.le_of_ble_eq_true rfl) dX0_chalk_69 (Nat.zero_le _) (Nat.zero_le _) (fun H locs hP hD hS => ?_)
  refine lv_aload_n hx hb dX0_chalk_72 rfl (lv_at hl 0 rfl) ?_
  refine va_get (D := D) (ci := 0) (v := .ref (a 10)) (C := RX0) (T := TX0) (N := 15) hx hb hts inX0_chalk_0 hown hK.1 hP 0 rfl rfl 11 (by decide) (hts (.fieldLink RX0 40 "ChalkSlate" "lineTakenBackBy" "[I") (by decide +kernel)) (fun _ h9 => h9) rfl dX0_chalk_73 ?_
  refine lv_aload_n hx hb dX0_chalk_76 rfl (lv_at hl 0 rfl) ?_
  refine va_get (D := D) (ci := 0) (v := .int (nI n)) (C := RX0) (T := TX0) (N := 15) hx hb hts inX0_chalk_0 hown hK.1 hP 0 rfl rfl 12 (by decide) (hts (.fieldLink RX0 112 "ChalkSlate" "lines" "I") (by decide +kernel)) (fun _ h9 => h9) rfl dX0_chalk_77 ?_
  refine lv_iconst (v := (-1)) hx hb dX0_chalk_80 (by decide) ?_
  refine put_10 (rest := []) ⟨hx, hb, hml, hown, hts⟩ (va_cwS 3 hts gX0_chalk_X0_put rfl rfl rfl (by decide +kernel) ⟨Nat.le_of_ble_eq_true rfl, Nat.le_of_ble_eq_true rfl⟩) hP hK hD hS hA hl.1 rfl (Nat.le_of_ble_eq_true rfl) dX0_chalk_81 (Nat.zero_le _) (Nat.zero_le _) (fun H locs hP hD hS => ?_)
  refine lv_aload_n hx hb dX0_chalk_84 rfl (lv_at hl 0 rfl) ?_
  refine lv_dup hx hb dX0_chalk_85 rfl ?_
  refine va_get (D := D) (ci := 0) (v := .int (nI n)) (C := RX0) (T := TX0) (N := 15) hx hb hts inX0_chalk_0 hown hK.1 hP 0 rfl rfl 12 (by decide) (hts (.fieldLink RX0 112 "ChalkSlate" "lines" "I") (by decide +kernel)) (fun _ h9 => h9) rfl dX0_chalk_86 ?_
  refine lv_iconst (v := 1) hx hb dX0_chalk_89 (by decide) ?_
  refine lv_iadd hx hb dX0_chalk_90 ?_
  rw [show ((nI n) + 1) = nI (n + 1) from (nI_succ n).symm]
  refine va_put (D := D) (ci := 0) (v := .int (nI (n + 1))) (ty := .int) (C := RX0) (T := TX0) (N := 15) hx hb hts inX0_chalk_0 tyX0 tyX0_ok nmX0 hown hK.1 hP hD hS 0 rfl rfl 12 (by decide) (hts (.fieldLink RX0 112 "ChalkSlate" "lines" "I") (by decide +kernel)) (fun _ h9 => h9) rfl (by decide +kernel) rfl rfl (Nat.le_of_ble_eq_true rfl) dX0_chalk_91 (fun H locs hP hD hS => ?_)
  have hP : va_P D vwCl (cC h a cy (stepR (stepR (stepR (stepR (stepR (stepR (stepR R 4 120 (nI n) d) 5 120 (nI n) k) 6 120 (nI n) (-1)) 7 120 (nI n) (-1)) 8 120 (nI n) (-1)) 9 120 (nI n) (-1)) 10 120 (nI n) (-1)) nd (n + 1) dr fl) H := hP
  have hD : va_D A (cC h a cy (stepR (stepR (stepR (stepR (stepR (stepR (stepR R 4 120 (nI n) d) 5 120 (nI n) k) 6 120 (nI n) (-1)) 7 120 (nI n) (-1)) 8 120 (nI n) (-1)) 9 120 (nI n) (-1)) 10 120 (nI n) (-1)) nd (n + 1) dr fl) := hD
  exact W.vret hx hb hr (fun t ht hW => ⟨⟨(), rfl, trivial, by show va_P D vwCl _ t.heap; rw [ht]; exact hP⟩, hS.F ht⟩) hS.2.2 dX0_chalk_94

set_option maxRecDepth 100000 in
theorem inX0_chalkSpoons_0 : ∀ w ∈ wsX00, w ∈ wsX0_chalkSpoons := by decide +kernel

set_option maxHeartbeats 4000000 in
set_option maxRecDepth 100000 in
theorem mX0_chalkSpoons (l : Launch) (D : va_G) (cy : ClassId) (h : Nat) (a : Nat → Nat) (R : Nat → Nat → Int32) (nd n dr : Nat) (fl : Int32) (d k u x : Int32) (hnd : nd < 1000000) (hn : n < 1000000) (hdr : dr < 1000000) (sz : Nat) : WrV l yX0_chalkSpoons wsX0_chalkSpoons 3 65 [.ref h, .int d, .int k, .int u, .int x] D cy (cC h a cy R nd n dr fl) (cC h a cy (spoonsR R n d k u x) nd (n + 1) dr fl) sz := by
  refine Met.ofW (cc := cX0_chalkSpoons) (maxL := 6) (ret := none) (by decide) rfl ?_
  intro p e s m args below meth c s₁ B hml hv
  obtain ⟨rfl, hsz, hP, hK, hD0⟩ := hv
  have hx := B.exec
  have hb := B.bytes
  have hr := B.returns
  have hts := atoms_spec (ws := wsX0_chalkSpoons) B.pre
  have hown : s.vm.findClass RX0 = some m.cls := findClass_of_methodNamed B.named
  have hlocks := B.notSynchronized
  subst hsz
  have hD := hD0.self (sz := s.heap.size)
  generalize hAe : va_A (cC h a cy R nd n dr fl) s.heap.size = A at hD ⊢
  have hA : ∀ q : Nat, s.heap.size ≤ q → A q := fun q h => by rw [← hAe]; exact Or.inr h
  have hS : va_S A s.heap s.heap [] := va_S.rf
  have hl := lv_entry ([.ref h, .int d, .int k, .int u, .int x]) (n := 6) (Nat.le_of_ble_eq_true rfl)
  rw [lg_entry_eq]
  generalize (lg_sl ([.ref h, .int d, .int k, .int u, .int x]) ++ List.replicate (6 - (lg_sl ([.ref h, .int d, .int k, .int u, .int x])).length) Slot.unset).toArray = ls at hl ⊢
  have hl : lv_has ls 6 [(0, .ref h), (1, .int d), (2, .int k), (3, .int u), (4, .int x)] := hl
  refine lv_aload_n hx hb dX0_chalkSpoons_0 rfl (lv_at hl 0 rfl) ?_
  refine va_get (D := D) (ci := 0) (v := .int (nI n)) (C := RX0) (T := TX0) (N := 15) hx hb hts inX0_chalkSpoons_0 hown hK.1 hP 0 rfl rfl 12 (by decide) (hts (.fieldLink RX0 112 "ChalkSlate" "lines" "I") (by decide +kernel)) (fun _ h9 => h9) rfl dX0_chalkSpoons_1 ?_
  refine lv_istore (lv' := [(5, .int (nI n)), (0, .ref h), (1, .int d), (2, .int k), (3, .int u), (4, .int x)]) hx hb dX0_chalkSpoons_4 hl (by decide) rfl (fun ls hl => ?_)
  refine lv_aload_n hx hb dX0_chalkSpoons_6 rfl (lv_at hl 1 rfl) ?_
  refine lv_iload_n hx hb dX0_chalkSpoons_7 rfl (lv_at hl 2 rfl) ?_
  refine lv_iload_n hx hb dX0_chalkSpoons_8 rfl (lv_at hl 3 rfl) ?_
  refine wr_VV (q := (RX0, TX0, 15)) (ci := 0) (q0 := 0) (ws0' := cC h a cy (chalkR R n d k) nd (n + 1) dr fl) (As := [.int d, .int k]) (rest := []) ⟨hx, hb, hml, hown, hts⟩ (fun sz => mX0_chalk l D cy h a R nd n dr fl d k (by omega) (by omega) (by omega)  sz) (cwV 2 hts gX0_chalkSpoons_X0_chalk rfl rfl rfl (by decide +kernel) ⟨Nat.le_of_ble_eq_true rfl, Nat.le_of_ble_eq_true rfl⟩) hP hK hD hS hA [0, 1, 2, 3, 4, 5, 6, 7, 8, 9, 10, 11] [] [0, 1, 2, 3, 4, 5, 6, 7, 8, 9, 10, 11] rfl rfl rfl (by decide) rfl rfl rfl rfl rfl rfl rfl hl.1 rfl (Nat.le_of_ble_eq_true rfl) dX0_chalkSpoons_9 (Nat.zero_le _) (Nat.zero_le _) (fun H locs hP hD hS => ?_)
  refine lv_aload_n hx hb dX0_chalkSpoons_12 rfl (lv_at hl 1 rfl) ?_
  refine va_get (D := D) (ci := 0) (v := .ref (a 6)) (C := RX0) (T := TX0) (N := 15) hx hb hts inX0_chalkSpoons_0 hown hK.1 hP 0 rfl rfl 7 (by decide) (hts (.fieldLink RX0 28 "ChalkSlate" "linePot" "[I") (by decide +kernel)) (fun _ h9 => h9) rfl dX0_chalkSpoons_13 ?_
  refine lv_iload hx hb dX0_chalkSpoons_16 (lv_at hl 0 rfl) ?_
  refine lv_iload_n hx hb dX0_chalkSpoons_18 rfl (lv_at hl 4 rfl) ?_
  refine put_6 (rest := []) ⟨hx, hb, hml, hown, hts⟩ (va_cwS 3 hts gX0_chalkSpoons_X0_put rfl rfl rfl (by decide +kernel) ⟨Nat.le_of_ble_eq_true rfl, Nat.le_of_ble_eq_true rfl⟩) hP hK hD hS hA hl.1 rfl (Nat.le_of_ble_eq_true rfl) dX0_chalkSpoons_19 (Nat.zero_le _) (Nat.zero_le _) (fun H locs hP hD hS => ?_)
  refine lv_aload_n hx hb dX0_chalkSpoons_22 rfl (lv_at hl 1 rfl) ?_
  refine va_get (D := D) (ci := 0) (v := .ref (a 7)) (C := RX0) (T := TX0) (N := 15) hx hb hts inX0_chalkSpoons_0 hown hK.1 hP 0 rfl rfl 8 (by decide) (hts (.fieldLink RX0 31 "ChalkSlate" "lineAhead" "[I") (by decide +kernel)) (fun _ h9 => h9) rfl dX0_chalkSpoons_23 ?_
  refine lv_iload hx hb dX0_chalkSpoons_26 (lv_at hl 0 rfl) ?_
  refine lv_aload_n hx hb dX0_chalkSpoons_28 rfl (lv_at hl 1 rfl) ?_
  refine va_get (D := D) (ci := 0) (v := .ref (a 0)) (C := RX0) (T := TX0) (N := 15) hx hb hts inX0_chalkSpoons_0 hown hK.1 hP 0 rfl rfl 0 (by decide) (hts (.fieldLink RX0 9 "ChalkSlate" "stove" "[I") (by decide +kernel)) (fun _ h9 => h9) rfl dX0_chalkSpoons_29 ?_
  refine lv_iload_n hx hb dX0_chalkSpoons_32 rfl (lv_at hl 4 rfl) ?_
  refine rd_S (As := [.ref (a 0), .int u]) (rest := [.int (nI n), .ref (a 7)]) ⟨hx, hb, hml, hown, hts⟩ (mX0_at l D cy (a 0) 8 ((stepR (chalkR R n d k) 6 120 (nI n) u) 0) u (Nat.le_of_ble_eq_true rfl)) (va_cwS 2 hts gX0_chalkSpoons_X0_at rfl rfl rfl (by decide +kernel) ⟨Nat.le_of_ble_eq_true rfl, Nat.le_of_ble_eq_true rfl⟩) (hP.sub (ws' := [(a 0, .inl (cy, 8, .inl ((stepR (chalkR R n d k) 6 120 (nI n) u) 0)))]) [1] rfl) hK rfl hl.1 rfl (Nat.le_of_ble_eq_true rfl) dX0_chalkSpoons_33 (Nat.zero_le _) (Nat.zero_le _) ?_
  refine put_7 (rest := []) ⟨hx, hb, hml, hown, hts⟩ (va_cwS 3 hts gX0_chalkSpoons_X0_put rfl rfl rfl (by decide +kernel) ⟨Nat.le_of_ble_eq_true rfl, Nat.le_of_ble_eq_true rfl⟩) hP hK hD hS hA hl.1 rfl (Nat.le_of_ble_eq_true rfl) dX0_chalkSpoons_36 (Nat.zero_le _) (Nat.zero_le _) (fun H locs hP hD hS => ?_)
  refine lv_aload_n hx hb dX0_chalkSpoons_39 rfl (lv_at hl 1 rfl) ?_
  refine va_get (D := D) (ci := 0) (v := .ref (a 8)) (C := RX0) (T := TX0) (N := 15) hx hb hts inX0_chalkSpoons_0 hown hK.1 hP 0 rfl rfl 9 (by decide) (hts (.fieldLink RX0 34 "ChalkSlate" "lineBehind" "[I") (by decide +kernel)) (fun _ h9 => h9) rfl dX0_chalkSpoons_40 ?_
  refine lv_iload hx hb dX0_chalkSpoons_43 (lv_at hl 0 rfl) ?_
  refine lv_iload hx hb dX0_chalkSpoons_45 (lv_at hl 5 rfl) ?_
  refine put_8 (rest := []) ⟨hx, hb, hml, hown, hts⟩ (va_cwS 3 hts gX0_chalkSpoons_X0_put rfl rfl rfl (by decide +kernel) ⟨Nat.le_of_ble_eq_true rfl, Nat.le_of_ble_eq_true rfl⟩) hP hK hD hS hA hl.1 rfl (Nat.le_of_ble_eq_true rfl) dX0_chalkSpoons_47 (Nat.zero_le _) (Nat.zero_le _) (fun H locs hP hD hS => ?_)
  refine lv_aload_n hx hb dX0_chalkSpoons_50 rfl (lv_at hl 1 rfl) ?_
  refine va_get (D := D) (ci := 0) (v := .ref (a 0)) (C := RX0) (T := TX0) (N := 15) hx hb hts inX0_chalkSpoons_0 hown hK.1 hP 0 rfl rfl 0 (by decide) (hts (.fieldLink RX0 9 "ChalkSlate" "stove" "[I") (by decide +kernel)) (fun _ h9 => h9) rfl dX0_chalkSpoons_51 ?_
  refine lv_iload_n hx hb dX0_chalkSpoons_54 rfl (lv_at hl 4 rfl) ?_
  refine lv_iload hx hb dX0_chalkSpoons_55 (lv_at hl 5 rfl) ?_
  refine put_0 (rest := []) ⟨hx, hb, hml, hown, hts⟩ (va_cwS 3 hts gX0_chalkSpoons_X0_put rfl rfl rfl (by decide +kernel) ⟨Nat.le_of_ble_eq_true rfl, Nat.le_of_ble_eq_true rfl⟩) hP hK hD hS hA hl.1 rfl (Nat.le_of_ble_eq_true rfl) dX0_chalkSpoons_57 (Nat.zero_le _) (Nat.zero_le _) (fun H locs hP hD hS => ?_)
  exact W.vret hx hb hr (fun t ht hW => ⟨⟨(), rfl, trivial, by show va_P D vwCl _ t.heap; rw [ht]; exact hP⟩, hS.F ht⟩) hS.2.2 dX0_chalkSpoons_60

set_option maxRecDepth 100000 in
theorem inX0_takeBack_0 : ∀ w ∈ wsX00, w ∈ wsX0_takeBack := by decide +kernel

set_option maxHeartbeats 4000000 in
set_option maxRecDepth 100000 in
theorem mX0_takeBack (l : Launch) (D : va_G) (cy : ClassId) (h : Nat) (a : Nat → Nat) (R : Nat → Nat → Int32) (nd n dr : Nat) (fl : Int32) (x : Int32) (hnd : nd < 1000000) (hn : n < 1000000) (hdr : dr < 1000000) (sz : Nat) : WrV l yX0_takeBack wsX0_takeBack 4 90 [.ref h, .int x] D cy (cC h a cy R nd n dr fl) (cC h a cy (takeBackR R n x) nd (n + 1) dr fl) sz := by
  refine Met.ofW (cc := cX0_takeBack) (maxL := 3) (ret := none) (by decide) rfl ?_
  intro p e s m args below meth c s₁ B hml hv
  obtain ⟨rfl, hsz, hP, hK, hD0⟩ := hv
  have hx := B.exec
  have hb := B.bytes
  have hr := B.returns
  have hts := atoms_spec (ws := wsX0_takeBack) B.pre
  have hown : s.vm.findClass RX0 = some m.cls := findClass_of_methodNamed B.named
  have hlocks := B.notSynchronized
  subst hsz
  have hD := hD0.self (sz := s.heap.size)
  generalize hAe : va_A (cC h a cy R nd n dr fl) s.heap.size = A at hD ⊢
  have hA : ∀ q : Nat, s.heap.size ≤ q → A q := fun q h => by rw [← hAe]; exact Or.inr h
  have hS : va_S A s.heap s.heap [] := va_S.rf
  have hl := lv_entry ([.ref h, .int x]) (n := 3) (Nat.le_of_ble_eq_true rfl)
  rw [lg_entry_eq]
  generalize (lg_sl ([.ref h, .int x]) ++ List.replicate (3 - (lg_sl ([.ref h, .int x])).length) Slot.unset).toArray = ls at hl ⊢
  have hl : lv_has ls 3 [(0, .ref h), (1, .int x)] := hl
  refine lv_aload_n hx hb dX0_takeBack_0 rfl (lv_at hl 0 rfl) ?_
  refine va_get (D := D) (ci := 0) (v := .int (nI n)) (C := RX0) (T := TX0) (N := 15) hx hb hts inX0_takeBack_0 hown hK.1 hP 0 rfl rfl 12 (by decide) (hts (.fieldLink RX0 112 "ChalkSlate" "lines" "I") (by decide +kernel)) (fun _ h9 => h9) rfl dX0_takeBack_1 ?_
  refine lv_istore_n (lv' := [(2, .int (nI n)), (0, .ref h), (1, .int x)]) hx hb dX0_takeBack_4 rfl hl (by decide) rfl (fun ls hl => ?_)
  refine lv_aload_n hx hb dX0_takeBack_5 rfl (lv_at hl 1 rfl) ?_
  refine lv_aload_n hx hb dX0_takeBack_6 rfl (lv_at hl 1 rfl) ?_
  refine va_get (D := D) (ci := 0) (v := .ref (a 4)) (C := RX0) (T := TX0) (N := 15) hx hb hts inX0_takeBack_0 hown hK.1 hP 0 rfl rfl 5 (by decide) (hts (.fieldLink RX0 22 "ChalkSlate" "lineDish" "[I") (by decide +kernel)) (fun _ h9 => h9) rfl dX0_takeBack_7 ?_
  refine lv_iload_n hx hb dX0_takeBack_10 rfl (lv_at hl 2 rfl) ?_
  refine rd_S (As := [.ref (a 4), .int x]) (rest := [.ref h]) ⟨hx, hb, hml, hown, hts⟩ (mX0_at l D cy (a 4) 120 (R 4) x (Nat.le_of_ble_eq_true rfl)) (va_cwS 2 hts gX0_takeBack_X0_at rfl rfl rfl (by decide +kernel) ⟨Nat.le_of_ble_eq_true rfl, Nat.le_of_ble_eq_true rfl⟩) (hP.sub (ws' := [(a 4, .inl (cy, 120, .inl (R 4)))]) [5] rfl) hK rfl hl.1 rfl (Nat.le_of_ble_eq_true rfl) dX0_takeBack_11 (Nat.zero_le _) (Nat.zero_le _) ?_
  refine lv_iconst (v := 3) hx hb dX0_takeBack_14 (by decide) ?_
  refine lv_aload_n hx hb dX0_takeBack_15 rfl (lv_at hl 1 rfl) ?_
  refine va_get (D := D) (ci := 0) (v := .ref (a 6)) (C := RX0) (T := TX0) (N := 15) hx hb hts inX0_takeBack_0 hown hK.1 hP 0 rfl rfl 7 (by decide) (hts (.fieldLink RX0 28 "ChalkSlate" "linePot" "[I") (by decide +kernel)) (fun _ h9 => h9) rfl dX0_takeBack_16 ?_
  refine lv_iload_n hx hb dX0_takeBack_19 rfl (lv_at hl 2 rfl) ?_
  refine rd_S (As := [.ref (a 6), .int x]) (rest := [.int 3, .int (atS 120 (R 4) x), .ref h]) ⟨hx, hb, hml, hown, hts⟩ (mX0_at l D cy (a 6) 120 (R 6) x (Nat.le_of_ble_eq_true rfl)) (va_cwS 2 hts gX0_takeBack_X0_at rfl rfl rfl (by decide +kernel) ⟨Nat.le_of_ble_eq_true rfl, Nat.le_of_ble_eq_true rfl⟩) (hP.sub (ws' := [(a 6, .inl (cy, 120, .inl (R 6)))]) [7] rfl) hK rfl hl.1 rfl (Nat.le_of_ble_eq_true rfl) dX0_takeBack_20 (Nat.zero_le _) (Nat.zero_le _) ?_
  refine lv_aload_n hx hb dX0_takeBack_23 rfl (lv_at hl 1 rfl) ?_
  refine va_get (D := D) (ci := 0) (v := .ref (a 7)) (C := RX0) (T := TX0) (N := 15) hx hb hts inX0_takeBack_0 hown hK.1 hP 0 rfl rfl 8 (by decide) (hts (.fieldLink RX0 31 "ChalkSlate" "lineAhead" "[I") (by decide +kernel)) (fun _ h9 => h9) rfl dX0_takeBack_24 ?_
  refine lv_iload_n hx hb dX0_takeBack_27 rfl (lv_at hl 2 rfl) ?_
  refine rd_S (As := [.ref (a 7), .int x]) (rest := [.int (atS 120 (R 6) x), .int 3, .int (atS 120 (R 4) x), .ref h]) ⟨hx, hb, hml, hown, hts⟩ (mX0_at l D cy (a 7) 120 (R 7) x (Nat.le_of_ble_eq_true rfl)) (va_cwS 2 hts gX0_takeBack_X0_at rfl rfl rfl (by decide +kernel) ⟨Nat.le_of_ble_eq_true rfl, Nat.le_of_ble_eq_true rfl⟩) (hP.sub (ws' := [(a 7, .inl (cy, 120, .inl (R 7)))]) [8] rfl) hK rfl hl.1 rfl (Nat.le_of_ble_eq_true rfl) dX0_takeBack_28 (Nat.zero_le _) (Nat.zero_le _) ?_
  refine wr_VV (q := (RX0, TX0, 15)) (ci := 0) (q0 := 0) (ws0' := cC h a cy (spoonsR R n (atS 120 (R 4) x) 3 (atS 120 (R 6) x) (atS 120 (R 7) x)) nd (n + 1) dr fl) (As := [.int (atS 120 (R 4) x), .int 3, .int (atS 120 (R 6) x), .int (atS 120 (R 7) x)]) (rest := []) ⟨hx, hb, hml, hown, hts⟩ (fun sz => mX0_chalkSpoons l D cy h a R nd n dr fl (atS 120 (R 4) x) 3 (atS 120 (R 6) x) (atS 120 (R 7) x) (by omega) (by omega) (by omega)  sz) (cwV 4 hts gX0_takeBack_X0_chalkSpoons rfl rfl rfl (by decide +kernel) ⟨Nat.le_of_ble_eq_true rfl, Nat.le_of_ble_eq_true rfl⟩) hP hK hD hS hA [0, 1, 2, 3, 4, 5, 6, 7, 8, 9, 10, 11] [] [0, 1, 2, 3, 4, 5, 6, 7, 8, 9, 10, 11] rfl rfl rfl (by decide) rfl rfl rfl rfl rfl rfl rfl hl.1 rfl (Nat.le_of_ble_eq_true rfl) dX0_takeBack_31 (Nat.zero_le _) (Nat.zero_le _) (fun H locs hP hD hS => ?_)
  refine lv_aload_n hx hb dX0_takeBack_34 rfl (lv_at hl 1 rfl) ?_
  refine va_get (D := D) (ci := 0) (v := .ref (a 9)) (C := RX0) (T := TX0) (N := 15) hx hb hts inX0_takeBack_0 hown hK.1 hP 0 rfl rfl 10 (by decide) (hts (.fieldLink RX0 37 "ChalkSlate" "lineTakesBack" "[I") (by decide +kernel)) (fun _ h9 => h9) rfl dX0_takeBack_35 ?_
  refine lv_iload_n hx hb dX0_takeBack_38 rfl (lv_at hl 0 rfl) ?_
  refine lv_iload_n hx hb dX0_takeBack_39 rfl (lv_at hl 2 rfl) ?_
  refine put_9 (rest := []) ⟨hx, hb, hml, hown, hts⟩ (va_cwS 3 hts gX0_takeBack_X0_put rfl rfl rfl (by decide +kernel) ⟨Nat.le_of_ble_eq_true rfl, Nat.le_of_ble_eq_true rfl⟩) hP hK hD hS hA hl.1 rfl (Nat.le_of_ble_eq_true rfl) dX0_takeBack_40 (Nat.zero_le _) (Nat.zero_le _) (fun H locs hP hD hS => ?_)
  refine lv_aload_n hx hb dX0_takeBack_43 rfl (lv_at hl 1 rfl) ?_
  refine va_get (D := D) (ci := 0) (v := .ref (a 10)) (C := RX0) (T := TX0) (N := 15) hx hb hts inX0_takeBack_0 hown hK.1 hP 0 rfl rfl 11 (by decide) (hts (.fieldLink RX0 40 "ChalkSlate" "lineTakenBackBy" "[I") (by decide +kernel)) (fun _ h9 => h9) rfl dX0_takeBack_44 ?_
  refine lv_iload_n hx hb dX0_takeBack_47 rfl (lv_at hl 2 rfl) ?_
  refine lv_iload_n hx hb dX0_takeBack_48 rfl (lv_at hl 0 rfl) ?_
  refine put_10 (rest := []) ⟨hx, hb, hml, hown, hts⟩ (va_cwS 3 hts gX0_takeBack_X0_put rfl rfl rfl (by decide +kernel) ⟨Nat.le_of_ble_eq_true rfl, Nat.le_of_ble_eq_true rfl⟩) hP hK hD hS hA hl.1 rfl (Nat.le_of_ble_eq_true rfl) dX0_takeBack_49 (Nat.zero_le _) (Nat.zero_le _) (fun H locs hP hD hS => ?_)
  exact W.vret hx hb hr (fun t ht hW => ⟨⟨(), rfl, trivial, by show va_P D vwCl _ t.heap; rw [ht]; exact hP⟩, hS.F ht⟩) hS.2.2 dX0_takeBack_52

set_option maxRecDepth 100000 in
theorem inX0_undo_0 : ∀ w ∈ wsX00, w ∈ wsX0_undo := by decide +kernel

set_option maxHeartbeats 4000000 in
set_option maxRecDepth 100000 in
theorem mX0_undo (l : Launch) (D : va_G) (cy : ClassId) (h : Nat) (a : Nat → Nat) (R : Nat → Nat → Int32) (nd n dr : Nat) (fl : Int32) (d : Int32) (hnd : nd < 1000000) (hn : n < 1000000) (hdr : dr < 1000000) (hn2 : n < 400000) (sz : Nat) : WrI l yX0_undo wsX0_undo 5 112 [.ref h, .int d] D cy (cC h a cy R nd n dr fl) (cC h a cy (undoR R n d) nd (undoN R n d) dr fl) sz (undoC R n d) := by
  refine Met.ofW (cc := cX0_undo) (maxL := 4) (ret := (some .int)) (by decide) rfl ?_
  intro p e s m args below meth c s₁ B hml hv
  obtain ⟨rfl, hsz, hP, hK, hD0⟩ := hv
  have hx := B.exec
  have hb := B.bytes
  have hr := B.returns
  have hts := atoms_spec (ws := wsX0_undo) B.pre
  have hown : s.vm.findClass RX0 = some m.cls := findClass_of_methodNamed B.named
  have hlocks := B.notSynchronized
  subst hsz
  have hD := hD0.self (sz := s.heap.size)
  generalize hAe : va_A (cC h a cy R nd n dr fl) s.heap.size = A at hD ⊢
  have hA : ∀ q : Nat, s.heap.size ≤ q → A q := fun q h => by rw [← hAe]; exact Or.inr h
  have hS : va_S A s.heap s.heap [] := va_S.rf
  have hl := lv_entry ([.ref h, .int d]) (n := 4) (Nat.le_of_ble_eq_true rfl)
  rw [lg_entry_eq]
  generalize (lg_sl ([.ref h, .int d]) ++ List.replicate (4 - (lg_sl ([.ref h, .int d])).length) Slot.unset).toArray = ls at hl ⊢
  have hl : lv_has ls 4 [(0, .ref h), (1, .int d)] := hl
  refine lv_iconst (v := 0) hx hb dX0_undo_0 (by decide) ?_
  refine lv_istore_n (lv' := [(2, .int 0), (0, .ref h), (1, .int d)]) hx hb dX0_undo_1 rfl hl (by decide) rfl (fun ls hl => ?_)
  refine lv_aload_n hx hb dX0_undo_2 rfl (lv_at hl 1 rfl) ?_
  refine va_get (D := D) (ci := 0) (v := .int (nI n)) (C := RX0) (T := TX0) (N := 15) hx hb hts inX0_undo_0 hown hK.1 hP 0 rfl rfl 12 (by decide) (hts (.fieldLink RX0 112 "ChalkSlate" "lines" "I") (by decide +kernel)) (fun _ h9 => h9) rfl dX0_undo_3 ?_
  refine lv_iconst (v := 1) hx hb dX0_undo_6 (by decide) ?_
  refine lv_isub hx hb dX0_undo_7 ?_
  refine lv_istore_n (lv' := [(3, .int ((nI n) - 1)), (2, .int 0), (0, .ref h), (1, .int d)]) hx hb dX0_undo_8 rfl hl (by decide) rfl (fun ls hl => ?_)
  have loop : ∀ (i : Nat) (acc : Int32) (x : Int32) (R0 : Nat → Nat → Int32) (n0 : Nat), i ≤ n → x = nI i - 1 → R0 = (undoP R n d (n - i)).1 → n0 = (undoP R n d (n - i)).2.1 → acc = (undoP R n d (n - i)).2.2 → n0 + i ≤ n + n → ∀ (H : Heap) (locs : List Loc), va_P D vwCl (cC h a cy R0 nd n0 dr fl) H → va_D A (cC h a cy R0 nd n0 dr fl) → va_S A s.heap H locs → ∀ ls : Array Slot, lv_has ls 4 [(0, .ref h), (1, .int d), (2, .int acc), (3, .int x)] → W p l e (headSpec wsX0_undo { frames := 5, cells := 0, slots := 0, locals := 112 }).room s m ([.ref h, .int d] : List Value).toArray below meth c H locs 0 0 (MQ below (va_Qi (fun (r : Int32) (_ : Unit) => r = undoC R n d) (fun _ t => va_P D vwCl (cC h a cy (undoR R n d) nd (undoN R n d) dr fl) t.heap) A) ([.ref h, .int d] : List Value).toArray s 0 0 A) (F0 m 9 ls []) := by
    intro i
    induction i with
    | zero =>
      intro acc x R0 n0 hik hxx hs1 hs2 hs3 hb0 H locs hP hD hS ls hl
      have hx0 : x = -1 := by rw [hxx]; rfl
      subst hx0
      refine lv_iload_n hx hb dX0_undo_9 rfl (lv_at hl 3 rfl) ?_
      refine lv_if_lt (tgt := 40) hx hb dX0_undo_10 (by decide) (fun c1 => ?_) (fun c1 => absurd (by decide) c1)
      refine lv_aload_n hx hb dX0_undo_40 rfl (lv_at hl 0 rfl) ?_
      refine lv_iload_n hx hb dX0_undo_41 rfl (lv_at hl 1 rfl) ?_
      refine lv_iconst (v := 4) hx hb dX0_undo_42 (by decide) ?_
      refine wr_VV (q := (RX0, TX0, 15)) (ci := 0) (q0 := 0) (ws0' := cC h a cy (chalkR R0 n0 d 4) nd (n0 + 1) dr fl) (As := [.int d, .int 4]) (rest := []) ⟨hx, hb, hml, hown, hts⟩ (fun sz => mX0_chalk l D cy h a R0 nd n0 dr fl d 4 (by omega) (by omega) (by omega)  sz) (cwV 2 hts gX0_undo_X0_chalk rfl rfl rfl (by decide +kernel) ⟨Nat.le_of_ble_eq_true rfl, Nat.le_of_ble_eq_true rfl⟩) hP hK hD hS hA [0, 1, 2, 3, 4, 5, 6, 7, 8, 9, 10, 11] [] [0, 1, 2, 3, 4, 5, 6, 7, 8, 9, 10, 11] rfl rfl rfl (by decide) rfl rfl rfl rfl rfl rfl rfl hl.1 rfl (Nat.le_of_ble_eq_true rfl) dX0_undo_43 (Nat.zero_le _) (Nat.zero_le _) (fun H locs hP hD hS => ?_)
      refine lv_aload_n hx hb dX0_undo_46 rfl (lv_at hl 0 rfl) ?_
      refine va_get (D := D) (ci := 0) (v := .ref (a 3)) (C := RX0) (T := TX0) (N := 15) hx hb hts inX0_undo_0 hown hK.1 hP 0 rfl rfl 3 (by decide) (hts (.fieldLink RX0 19 "ChalkSlate" "dishState" "[I") (by decide +kernel)) (fun _ h9 => h9) rfl dX0_undo_47 ?_
      refine lv_iload_n hx hb dX0_undo_50 rfl (lv_at hl 1 rfl) ?_
      refine lv_iconst (v := 2) hx hb dX0_undo_51 (by decide) ?_
      refine put_3 (rest := []) ⟨hx, hb, hml, hown, hts⟩ (va_cwS 3 hts gX0_undo_X0_put rfl rfl rfl (by decide +kernel) ⟨Nat.le_of_ble_eq_true rfl, Nat.le_of_ble_eq_true rfl⟩) hP hK hD hS hA hl.1 rfl (Nat.le_of_ble_eq_true rfl) dX0_undo_52 (Nat.zero_le _) (Nat.zero_le _) (fun H locs hP hD hS => ?_)
      refine lv_iload_n hx hb dX0_undo_55 rfl (lv_at hl 2 rfl) ?_
      rw [Nat.sub_zero] at hs1 hs2 hs3
      have hP : va_P D vwCl (cC h a cy (undoR R n d) nd (undoN R n d) dr fl) H := by rw [undoR, undoN, ← hs1, ← hs2]; exact hP
      exact W.iret (v := acc) hx hb hr (fun t ht hW => ⟨⟨acc, (), rfl, by rw [undoC, hs3], by show va_P D vwCl _ t.heap; rw [ht]; exact hP⟩, hS.F ht⟩) hS.2.2 dX0_undo_56
    | succ i ih =>
      intro acc x R0 n0 hik hxx hs1 hs2 hs3 hb0 H locs hP hD hS ls hl
      have hx1 : x = nI i := by rw [hxx, nI_pred]
      subst hx1
      refine lv_iload_n hx hb dX0_undo_9 rfl (lv_at hl 3 rfl) ?_
      refine lv_if_lt (tgt := 40) hx hb dX0_undo_10 (by decide) (fun c2 => absurd c2 (nI_pos (by omega))) (fun c2 => ?_)
      refine lv_aload_n hx hb dX0_undo_13 rfl (lv_at hl 0 rfl) ?_
      refine lv_iload_n hx hb dX0_undo_14 rfl (lv_at hl 3 rfl) ?_
      refine lv_iload_n hx hb dX0_undo_15 rfl (lv_at hl 1 rfl) ?_
      refine lv_aload_n hx hb dX0_undo_16 rfl (lv_at hl 0 rfl) ?_
      refine va_get (D := D) (ci := 0) (v := .int (nI n0)) (C := RX0) (T := TX0) (N := 15) hx hb hts inX0_undo_0 hown hK.1 hP 0 rfl rfl 12 (by decide) (hts (.fieldLink RX0 112 "ChalkSlate" "lines" "I") (by decide +kernel)) (fun _ h9 => h9) rfl dX0_undo_17 ?_
      refine rd_V (q := (RX0, TX0, 15)) (ci := 0) (q0 := 0) (As := [.int (nI i), .int d, .int (nI n0)]) (rest := []) ⟨hx, hb, hml, hown, hts⟩ (mX0_isChangeNotTakenBack l D cy h a R0 nd n0 dr fl (nI i) d (nI n0) (by omega) (by omega) (by omega) ) (cwV 3 hts gX0_undo_X0_isChangeNotTakenBack rfl rfl rfl (by decide +kernel) ⟨Nat.le_of_ble_eq_true rfl, Nat.le_of_ble_eq_true rfl⟩) hP hK rfl rfl rfl hl.1 rfl (Nat.le_of_ble_eq_true rfl) dX0_undo_20 (Nat.zero_le _) (Nat.zero_le _) ?_
      refine lv_if_eq (tgt := 34) hx hb dX0_undo_23 (by decide) (fun c3 => ?_) (fun c3 => ?_)
      · refine lv_iinc (v := (nI i) + (-1)) (lv' := [(3, .int ((nI i) + (-1))), (0, .ref h), (1, .int d), (2, .int acc)]) hx hb dX0_undo_34 hl (k := 3) rfl (rfl) (by decide) rfl (fun ls hl => ?_)
        refine lv_goto (tgt := 9) hx hb dX0_undo_37 (by decide) ?_
        exact ih acc _ R0 n0 (by omega) (add_m1 _) (by rw [show n - i = n - (i + 1) + 1 by omega, undoP, show n - 1 - (n - (i + 1)) = i by omega, ← hs1, ← hs2, if_pos c3, ← hs1]) (by rw [show n - i = n - (i + 1) + 1 by omega, undoP, show n - 1 - (n - (i + 1)) = i by omega, ← hs1, ← hs2, if_pos c3, ← hs2]) (by rw [show n - i = n - (i + 1) + 1 by omega, undoP, show n - 1 - (n - (i + 1)) = i by omega, ← hs1, ← hs2, if_pos c3, ← hs3]) (by omega) H locs hP hD hS ls (lv_sub hl [1, 2, 3, 0] rfl)
      · refine lv_aload_n hx hb dX0_undo_26 rfl (lv_at hl 0 rfl) ?_
        refine lv_iload_n hx hb dX0_undo_27 rfl (lv_at hl 3 rfl) ?_
        refine wr_VV (q := (RX0, TX0, 15)) (ci := 0) (q0 := 0) (ws0' := cC h a cy (takeBackR R0 n0 (nI i)) nd (n0 + 1) dr fl) (As := [.int (nI i)]) (rest := []) ⟨hx, hb, hml, hown, hts⟩ (fun sz => mX0_takeBack l D cy h a R0 nd n0 dr fl (nI i) (by omega) (by omega) (by omega)  sz) (cwV 1 hts gX0_undo_X0_takeBack rfl rfl rfl (by decide +kernel) ⟨Nat.le_of_ble_eq_true rfl, Nat.le_of_ble_eq_true rfl⟩) hP hK hD hS hA [0, 1, 2, 3, 4, 5, 6, 7, 8, 9, 10, 11] [] [0, 1, 2, 3, 4, 5, 6, 7, 8, 9, 10, 11] rfl rfl rfl (by decide) rfl rfl rfl rfl rfl rfl rfl hl.1 rfl (Nat.le_of_ble_eq_true rfl) dX0_undo_28 (Nat.zero_le _) (Nat.zero_le _) (fun H locs hP hD hS => ?_)
        refine lv_iinc (v := acc + 1) (lv' := [(2, .int (acc + 1)), (0, .ref h), (1, .int d), (3, .int (nI i))]) hx hb dX0_undo_31 hl (k := 2) rfl (rfl) (by decide) rfl (fun ls hl => ?_)
        refine lv_iinc (v := (nI i) + (-1)) (lv' := [(3, .int ((nI i) + (-1))), (2, .int (acc + 1)), (0, .ref h), (1, .int d)]) hx hb dX0_undo_34 hl (k := 3) rfl (rfl) (by decide) rfl (fun ls hl => ?_)
        refine lv_goto (tgt := 9) hx hb dX0_undo_37 (by decide) ?_
        exact ih (acc + 1) _ (takeBackR R0 n0 (nI i)) (n0 + 1) (by omega) (add_m1 _) (by rw [show n - i = n - (i + 1) + 1 by omega, undoP, show n - 1 - (n - (i + 1)) = i by omega, ← hs1, ← hs2, if_neg c3]) (by rw [show n - i = n - (i + 1) + 1 by omega, undoP, show n - 1 - (n - (i + 1)) = i by omega, ← hs1, ← hs2, if_neg c3]) (by rw [show n - i = n - (i + 1) + 1 by omega, undoP, show n - 1 - (n - (i + 1)) = i by omega, ← hs1, ← hs2, if_neg c3, ← hs3]) (by omega) H locs hP hD hS ls (lv_sub hl [2, 3, 1, 0] rfl)
  exact loop n 0 _ R n (Nat.le_refl _) rfl (by rw [Nat.sub_self]; rfl) (by rw [Nat.sub_self]; rfl) (by rw [Nat.sub_self]; rfl) (Nat.le_refl _) s.heap [] hP hD hS ls (lv_sub hl [2, 3, 1, 0] rfl)

set_option maxRecDepth 100000 in
theorem inX0_dryUpTo_0 : ∀ w ∈ wsX00, w ∈ wsX0_dryUpTo := by decide +kernel

set_option maxHeartbeats 4000000 in
set_option maxRecDepth 100000 in
theorem mX0_dryUpTo (l : Launch) (D : va_G) (cy : ClassId) (h : Nat) (a : Nat → Nat) (R : Nat → Nat → Int32) (nd n dr : Nat) (fl : Int32) (e9 : Nat) (hnd : nd < 1000000) (hn : n < 1000000) (hdr : dr < 1000000) (he : e9 < 1000000) (sz : Nat) : WrI l yX0_dryUpTo wsX0_dryUpTo 1 14 [.ref h, .int (nI e9)] D cy (cC h a cy R nd n dr fl) (cC h a cy R nd n (dryN dr e9) fl) sz (nI (dryN dr e9) - nI dr) := by
  refine Met.ofW (cc := cX0_dryUpTo) (maxL := 3) (ret := (some .int)) (by decide) rfl ?_
  intro p e s m args below meth c s₁ B hml hv
  obtain ⟨rfl, hsz, hP, hK, hD0⟩ := hv
  have hx := B.exec
  have hb := B.bytes
  have hr := B.returns
  have hts := atoms_spec (ws := wsX0_dryUpTo) B.pre
  have hown : s.vm.findClass RX0 = some m.cls := findClass_of_methodNamed B.named
  have hlocks := B.notSynchronized
  subst hsz
  have hD := hD0.self (sz := s.heap.size)
  generalize hAe : va_A (cC h a cy R nd n dr fl) s.heap.size = A at hD ⊢
  have hA : ∀ q : Nat, s.heap.size ≤ q → A q := fun q h => by rw [← hAe]; exact Or.inr h
  have hS : va_S A s.heap s.heap [] := va_S.rf
  have hl := lv_entry ([.ref h, .int (nI e9)]) (n := 3) (Nat.le_of_ble_eq_true rfl)
  rw [lg_entry_eq]
  generalize (lg_sl ([.ref h, .int (nI e9)]) ++ List.replicate (3 - (lg_sl ([.ref h, .int (nI e9)])).length) Slot.unset).toArray = ls at hl ⊢
  have hl : lv_has ls 3 [(0, .ref h), (1, .int (nI e9))] := hl
  refine lv_aload_n hx hb dX0_dryUpTo_0 rfl (lv_at hl 0 rfl) ?_
  refine va_get (D := D) (ci := 0) (v := .int (nI dr)) (C := RX0) (T := TX0) (N := 15) hx hb hts inX0_dryUpTo_0 hown hK.1 hP 0 rfl rfl 13 (by decide) (hts (.fieldLink RX0 166 "ChalkSlate" "dryLines" "I") (by decide +kernel)) (fun _ h9 => h9) rfl dX0_dryUpTo_1 ?_
  refine lv_istore_n (lv' := [(2, .int (nI dr)), (0, .ref h), (1, .int (nI e9))]) hx hb dX0_dryUpTo_4 rfl hl (by decide) rfl (fun ls hl => ?_)
  refine lv_aload_n hx hb dX0_dryUpTo_5 rfl (lv_at hl 1 rfl) ?_
  refine lv_iload_n hx hb dX0_dryUpTo_6 rfl (lv_at hl 0 rfl) ?_
  refine lv_iload_n hx hb dX0_dryUpTo_7 rfl (lv_at hl 2 rfl) ?_
  refine va_mmax hx hb (hml.trans hl.1.symm) hown (hts (.methodLink RX0 227 Lib.Math.max.name) (by decide +kernel)) (hts (.static Lib.Math.max.name) (by decide +kernel)) (hts (.initialized "java/lang/Math") (by decide +kernel)) (hts (.code Lib.Math.max.name Lib.Math.max.code 2 (some .int)) (by decide +kernel)) (Nat.le_of_ble_eq_true rfl) (Nat.le_of_ble_eq_true rfl) (Nat.zero_le _) (Nat.zero_le _) dX0_dryUpTo_8 ?_
  rw [show (if (nI dr) < (nI e9) then (nI e9) else (nI dr)) = nI (dryN dr e9) from max_nI hdr he]
  refine va_put (D := D) (ci := 0) (v := .int (nI (dryN dr e9))) (ty := .int) (C := RX0) (T := TX0) (N := 15) hx hb hts inX0_dryUpTo_0 tyX0 tyX0_ok nmX0 hown hK.1 hP hD hS 0 rfl rfl 13 (by decide) (hts (.fieldLink RX0 166 "ChalkSlate" "dryLines" "I") (by decide +kernel)) (fun _ h9 => h9) rfl (by decide +kernel) rfl rfl (Nat.le_of_ble_eq_true rfl) dX0_dryUpTo_11 (fun H locs hP hD hS => ?_)
  have hP : va_P D vwCl (cC h a cy R nd n (dryN dr e9) fl) H := hP
  have hD : va_D A (cC h a cy R nd n (dryN dr e9) fl) := hD
  refine lv_aload_n hx hb dX0_dryUpTo_14 rfl (lv_at hl 1 rfl) ?_
  refine va_get (D := D) (ci := 0) (v := .int (nI (dryN dr e9))) (C := RX0) (T := TX0) (N := 15) hx hb hts inX0_dryUpTo_0 hown hK.1 hP 0 rfl rfl 13 (by decide) (hts (.fieldLink RX0 166 "ChalkSlate" "dryLines" "I") (by decide +kernel)) (fun _ h9 => h9) rfl dX0_dryUpTo_15 ?_
  refine lv_iload_n hx hb dX0_dryUpTo_18 rfl (lv_at hl 0 rfl) ?_
  refine lv_isub hx hb dX0_dryUpTo_19 ?_
  exact W.iret (v := (nI (dryN dr e9)) - (nI dr)) hx hb hr (fun t ht hW => ⟨⟨((nI (dryN dr e9)) - (nI dr)), (), rfl, rfl, by show va_P D vwCl _ t.heap; rw [ht]; exact hP⟩, hS.F ht⟩) hS.2.2 dX0_dryUpTo_20

set_option maxRecDepth 100000 in
theorem inX0_blow_0 : ∀ w ∈ wsX00, w ∈ wsX0_blow := by decide +kernel

set_option maxHeartbeats 4000000 in
set_option maxRecDepth 100000 in
theorem mX0_blow (l : Launch) (D : va_G) (cy : ClassId) (h : Nat) (a : Nat → Nat) (R : Nat → Nat → Int32) (nd n dr : Nat) (fl : Int32)  (hnd : nd < 1000000) (hn : n < 1000000) (hdr : dr < 1000000) (sz : Nat) : WrI l yX0_blow wsX0_blow 2 36 [.ref h] D cy (cC h a cy R nd n dr fl) (cC h a cy R nd n (dryN dr n) fl) sz (nI (dryN dr n) - nI dr) := by
  refine Met.ofW (cc := cX0_blow) (maxL := 1) (ret := (some .int)) (by decide) rfl ?_
  intro p e s m args below meth c s₁ B hml hv
  obtain ⟨rfl, hsz, hP, hK, hD0⟩ := hv
  have hx := B.exec
  have hb := B.bytes
  have hr := B.returns
  have hts := atoms_spec (ws := wsX0_blow) B.pre
  have hown : s.vm.findClass RX0 = some m.cls := findClass_of_methodNamed B.named
  have hlocks := B.notSynchronized
  subst hsz
  have hD := hD0.self (sz := s.heap.size)
  generalize hAe : va_A (cC h a cy R nd n dr fl) s.heap.size = A at hD ⊢
  have hA : ∀ q : Nat, s.heap.size ≤ q → A q := fun q h => by rw [← hAe]; exact Or.inr h
  have hS : va_S A s.heap s.heap [] := va_S.rf
  have hl := lv_entry ([.ref h]) (n := 1) (Nat.le_of_ble_eq_true rfl)
  rw [lg_entry_eq]
  generalize (lg_sl ([.ref h]) ++ List.replicate (1 - (lg_sl ([.ref h])).length) Slot.unset).toArray = ls at hl ⊢
  have hl : lv_has ls 1 [(0, .ref h)] := hl
  refine lv_aload_n hx hb dX0_blow_0 rfl (lv_at hl 0 rfl) ?_
  refine lv_aload_n hx hb dX0_blow_1 rfl (lv_at hl 0 rfl) ?_
  refine va_get (D := D) (ci := 0) (v := .int (nI n)) (C := RX0) (T := TX0) (N := 15) hx hb hts inX0_blow_0 hown hK.1 hP 0 rfl rfl 12 (by decide) (hts (.fieldLink RX0 112 "ChalkSlate" "lines" "I") (by decide +kernel)) (fun _ h9 => h9) rfl dX0_blow_2 ?_
  refine wr_VI (q := (RX0, TX0, 15)) (ci := 0) (q0 := 0) (ws0' := cC h a cy R nd n (dryN dr n) fl) (As := [.int (nI n)]) (rest := []) ⟨hx, hb, hml, hown, hts⟩ (fun sz => mX0_dryUpTo l D cy h a R nd n dr fl n (by omega) (by omega) (by omega) (by omega) sz) (cwV 1 hts gX0_blow_X0_dryUpTo rfl rfl rfl (by decide +kernel) ⟨Nat.le_of_ble_eq_true rfl, Nat.le_of_ble_eq_true rfl⟩) hP hK hD hS hA [0, 1, 2, 3, 4, 5, 6, 7, 8, 9, 10, 11] [] [0, 1, 2, 3, 4, 5, 6, 7, 8, 9, 10, 11] rfl rfl rfl (by decide) rfl rfl rfl rfl rfl rfl rfl hl.1 rfl (Nat.le_of_ble_eq_true rfl) dX0_blow_5 (Nat.zero_le _) (Nat.zero_le _) (fun H locs hP hD hS => ?_)
  exact W.iret (v := nI (dryN dr n) - nI dr) hx hb hr (fun t ht hW => ⟨⟨(nI (dryN dr n) - nI dr), (), rfl, rfl, by show va_P D vwCl _ t.heap; rw [ht]; exact hP⟩, hS.F ht⟩) hS.2.2 dX0_blow_8

set_option maxRecDepth 100000 in
theorem inX0_wipeWhatIsNotDry_0 : ∀ w ∈ wsX00, w ∈ wsX0_wipeWhatIsNotDry := by decide +kernel

set_option maxHeartbeats 4000000 in
set_option maxRecDepth 100000 in
theorem mX0_wipeWhatIsNotDry (l : Launch) (D : va_G) (cy : ClassId) (h : Nat) (a : Nat → Nat) (R : Nat → Nat → Int32) (nd n dr : Nat) (fl : Int32)  (hnd : nd < 1000000) (hn : n < 1000000) (hdr : dr < 1000000) (sz : Nat) : WrV l yX0_wipeWhatIsNotDry wsX0_wipeWhatIsNotDry 3 66 [.ref h] D cy (cC h a cy R nd n dr fl) (cC h a cy (wipeR R nd dr) nd dr dr fl) sz := by
  refine Met.ofW (cc := cX0_wipeWhatIsNotDry) (maxL := 2) (ret := none) (by decide) rfl ?_
  intro p e s m args below meth c s₁ B hml hv
  obtain ⟨rfl, hsz, hP, hK, hD0⟩ := hv
  have hx := B.exec
  have hb := B.bytes
  have hr := B.returns
  have hts := atoms_spec (ws := wsX0_wipeWhatIsNotDry) B.pre
  have hown : s.vm.findClass RX0 = some m.cls := findClass_of_methodNamed B.named
  have hlocks := B.notSynchronized
  subst hsz
  have hD := hD0.self (sz := s.heap.size)
  generalize hAe : va_A (cC h a cy R nd n dr fl) s.heap.size = A at hD ⊢
  have hA : ∀ q : Nat, s.heap.size ≤ q → A q := fun q h => by rw [← hAe]; exact Or.inr h
  have hS : va_S A s.heap s.heap [] := va_S.rf
  have hl := lv_entry ([.ref h]) (n := 2) (Nat.le_of_ble_eq_true rfl)
  rw [lg_entry_eq]
  generalize (lg_sl ([.ref h]) ++ List.replicate (2 - (lg_sl ([.ref h])).length) Slot.unset).toArray = ls at hl ⊢
  have hl : lv_has ls 2 [(0, .ref h)] := hl
  refine lv_aload_n hx hb dX0_wipeWhatIsNotDry_0 rfl (lv_at hl 0 rfl) ?_
  refine lv_aload_n hx hb dX0_wipeWhatIsNotDry_1 rfl (lv_at hl 0 rfl) ?_
  refine va_get (D := D) (ci := 0) (v := .int (nI dr)) (C := RX0) (T := TX0) (N := 15) hx hb hts inX0_wipeWhatIsNotDry_0 hown hK.1 hP 0 rfl rfl 13 (by decide) (hts (.fieldLink RX0 166 "ChalkSlate" "dryLines" "I") (by decide +kernel)) (fun _ h9 => h9) rfl dX0_wipeWhatIsNotDry_2 ?_
  refine va_put (D := D) (ci := 0) (v := .int (nI dr)) (ty := .int) (C := RX0) (T := TX0) (N := 15) hx hb hts inX0_wipeWhatIsNotDry_0 tyX0 tyX0_ok nmX0 hown hK.1 hP hD hS 0 rfl rfl 12 (by decide) (hts (.fieldLink RX0 112 "ChalkSlate" "lines" "I") (by decide +kernel)) (fun _ h9 => h9) rfl (by decide +kernel) rfl rfl (Nat.le_of_ble_eq_true rfl) dX0_wipeWhatIsNotDry_5 (fun H locs hP hD hS => ?_)
  have hP : va_P D vwCl (cC h a cy R nd dr dr fl) H := hP
  have hD : va_D A (cC h a cy R nd dr dr fl) := hD
  refine lv_iconst (v := 0) hx hb dX0_wipeWhatIsNotDry_8 (by decide) ?_
  refine lv_istore_n (lv' := [(1, .int 0), (0, .ref h)]) hx hb dX0_wipeWhatIsNotDry_9 rfl hl (by decide) rfl (fun ls hl => ?_)
  have loop1 : ∀ (k1 i1 : Nat) (R0 : Nat → Nat → Int32), i1 + k1 = dr → R0 = wipe1R R dr i1 → ∀ (H : Heap) (locs : List Loc), va_P D vwCl (cC h a cy R0 nd dr dr fl) H → va_D A (cC h a cy R0 nd dr dr fl) → va_S A s.heap H locs → ∀ ls : Array Slot, lv_has ls 2 [(0, .ref h), (1, .int (nI i1))] → W p l e (headSpec wsX0_wipeWhatIsNotDry { frames := 3, cells := 0, slots := 0, locals := 66 }).room s m ([.ref h] : List Value).toArray below meth c H locs 0 0 (MQ below (va_Qv (fun _ : Unit => True) (fun _ t => va_P D vwCl (cC h a cy (wipeR R nd dr) nd dr dr fl) t.heap) A) ([.ref h] : List Value).toArray s 0 0 A) (F0 m 10 ls []) := by
    intro k1
    induction k1 with
    | zero =>
      intro i1 R0 hik1 hR H locs hP hD hS ls hl
      have hin1 : i1 = dr := by omega
      refine lv_iload_n hx hb dX0_wipeWhatIsNotDry_10 rfl (lv_at hl 1 rfl) ?_
      refine lv_aload_n hx hb dX0_wipeWhatIsNotDry_11 rfl (lv_at hl 0 rfl) ?_
      refine va_get (D := D) (ci := 0) (v := .int (nI dr)) (C := RX0) (T := TX0) (N := 15) hx hb hts inX0_wipeWhatIsNotDry_0 hown hK.1 hP 0 rfl rfl 12 (by decide) (hts (.fieldLink RX0 112 "ChalkSlate" "lines" "I") (by decide +kernel)) (fun _ h9 => h9) rfl dX0_wipeWhatIsNotDry_12 ?_
      refine lv_icmp_ge (tgt := 48) hx hb dX0_wipeWhatIsNotDry_15 (by decide) (fun c1 => ?_) (fun c1 => absurd (nI_le (by omega) (by omega)) c1)
      refine lv_iconst (v := 0) hx hb dX0_wipeWhatIsNotDry_48 (by decide) ?_
      refine lv_istore_n (lv' := [(1, .int 0), (0, .ref h)]) hx hb dX0_wipeWhatIsNotDry_49 rfl hl (by decide) rfl (fun ls hl => ?_)
      have loop2 : ∀ (k2 i2 : Nat) (R1 : Nat → Nat → Int32), i2 + k2 = nd → R1 = wipe2R (wipe1R R dr dr) dr i2 → ∀ (H : Heap) (locs : List Loc), va_P D vwCl (cC h a cy R1 nd dr dr fl) H → va_D A (cC h a cy R1 nd dr dr fl) → va_S A s.heap H locs → ∀ ls : Array Slot, lv_has ls 2 [(0, .ref h), (1, .int (nI i2))] → W p l e (headSpec wsX0_wipeWhatIsNotDry { frames := 3, cells := 0, slots := 0, locals := 66 }).room s m ([.ref h] : List Value).toArray below meth c H locs 0 0 (MQ below (va_Qv (fun _ : Unit => True) (fun _ t => va_P D vwCl (cC h a cy (wipeR R nd dr) nd dr dr fl) t.heap) A) ([.ref h] : List Value).toArray s 0 0 A) (F0 m 50 ls []) := by
        intro k2
        induction k2 with
        | zero =>
          intro i2 R1 hik2 hR2 H locs hP hD hS ls hl
          have hin2 : i2 = nd := by omega
          refine lv_iload_n hx hb dX0_wipeWhatIsNotDry_50 rfl (lv_at hl 1 rfl) ?_
          refine lv_aload_n hx hb dX0_wipeWhatIsNotDry_51 rfl (lv_at hl 0 rfl) ?_
          refine va_get (D := D) (ci := 0) (v := .int (nI nd)) (C := RX0) (T := TX0) (N := 15) hx hb hts inX0_wipeWhatIsNotDry_0 hown hK.1 hP 0 rfl rfl 4 (by decide) (hts (.fieldLink RX0 49 "ChalkSlate" "dishes" "I") (by decide +kernel)) (fun _ h9 => h9) rfl dX0_wipeWhatIsNotDry_52 ?_
          refine lv_icmp_ge (tgt := 81) hx hb dX0_wipeWhatIsNotDry_55 (by decide) (fun c2 => ?_) (fun c2 => absurd (nI_le (by omega) (by omega)) c2)
          have hP : va_P D vwCl (cC h a cy (wipeR R nd dr) nd dr dr fl) H := by rw [show wipeR R nd dr = R1 by rw [wipeR, hR2, hin2]]; exact hP
          exact W.vret hx hb hr (fun t ht hW => ⟨⟨(), rfl, trivial, by show va_P D vwCl _ t.heap; rw [ht]; exact hP⟩, hS.F ht⟩) hS.2.2 dX0_wipeWhatIsNotDry_81
        | succ k2 ih2 =>
          intro i2 R1 hik2 hR2 H locs hP hD hS ls hl
          refine lv_iload_n hx hb dX0_wipeWhatIsNotDry_50 rfl (lv_at hl 1 rfl) ?_
          refine lv_aload_n hx hb dX0_wipeWhatIsNotDry_51 rfl (lv_at hl 0 rfl) ?_
          refine va_get (D := D) (ci := 0) (v := .int (nI nd)) (C := RX0) (T := TX0) (N := 15) hx hb hts inX0_wipeWhatIsNotDry_0 hown hK.1 hP 0 rfl rfl 4 (by decide) (hts (.fieldLink RX0 49 "ChalkSlate" "dishes" "I") (by decide +kernel)) (fun _ h9 => h9) rfl dX0_wipeWhatIsNotDry_52 ?_
          refine lv_icmp_ge (tgt := 81) hx hb dX0_wipeWhatIsNotDry_55 (by decide) (fun c3 => absurd c3 (nI_ge (by omega) (by omega))) (fun c3 => ?_)
          refine lv_aload_n hx hb dX0_wipeWhatIsNotDry_58 rfl (lv_at hl 0 rfl) ?_
          refine va_get (D := D) (ci := 0) (v := .ref (a 3)) (C := RX0) (T := TX0) (N := 15) hx hb hts inX0_wipeWhatIsNotDry_0 hown hK.1 hP 0 rfl rfl 3 (by decide) (hts (.fieldLink RX0 19 "ChalkSlate" "dishState" "[I") (by decide +kernel)) (fun _ h9 => h9) rfl dX0_wipeWhatIsNotDry_59 ?_
          refine lv_iload_n hx hb dX0_wipeWhatIsNotDry_62 rfl (lv_at hl 1 rfl) ?_
          refine lv_aload_n hx hb dX0_wipeWhatIsNotDry_63 rfl (lv_at hl 0 rfl) ?_
          refine lv_iload_n hx hb dX0_wipeWhatIsNotDry_64 rfl (lv_at hl 1 rfl) ?_
          refine lv_aload_n hx hb dX0_wipeWhatIsNotDry_65 rfl (lv_at hl 0 rfl) ?_
          refine va_get (D := D) (ci := 0) (v := .int (nI dr)) (C := RX0) (T := TX0) (N := 15) hx hb hts inX0_wipeWhatIsNotDry_0 hown hK.1 hP 0 rfl rfl 12 (by decide) (hts (.fieldLink RX0 112 "ChalkSlate" "lines" "I") (by decide +kernel)) (fun _ h9 => h9) rfl dX0_wipeWhatIsNotDry_66 ?_
          refine rd_V (q := (RX0, TX0, 15)) (ci := 0) (q0 := 0) (As := [.int (nI i2), .int (nI dr)]) (rest := [.int (nI i2), .ref (a 3)]) ⟨hx, hb, hml, hown, hts⟩ (mX0_stateByLines l D cy h a R1 nd dr dr fl (nI i2) dr (by omega) (by omega) (by omega) (by omega)) (cwV 2 hts gX0_wipeWhatIsNotDry_X0_stateByLines rfl rfl rfl (by decide +kernel) ⟨Nat.le_of_ble_eq_true rfl, Nat.le_of_ble_eq_true rfl⟩) hP hK rfl rfl rfl hl.1 rfl (Nat.le_of_ble_eq_true rfl) dX0_wipeWhatIsNotDry_69 (Nat.zero_le _) (Nat.zero_le _) ?_
          refine put_3 (rest := []) ⟨hx, hb, hml, hown, hts⟩ (va_cwS 3 hts gX0_wipeWhatIsNotDry_X0_put rfl rfl rfl (by decide +kernel) ⟨Nat.le_of_ble_eq_true rfl, Nat.le_of_ble_eq_true rfl⟩) hP hK hD hS hA hl.1 rfl (Nat.le_of_ble_eq_true rfl) dX0_wipeWhatIsNotDry_72 (Nat.zero_le _) (Nat.zero_le _) (fun H locs hP hD hS => ?_)
          refine lv_iinc (v := nI (i2 + 1)) (lv' := [(1, .int (nI (i2 + 1))), (0, .ref h)]) hx hb dX0_wipeWhatIsNotDry_75 hl (k := 1) rfl ((nI_succ i2).symm) (by decide) rfl (fun ls hl => ?_)
          refine lv_goto (tgt := 50) hx hb dX0_wipeWhatIsNotDry_78 (by decide) ?_
          exact ih2 (i2 + 1) (stepR R1 3 20 (nI i2) (stateByS R1 (nI i2) dr)) (by omega) (by rw [wipe2R, ← hR2]) H locs hP hD hS ls (lv_sub hl [1, 0] rfl)
      exact loop2 nd 0 R0 (Nat.zero_add _) (by rw [hR, hin1]; rfl) H locs hP hD hS ls (lv_sub hl [1, 0] rfl)
    | succ k1 ih1 =>
      intro i1 R0 hik1 hR H locs hP hD hS ls hl
      refine lv_iload_n hx hb dX0_wipeWhatIsNotDry_10 rfl (lv_at hl 1 rfl) ?_
      refine lv_aload_n hx hb dX0_wipeWhatIsNotDry_11 rfl (lv_at hl 0 rfl) ?_
      refine va_get (D := D) (ci := 0) (v := .int (nI dr)) (C := RX0) (T := TX0) (N := 15) hx hb hts inX0_wipeWhatIsNotDry_0 hown hK.1 hP 0 rfl rfl 12 (by decide) (hts (.fieldLink RX0 112 "ChalkSlate" "lines" "I") (by decide +kernel)) (fun _ h9 => h9) rfl dX0_wipeWhatIsNotDry_12 ?_
      refine lv_icmp_ge (tgt := 48) hx hb dX0_wipeWhatIsNotDry_15 (by decide) (fun c4 => absurd c4 (nI_ge (by omega) (by omega))) (fun c4 => ?_)
      refine lv_aload_n hx hb dX0_wipeWhatIsNotDry_18 rfl (lv_at hl 0 rfl) ?_
      refine va_get (D := D) (ci := 0) (v := .ref (a 10)) (C := RX0) (T := TX0) (N := 15) hx hb hts inX0_wipeWhatIsNotDry_0 hown hK.1 hP 0 rfl rfl 11 (by decide) (hts (.fieldLink RX0 40 "ChalkSlate" "lineTakenBackBy" "[I") (by decide +kernel)) (fun _ h9 => h9) rfl dX0_wipeWhatIsNotDry_19 ?_
      refine lv_iload_n hx hb dX0_wipeWhatIsNotDry_22 rfl (lv_at hl 1 rfl) ?_
      refine rd_S (As := [.ref (a 10), .int (nI i1)]) (rest := []) ⟨hx, hb, hml, hown, hts⟩ (mX0_at l D cy (a 10) 120 (R0 10) (nI i1) (Nat.le_of_ble_eq_true rfl)) (va_cwS 2 hts gX0_wipeWhatIsNotDry_X0_at rfl rfl rfl (by decide +kernel) ⟨Nat.le_of_ble_eq_true rfl, Nat.le_of_ble_eq_true rfl⟩) (hP.sub (ws' := [(a 10, .inl (cy, 120, .inl (R0 10)))]) [11] rfl) hK rfl hl.1 rfl (Nat.le_of_ble_eq_true rfl) dX0_wipeWhatIsNotDry_23 (Nat.zero_le _) (Nat.zero_le _) ?_
      refine lv_aload_n hx hb dX0_wipeWhatIsNotDry_26 rfl (lv_at hl 0 rfl) ?_
      refine va_get (D := D) (ci := 0) (v := .int (nI dr)) (C := RX0) (T := TX0) (N := 15) hx hb hts inX0_wipeWhatIsNotDry_0 hown hK.1 hP 0 rfl rfl 12 (by decide) (hts (.fieldLink RX0 112 "ChalkSlate" "lines" "I") (by decide +kernel)) (fun _ h9 => h9) rfl dX0_wipeWhatIsNotDry_27 ?_
      refine lv_icmp_lt (tgt := 42) hx hb dX0_wipeWhatIsNotDry_30 (by decide) (fun c5 => ?_) (fun c5 => ?_)
      · refine lv_iinc (v := nI (i1 + 1)) (lv' := [(1, .int (nI (i1 + 1))), (0, .ref h)]) hx hb dX0_wipeWhatIsNotDry_42 hl (k := 1) rfl ((nI_succ i1).symm) (by decide) rfl (fun ls hl => ?_)
        refine lv_goto (tgt := 10) hx hb dX0_wipeWhatIsNotDry_45 (by decide) ?_
        exact ih1 (i1 + 1) R0 (by omega) (by rw [wipe1R, ← hR, if_pos c5]) H locs hP hD hS ls (lv_sub hl [1, 0] rfl)
      · refine lv_aload_n hx hb dX0_wipeWhatIsNotDry_33 rfl (lv_at hl 0 rfl) ?_
        refine va_get (D := D) (ci := 0) (v := .ref (a 10)) (C := RX0) (T := TX0) (N := 15) hx hb hts inX0_wipeWhatIsNotDry_0 hown hK.1 hP 0 rfl rfl 11 (by decide) (hts (.fieldLink RX0 40 "ChalkSlate" "lineTakenBackBy" "[I") (by decide +kernel)) (fun _ h9 => h9) rfl dX0_wipeWhatIsNotDry_34 ?_
        refine lv_iload_n hx hb dX0_wipeWhatIsNotDry_37 rfl (lv_at hl 1 rfl) ?_
        refine lv_iconst (v := (-1)) hx hb dX0_wipeWhatIsNotDry_38 (by decide) ?_
        refine put_10 (rest := []) ⟨hx, hb, hml, hown, hts⟩ (va_cwS 3 hts gX0_wipeWhatIsNotDry_X0_put rfl rfl rfl (by decide +kernel) ⟨Nat.le_of_ble_eq_true rfl, Nat.le_of_ble_eq_true rfl⟩) hP hK hD hS hA hl.1 rfl (Nat.le_of_ble_eq_true rfl) dX0_wipeWhatIsNotDry_39 (Nat.zero_le _) (Nat.zero_le _) (fun H locs hP hD hS => ?_)
        refine lv_iinc (v := nI (i1 + 1)) (lv' := [(1, .int (nI (i1 + 1))), (0, .ref h)]) hx hb dX0_wipeWhatIsNotDry_42 hl (k := 1) rfl ((nI_succ i1).symm) (by decide) rfl (fun ls hl => ?_)
        refine lv_goto (tgt := 10) hx hb dX0_wipeWhatIsNotDry_45 (by decide) ?_
        exact ih1 (i1 + 1) (stepR R0 10 120 (nI i1) (-1)) (by omega) (by rw [wipe1R, ← hR, if_neg c5]) H locs hP hD hS ls (lv_sub hl [1, 0] rfl)
  exact loop1 dr 0 R (Nat.zero_add _) (rfl) H locs hP hD hS ls (lv_sub hl [1, 0] rfl)

set_option maxRecDepth 100000 in
theorem inX0_doAnew_0 : ∀ w ∈ wsX00, w ∈ wsX0_doAnew := by decide +kernel

set_option maxHeartbeats 4000000 in
set_option maxRecDepth 100000 in
theorem mX0_doAnew (l : Launch) (D : va_G) (cy : ClassId) (h : Nat) (a : Nat → Nat) (R : Nat → Nat → Int32) (nd n dr : Nat) (fl : Int32)  (hnd : nd < 1000000) (hn : n < 1000000) (hdr : dr < 1000000) (sz : Nat) : WrI l yX0_doAnew wsX0_doAnew 3 64 [.ref h] D cy (cC h a cy R nd n dr fl) (cC h a cy (doR R n) nd n dr fl) sz (doC R n) := by
  refine Met.ofW (cc := cX0_doAnew) (maxL := 3) (ret := (some .int)) (by decide) rfl ?_
  intro p e s m args below meth c s₁ B hml hv
  obtain ⟨rfl, hsz, hP, hK, hD0⟩ := hv
  have hx := B.exec
  have hb := B.bytes
  have hr := B.returns
  have hts := atoms_spec (ws := wsX0_doAnew) B.pre
  have hown : s.vm.findClass RX0 = some m.cls := findClass_of_methodNamed B.named
  have hlocks := B.notSynchronized
  subst hsz
  have hD := hD0.self (sz := s.heap.size)
  generalize hAe : va_A (cC h a cy R nd n dr fl) s.heap.size = A at hD ⊢
  have hA : ∀ q : Nat, s.heap.size ≤ q → A q := fun q h => by rw [← hAe]; exact Or.inr h
  have hS : va_S A s.heap s.heap [] := va_S.rf
  have hl := lv_entry ([.ref h]) (n := 3) (Nat.le_of_ble_eq_true rfl)
  rw [lg_entry_eq]
  generalize (lg_sl ([.ref h]) ++ List.replicate (3 - (lg_sl ([.ref h])).length) Slot.unset).toArray = ls at hl ⊢
  have hl : lv_has ls 3 [(0, .ref h)] := hl
  refine lv_iconst (v := 0) hx hb dX0_doAnew_0 (by decide) ?_
  refine lv_istore_n (lv' := [(1, .int 0), (0, .ref h)]) hx hb dX0_doAnew_1 rfl hl (by decide) rfl (fun ls hl => ?_)
  refine lv_iconst (v := 0) hx hb dX0_doAnew_2 (by decide) ?_
  refine lv_istore_n (lv' := [(2, .int 0), (1, .int 0), (0, .ref h)]) hx hb dX0_doAnew_3 rfl hl (by decide) rfl (fun ls hl => ?_)
  have loop : ∀ (k i : Nat) (acc : Int32) (R0 : Nat → Nat → Int32), i + k = n → acc = doC R i → R0 = doR R i → ∀ (H : Heap) (locs : List Loc), va_P D vwCl (cC h a cy R0 nd n dr fl) H → va_D A (cC h a cy R0 nd n dr fl) → va_S A s.heap H locs → ∀ ls : Array Slot, lv_has ls 3 [(0, .ref h), (1, .int acc), (2, .int (nI i))] → W p l e (headSpec wsX0_doAnew { frames := 3, cells := 0, slots := 0, locals := 64 }).room s m ([.ref h] : List Value).toArray below meth c H locs 0 0 (MQ below (va_Qi (fun (r : Int32) (_ : Unit) => r = doC R n) (fun _ t => va_P D vwCl (cC h a cy (doR R n) nd n dr fl) t.heap) A) ([.ref h] : List Value).toArray s 0 0 A) (F0 m 4 ls []) := by
    intro k
    induction k with
    | zero =>
      intro i acc R0 hik hacc hR H locs hP hD hS ls hl
      have hin : i = n := by omega
      refine lv_iload_n hx hb dX0_doAnew_4 rfl (lv_at hl 2 rfl) ?_
      refine lv_aload_n hx hb dX0_doAnew_5 rfl (lv_at hl 0 rfl) ?_
      refine va_get (D := D) (ci := 0) (v := .int (nI n)) (C := RX0) (T := TX0) (N := 15) hx hb hts inX0_doAnew_0 hown hK.1 hP 0 rfl rfl 12 (by decide) (hts (.fieldLink RX0 112 "ChalkSlate" "lines" "I") (by decide +kernel)) (fun _ h9 => h9) rfl dX0_doAnew_6 ?_
      refine lv_icmp_ge (tgt := 52) hx hb dX0_doAnew_9 (by decide) (fun c1 => ?_) (fun c1 => absurd (nI_le (by omega) (by omega)) c1)
      refine lv_iload_n hx hb dX0_doAnew_52 rfl (lv_at hl 1 rfl) ?_
      have hP : va_P D vwCl (cC h a cy (doR R n) nd n dr fl) H := by rw [show doR R n = R0 by rw [hR, hin]]; exact hP
      exact W.iret (v := acc) hx hb hr (fun t ht hW => ⟨⟨acc, (), rfl, by rw [hacc, hin], by show va_P D vwCl _ t.heap; rw [ht]; exact hP⟩, hS.F ht⟩) hS.2.2 dX0_doAnew_53
    | succ k ih =>
      intro i acc R0 hik hacc hR H locs hP hD hS ls hl
      refine lv_iload_n hx hb dX0_doAnew_4 rfl (lv_at hl 2 rfl) ?_
      refine lv_aload_n hx hb dX0_doAnew_5 rfl (lv_at hl 0 rfl) ?_
      refine va_get (D := D) (ci := 0) (v := .int (nI n)) (C := RX0) (T := TX0) (N := 15) hx hb hts inX0_doAnew_0 hown hK.1 hP 0 rfl rfl 12 (by decide) (hts (.fieldLink RX0 112 "ChalkSlate" "lines" "I") (by decide +kernel)) (fun _ h9 => h9) rfl dX0_doAnew_6 ?_
      refine lv_icmp_ge (tgt := 52) hx hb dX0_doAnew_9 (by decide) (fun c2 => absurd c2 (nI_ge (by omega) (by omega))) (fun c2 => ?_)
      refine lv_aload_n hx hb dX0_doAnew_12 rfl (lv_at hl 0 rfl) ?_
      refine lv_iload_n hx hb dX0_doAnew_13 rfl (lv_at hl 2 rfl) ?_
      refine rd_V (q := (RX0, TX0, 15)) (ci := 0) (q0 := 0) (As := [.int (nI i)]) (rest := []) ⟨hx, hb, hml, hown, hts⟩ (mX0_isToDoAnew l D cy h a R0 nd n dr fl (nI i) (by omega) (by omega) (by omega) ) (cwV 1 hts gX0_doAnew_X0_isToDoAnew rfl rfl rfl (by decide +kernel) ⟨Nat.le_of_ble_eq_true rfl, Nat.le_of_ble_eq_true rfl⟩) hP hK rfl rfl rfl hl.1 rfl (Nat.le_of_ble_eq_true rfl) dX0_doAnew_14 (Nat.zero_le _) (Nat.zero_le _) ?_
      refine lv_if_eq (tgt := 46) hx hb dX0_doAnew_17 (by decide) (fun c3 => ?_) (fun c3 => ?_)
      · refine lv_iinc (v := nI (i + 1)) (lv' := [(2, .int (nI (i + 1))), (0, .ref h), (1, .int acc)]) hx hb dX0_doAnew_46 hl (k := 2) rfl ((nI_succ i).symm) (by decide) rfl (fun ls hl => ?_)
        refine lv_goto (tgt := 4) hx hb dX0_doAnew_49 (by decide) ?_
        exact ih (i + 1) acc R0 (by omega) (by rw [doC, ← hR, if_pos c3, ← hacc]) (by rw [doR, ← hR, if_pos c3]) H locs hP hD hS ls (lv_sub hl [1, 2, 0] rfl)
      · refine lv_aload_n hx hb dX0_doAnew_20 rfl (lv_at hl 0 rfl) ?_
        refine va_get (D := D) (ci := 0) (v := .ref (a 0)) (C := RX0) (T := TX0) (N := 15) hx hb hts inX0_doAnew_0 hown hK.1 hP 0 rfl rfl 0 (by decide) (hts (.fieldLink RX0 9 "ChalkSlate" "stove" "[I") (by decide +kernel)) (fun _ h9 => h9) rfl dX0_doAnew_21 ?_
        refine lv_aload_n hx hb dX0_doAnew_24 rfl (lv_at hl 0 rfl) ?_
        refine va_get (D := D) (ci := 0) (v := .ref (a 6)) (C := RX0) (T := TX0) (N := 15) hx hb hts inX0_doAnew_0 hown hK.1 hP 0 rfl rfl 7 (by decide) (hts (.fieldLink RX0 28 "ChalkSlate" "linePot" "[I") (by decide +kernel)) (fun _ h9 => h9) rfl dX0_doAnew_25 ?_
        refine lv_iload_n hx hb dX0_doAnew_28 rfl (lv_at hl 2 rfl) ?_
        refine rd_S (As := [.ref (a 6), .int (nI i)]) (rest := [.ref (a 0)]) ⟨hx, hb, hml, hown, hts⟩ (mX0_at l D cy (a 6) 120 (R0 6) (nI i) (Nat.le_of_ble_eq_true rfl)) (va_cwS 2 hts gX0_doAnew_X0_at rfl rfl rfl (by decide +kernel) ⟨Nat.le_of_ble_eq_true rfl, Nat.le_of_ble_eq_true rfl⟩) (hP.sub (ws' := [(a 6, .inl (cy, 120, .inl (R0 6)))]) [7] rfl) hK rfl hl.1 rfl (Nat.le_of_ble_eq_true rfl) dX0_doAnew_29 (Nat.zero_le _) (Nat.zero_le _) ?_
        refine lv_aload_n hx hb dX0_doAnew_32 rfl (lv_at hl 0 rfl) ?_
        refine va_get (D := D) (ci := 0) (v := .ref (a 8)) (C := RX0) (T := TX0) (N := 15) hx hb hts inX0_doAnew_0 hown hK.1 hP 0 rfl rfl 9 (by decide) (hts (.fieldLink RX0 34 "ChalkSlate" "lineBehind" "[I") (by decide +kernel)) (fun _ h9 => h9) rfl dX0_doAnew_33 ?_
        refine lv_iload_n hx hb dX0_doAnew_36 rfl (lv_at hl 2 rfl) ?_
        refine rd_S (As := [.ref (a 8), .int (nI i)]) (rest := [.int (atS 120 (R0 6) (nI i)), .ref (a 0)]) ⟨hx, hb, hml, hown, hts⟩ (mX0_at l D cy (a 8) 120 (R0 8) (nI i) (Nat.le_of_ble_eq_true rfl)) (va_cwS 2 hts gX0_doAnew_X0_at rfl rfl rfl (by decide +kernel) ⟨Nat.le_of_ble_eq_true rfl, Nat.le_of_ble_eq_true rfl⟩) (hP.sub (ws' := [(a 8, .inl (cy, 120, .inl (R0 8)))]) [9] rfl) hK rfl hl.1 rfl (Nat.le_of_ble_eq_true rfl) dX0_doAnew_37 (Nat.zero_le _) (Nat.zero_le _) ?_
        refine put_0 (rest := []) ⟨hx, hb, hml, hown, hts⟩ (va_cwS 3 hts gX0_doAnew_X0_put rfl rfl rfl (by decide +kernel) ⟨Nat.le_of_ble_eq_true rfl, Nat.le_of_ble_eq_true rfl⟩) hP hK hD hS hA hl.1 rfl (Nat.le_of_ble_eq_true rfl) dX0_doAnew_40 (Nat.zero_le _) (Nat.zero_le _) (fun H locs hP hD hS => ?_)
        refine lv_iinc (v := acc + 1) (lv' := [(1, .int (acc + 1)), (0, .ref h), (2, .int (nI i))]) hx hb dX0_doAnew_43 hl (k := 1) rfl (rfl) (by decide) rfl (fun ls hl => ?_)
        refine lv_iinc (v := nI (i + 1)) (lv' := [(2, .int (nI (i + 1))), (1, .int (acc + 1)), (0, .ref h)]) hx hb dX0_doAnew_46 hl (k := 2) rfl ((nI_succ i).symm) (by decide) rfl (fun ls hl => ?_)
        refine lv_goto (tgt := 4) hx hb dX0_doAnew_49 (by decide) ?_
        exact ih (i + 1) (acc + 1) (stepR R0 0 8 (atS 120 (R0 6) (nI i)) (atS 120 (R0 8) (nI i))) (by omega) (by rw [doC, ← hR, if_neg c3, ← hacc]) (by rw [doR, ← hR, if_neg c3]) H locs hP hD hS ls (lv_sub hl [2, 1, 0] rfl)
  exact loop n 0 0 R (Nat.zero_add _) (rfl) (rfl) s.heap [] hP hD hS ls (lv_sub hl [2, 1, 0] rfl)

set_option maxRecDepth 100000 in
theorem inX0_fall_0 : ∀ w ∈ wsX00, w ∈ wsX0_fall := by decide +kernel

set_option maxHeartbeats 4000000 in
set_option maxRecDepth 100000 in
theorem mX0_fall (l : Launch) (D : va_G) (cy : ClassId) (h : Nat) (a : Nat → Nat) (R : Nat → Nat → Int32) (nd n dr : Nat) (fl : Int32)  (hnd : nd < 1000000) (hn : n < 1000000) (hdr : dr < 1000000) (hfb : ∀ k, k ≤ nd → (fallP nd (fallD R nd dr) dr k).2 ≤ 120) (sz : Nat) : WrI l yX0_fall wsX0_fall 6 135 [.ref h] D cy (cC h a cy R nd n dr fl) (cC h a cy (fallP nd (fallD R nd dr) dr nd).1 nd (fallP nd (fallD R nd dr) dr nd).2 dr (fl + 1)) sz (doC (fallB R nd dr) dr) := by
  refine Met.ofW (cc := cX0_fall) (maxL := 3) (ret := (some .int)) (by decide) rfl ?_
  intro p e s m args below meth c s₁ B hml hv
  obtain ⟨rfl, hsz, hP, hK, hD0⟩ := hv
  have hx := B.exec
  have hb := B.bytes
  have hr := B.returns
  have hts := atoms_spec (ws := wsX0_fall) B.pre
  have hown : s.vm.findClass RX0 = some m.cls := findClass_of_methodNamed B.named
  have hlocks := B.notSynchronized
  subst hsz
  have hD := hD0.self (sz := s.heap.size)
  generalize hAe : va_A (cC h a cy R nd n dr fl) s.heap.size = A at hD ⊢
  have hA : ∀ q : Nat, s.heap.size ≤ q → A q := fun q h => by rw [← hAe]; exact Or.inr h
  have hS : va_S A s.heap s.heap [] := va_S.rf
  have hl := lv_entry ([.ref h]) (n := 3) (Nat.le_of_ble_eq_true rfl)
  rw [lg_entry_eq]
  generalize (lg_sl ([.ref h]) ++ List.replicate (3 - (lg_sl ([.ref h])).length) Slot.unset).toArray = ls at hl ⊢
  have hl : lv_has ls 3 [(0, .ref h)] := hl
  refine lv_aload_n hx hb dX0_fall_0 rfl (lv_at hl 0 rfl) ?_
  refine wr_VV (q := (RX0, TX0, 15)) (ci := 0) (q0 := 0) (ws0' := cC h a cy (wipeR R nd dr) nd dr dr fl) (As := []) (rest := []) ⟨hx, hb, hml, hown, hts⟩ (fun sz => mX0_wipeWhatIsNotDry l D cy h a R nd n dr fl  (by omega) (by omega) (by omega)  sz) (cwV 0 hts gX0_fall_X0_wipeWhatIsNotDry rfl rfl rfl (by decide +kernel) ⟨Nat.le_of_ble_eq_true rfl, Nat.le_of_ble_eq_true rfl⟩) hP hK hD hS hA [0, 1, 2, 3, 4, 5, 6, 7, 8, 9, 10, 11] [] [0, 1, 2, 3, 4, 5, 6, 7, 8, 9, 10, 11] rfl rfl rfl (by decide) rfl rfl rfl rfl rfl rfl rfl hl.1 rfl (Nat.le_of_ble_eq_true rfl) dX0_fall_1 (Nat.zero_le _) (Nat.zero_le _) (fun H locs hP hD hS => ?_)
  refine lv_aload_n hx hb dX0_fall_4 rfl (lv_at hl 0 rfl) ?_
  refine va_get (D := D) (ci := 0) (v := .ref (a 1)) (C := RX0) (T := TX0) (N := 15) hx hb hts inX0_fall_0 hown hK.1 hP 0 rfl rfl 1 (by decide) (hts (.fieldLink RX0 13 "ChalkSlate" "shelf" "[I") (by decide +kernel)) (fun _ h9 => h9) rfl dX0_fall_5 ?_
  refine lv_iconst (v := 0) hx hb dX0_fall_8 (by decide) ?_
  refine lv_aload_n hx hb dX0_fall_9 rfl (lv_at hl 0 rfl) ?_
  refine va_get (D := D) (ci := 0) (v := .ref (a 0)) (C := RX0) (T := TX0) (N := 15) hx hb hts inX0_fall_0 hown hK.1 hP 0 rfl rfl 0 (by decide) (hts (.fieldLink RX0 9 "ChalkSlate" "stove" "[I") (by decide +kernel)) (fun _ h9 => h9) rfl dX0_fall_10 ?_
  refine lv_iconst (v := 0) hx hb dX0_fall_13 (by decide) ?_
  refine lv_bipush (v := 8) hx hb dX0_fall_14 (by decide) ?_
  refine va_copyi hx hb (hml.trans hl.1.symm) hown (hts (.methodLink RX0 129 arraycopyName) (by decide +kernel)) (hts (.native arraycopyName) (by decide +kernel)) (hts (.static arraycopyName) (by decide +kernel)) (hts (.initialized "java/lang/System") (by decide +kernel)) hK.1 hP hD hS 2 1 0 0 rfl rfl rfl rfl rfl (sp := 0) (dp := 0) (n := 8) (by decide) (by decide) (by decide) (by decide) (by decide) (fun i _ => rfl) (Nat.le_of_ble_eq_true rfl) (Nat.le_of_ble_eq_true rfl) dX0_fall_16 (fun H locs hP hD hS => ?_)
  have hP : va_P D vwCl (cC h a cy (va_up (wipeR R nd dr) 0 (va_cpy ((wipeR R nd dr) 1) ((wipeR R nd dr) 0) 0 0 8)) nd dr dr fl) H := hP
  have hD : va_D A (cC h a cy (va_up (wipeR R nd dr) 0 (va_cpy ((wipeR R nd dr) 1) ((wipeR R nd dr) 0) 0 0 8)) nd dr dr fl) := hD
  refine lv_aload_n hx hb dX0_fall_19 rfl (lv_at hl 0 rfl) ?_
  refine wr_VI (q := (RX0, TX0, 15)) (ci := 0) (q0 := 0) (ws0' := cC h a cy (doR (va_up (wipeR R nd dr) 0 (va_cpy ((wipeR R nd dr) 1) ((wipeR R nd dr) 0) 0 0 8)) dr) nd dr dr fl) (As := []) (rest := []) ⟨hx, hb, hml, hown, hts⟩ (fun sz => mX0_doAnew l D cy h a (va_up (wipeR R nd dr) 0 (va_cpy ((wipeR R nd dr) 1) ((wipeR R nd dr) 0) 0 0 8)) nd dr dr fl  (by omega) (by omega) (by omega)  sz) (cwV 0 hts gX0_fall_X0_doAnew rfl rfl rfl (by decide +kernel) ⟨Nat.le_of_ble_eq_true rfl, Nat.le_of_ble_eq_true rfl⟩) hP hK hD hS hA [0, 1, 2, 3, 4, 5, 6, 7, 8, 9, 10, 11] [] [0, 1, 2, 3, 4, 5, 6, 7, 8, 9, 10, 11] rfl rfl rfl (by decide) rfl rfl rfl rfl rfl rfl rfl hl.1 rfl (Nat.le_of_ble_eq_true rfl) dX0_fall_20 (Nat.zero_le _) (Nat.zero_le _) (fun H locs hP hD hS => ?_)
  refine lv_istore_n (lv' := [(1, .int (doC (va_up (wipeR R nd dr) 0 (va_cpy ((wipeR R nd dr) 1) ((wipeR R nd dr) 0) 0 0 8)) dr)), (0, .ref h)]) hx hb dX0_fall_23 rfl hl (by decide) rfl (fun ls hl => ?_)
  refine lv_aload_n hx hb dX0_fall_24 rfl (lv_at hl 1 rfl) ?_
  refine va_get (D := D) (ci := 0) (v := .int (nI nd)) (C := RX0) (T := TX0) (N := 15) hx hb hts inX0_fall_0 hown hK.1 hP 0 rfl rfl 4 (by decide) (hts (.fieldLink RX0 49 "ChalkSlate" "dishes" "I") (by decide +kernel)) (fun _ h9 => h9) rfl dX0_fall_25 ?_
  refine lv_iconst (v := 1) hx hb dX0_fall_28 (by decide) ?_
  refine lv_isub hx hb dX0_fall_29 ?_
  refine lv_istore_n (lv' := [(2, .int ((nI nd) - 1)), (1, .int (doC (va_up (wipeR R nd dr) 0 (va_cpy ((wipeR R nd dr) 1) ((wipeR R nd dr) 0) 0 0 8)) dr)), (0, .ref h)]) hx hb dX0_fall_30 rfl hl (by decide) rfl (fun ls hl => ?_)
  have loop : ∀ (i : Nat) (x : Int32) (R0 : Nat → Nat → Int32) (n0 : Nat), i ≤ nd → x = nI i - 1 → R0 = (fallP nd (fallD R nd dr) dr (nd - i)).1 → n0 = (fallP nd (fallD R nd dr) dr (nd - i)).2 → ∀ (H : Heap) (locs : List Loc), va_P D vwCl (cC h a cy R0 nd n0 dr fl) H → va_D A (cC h a cy R0 nd n0 dr fl) → va_S A s.heap H locs → ∀ ls : Array Slot, lv_has ls 3 [(0, .ref h), (1, .int (doC (va_up (wipeR R nd dr) 0 (va_cpy ((wipeR R nd dr) 1) ((wipeR R nd dr) 0) 0 0 8)) dr)), (2, .int x)] → W p l e (headSpec wsX0_fall { frames := 6, cells := 0, slots := 0, locals := 135 }).room s m ([.ref h] : List Value).toArray below meth c H locs 0 0 (MQ below (va_Qi (fun (r : Int32) (_ : Unit) => r = doC (fallB R nd dr) dr) (fun _ t => va_P D vwCl (cC h a cy (fallP nd (fallD R nd dr) dr nd).1 nd (fallP nd (fallD R nd dr) dr nd).2 dr (fl + 1)) t.heap) A) ([.ref h] : List Value).toArray s 0 0 A) (F0 m 31 ls []) := by
    intro i
    induction i with
    | zero =>
      intro x R0 n0 hik hxx hs1 hs2 H locs hP hD hS ls hl
      have hx0 : x = -1 := by rw [hxx]; rfl
      subst hx0
      refine lv_iload_n hx hb dX0_fall_31 rfl (lv_at hl 2 rfl) ?_
      refine lv_if_lt (tgt := 55) hx hb dX0_fall_32 (by decide) (fun c1 => ?_) (fun c1 => absurd (by decide) c1)
      refine lv_aload_n hx hb dX0_fall_55 rfl (lv_at hl 0 rfl) ?_
      refine lv_dup hx hb dX0_fall_56 rfl ?_
      refine va_get (D := D) (ci := 0) (v := .int fl) (C := RX0) (T := TX0) (N := 15) hx hb hts inX0_fall_0 hown hK.1 hP 0 rfl rfl 14 (by decide) (hts (.fieldLink RX0 138 "ChalkSlate" "falls" "I") (by decide +kernel)) (fun _ h9 => h9) rfl dX0_fall_57 ?_
      refine lv_iconst (v := 1) hx hb dX0_fall_60 (by decide) ?_
      refine lv_iadd hx hb dX0_fall_61 ?_
      refine va_put (D := D) (ci := 0) (v := .int (fl + 1)) (ty := .int) (C := RX0) (T := TX0) (N := 15) hx hb hts inX0_fall_0 tyX0 tyX0_ok nmX0 hown hK.1 hP hD hS 0 rfl rfl 14 (by decide) (hts (.fieldLink RX0 138 "ChalkSlate" "falls" "I") (by decide +kernel)) (fun _ h9 => h9) rfl (by decide +kernel) rfl rfl (Nat.le_of_ble_eq_true rfl) dX0_fall_62 (fun H locs hP hD hS => ?_)
      have hP : va_P D vwCl (cC h a cy R0 nd n0 dr (fl + 1)) H := hP
      have hD : va_D A (cC h a cy R0 nd n0 dr (fl + 1)) := hD
      refine lv_iload_n hx hb dX0_fall_65 rfl (lv_at hl 1 rfl) ?_
      have hP : va_P D vwCl (cC h a cy (fallP nd (fallD R nd dr) dr nd).1 nd (fallP nd (fallD R nd dr) dr nd).2 dr (fl + 1)) H := by rw [Nat.sub_zero] at hs1 hs2; rw [← hs1, ← hs2]; exact hP
      exact W.iret (v := doC (va_up (wipeR R nd dr) 0 (va_cpy ((wipeR R nd dr) 1) ((wipeR R nd dr) 0) 0 0 8)) dr) hx hb hr (fun t ht hW => ⟨⟨(doC (va_up (wipeR R nd dr) 0 (va_cpy ((wipeR R nd dr) 1) ((wipeR R nd dr) 0) 0 0 8)) dr), (), rfl, rfl, by show va_P D vwCl _ t.heap; rw [ht]; exact hP⟩, hS.F ht⟩) hS.2.2 dX0_fall_66
    | succ i ih =>
      intro x R0 n0 hik hxx hs1 hs2 H locs hP hD hS ls hl
      have hx1 : x = nI i := by rw [hxx, nI_pred]
      subst hx1
      refine lv_iload_n hx hb dX0_fall_31 rfl (lv_at hl 2 rfl) ?_
      refine lv_if_lt (tgt := 55) hx hb dX0_fall_32 (by decide) (fun c2 => absurd c2 (nI_pos (by omega))) (fun c2 => ?_)
      have hn0 : n0 ≤ 120 := by rw [hs2]; exact hfb _ (by omega)
      refine lv_aload_n hx hb dX0_fall_35 rfl (lv_at hl 0 rfl) ?_
      refine lv_iload_n hx hb dX0_fall_36 rfl (lv_at hl 2 rfl) ?_
      refine rd_V (q := (RX0, TX0, 15)) (ci := 0) (q0 := 0) (As := [.int (nI i)]) (rest := []) ⟨hx, hb, hml, hown, hts⟩ (mX0_isOpen l D cy h a R0 nd n0 dr fl (nI i) (by omega) (by omega) (by omega) ) (cwV 1 hts gX0_fall_X0_isOpen rfl rfl rfl (by decide +kernel) ⟨Nat.le_of_ble_eq_true rfl, Nat.le_of_ble_eq_true rfl⟩) hP hK rfl rfl rfl hl.1 rfl (Nat.le_of_ble_eq_true rfl) dX0_fall_37 (Nat.zero_le _) (Nat.zero_le _) ?_
      refine lv_if_eq (tgt := 49) hx hb dX0_fall_40 (by decide) (fun c3 => ?_) (fun c3 => ?_)
      · refine lv_iinc (v := (nI i) + (-1)) (lv' := [(2, .int ((nI i) + (-1))), (0, .ref h), (1, .int (doC (va_up (wipeR R nd dr) 0 (va_cpy ((wipeR R nd dr) 1) ((wipeR R nd dr) 0) 0 0 8)) dr))]) hx hb dX0_fall_49 hl (k := 2) rfl (rfl) (by decide) rfl (fun ls hl => ?_)
        refine lv_goto (tgt := 31) hx hb dX0_fall_52 (by decide) ?_
        exact ih _ R0 n0 (by omega) (add_m1 _) (by rw [show nd - i = nd - (i + 1) + 1 by omega, fallP, show nd - 1 - (nd - (i + 1)) = i by omega, ← hs1, if_pos c3, ← hs1]) (by rw [show nd - i = nd - (i + 1) + 1 by omega, fallP, show nd - 1 - (nd - (i + 1)) = i by omega, ← hs1, if_pos c3, ← hs2]) H locs hP hD hS ls (lv_sub hl [1, 2, 0] rfl)
      · refine lv_aload_n hx hb dX0_fall_43 rfl (lv_at hl 0 rfl) ?_
        refine lv_iload_n hx hb dX0_fall_44 rfl (lv_at hl 2 rfl) ?_
        refine wr_VI (q := (RX0, TX0, 15)) (ci := 0) (q0 := 0) (ws0' := cC h a cy (undoR R0 n0 (nI i)) nd (undoN R0 n0 (nI i)) dr fl) (As := [.int (nI i)]) (rest := []) ⟨hx, hb, hml, hown, hts⟩ (fun sz => mX0_undo l D cy h a R0 nd n0 dr fl (nI i) (by omega) (by omega) (by omega) (by omega) sz) (cwV 1 hts gX0_fall_X0_undo rfl rfl rfl (by decide +kernel) ⟨Nat.le_of_ble_eq_true rfl, Nat.le_of_ble_eq_true rfl⟩) hP hK hD hS hA [0, 1, 2, 3, 4, 5, 6, 7, 8, 9, 10, 11] [] [0, 1, 2, 3, 4, 5, 6, 7, 8, 9, 10, 11] rfl rfl rfl (by decide) rfl rfl rfl rfl rfl rfl rfl hl.1 rfl (Nat.le_of_ble_eq_true rfl) dX0_fall_45 (Nat.zero_le _) (Nat.zero_le _) (fun H locs hP hD hS => ?_)
        refine lv_pop hx hb dX0_fall_48 rfl ?_
        refine lv_iinc (v := (nI i) + (-1)) (lv' := [(2, .int ((nI i) + (-1))), (0, .ref h), (1, .int (doC (va_up (wipeR R nd dr) 0 (va_cpy ((wipeR R nd dr) 1) ((wipeR R nd dr) 0) 0 0 8)) dr))]) hx hb dX0_fall_49 hl (k := 2) rfl (rfl) (by decide) rfl (fun ls hl => ?_)
        refine lv_goto (tgt := 31) hx hb dX0_fall_52 (by decide) ?_
        exact ih _ (undoR R0 n0 (nI i)) (undoN R0 n0 (nI i)) (by omega) (add_m1 _) (by rw [show nd - i = nd - (i + 1) + 1 by omega, fallP, show nd - 1 - (nd - (i + 1)) = i by omega, ← hs1, ← hs2, if_neg c3]) (by rw [show nd - i = nd - (i + 1) + 1 by omega, fallP, show nd - 1 - (nd - (i + 1)) = i by omega, ← hs1, ← hs2, if_neg c3]) H locs hP hD hS ls (lv_sub hl [1, 2, 0] rfl)
  exact loop nd _ _ dr (Nat.le_refl _) rfl (by rw [Nat.sub_self]; rfl) (by rw [Nat.sub_self]; rfl) H locs hP hD hS ls (lv_sub hl [2, 1, 0] rfl)
