set_option maxRecDepth 100000 in
theorem inX1_chalk_1 : ∀ w ∈ wsX10, w ∈ wsX1_chalk := by decide +kernel

set_option maxHeartbeats 4000000 in
set_option maxRecDepth 100000 in
theorem mX1_chalk (l : Launch) (D : va_G) (cy : ClassId) (q : Nat) (b : Nat → Nat) (M : Nat → Nat → Int32) (n dr : Nat) (an fi ba : Int32) (mo : Nat) (th : Int32) (nd : Nat) (fl : Int32) (sq tq : Nat) (d k : Int32) (hnd : nd < 1000000) (hn : n < 120) (hdr : dr < 1000000) (sz : Nat) : WrV l yX1_chalk wsX1_chalk 0 0 [.ref q, .int d, .int k] D cy (cSM q b cy M n dr an fi ba mo th nd fl sq tq) (cSM q b cy (chalkM M n d k) (n + 1) dr an fi ba mo th nd fl sq tq) sz := by
  refine Met.ofW (cc := cX1_chalk) (maxL := 3) (ret := none) (by decide) rfl ?_
  intro p e s m args below meth c s₁ B hml hv
  obtain ⟨rfl, hsz, hP, hK, hD0⟩ := hv
  have hx := B.exec
  have hb := B.bytes
  have hr := B.returns
  have hts := atoms_spec (ws := wsX1_chalk) B.pre
  have hown : s.vm.findClass RX1 = some m.cls := findClass_of_methodNamed B.named
  have hlocks := B.notSynchronized
  subst hsz
  have hD := hD0.self (sz := s.heap.size)
  generalize hAe : va_A (cSM q b cy M n dr an fi ba mo th nd fl sq tq) s.heap.size = A at hD ⊢
  have hA : ∀ q : Nat, s.heap.size ≤ q → A q := fun q h => by rw [← hAe]; exact Or.inr h
  have hS : va_S A s.heap s.heap [] := va_S.rf
  have hl := lv_entry ([.ref q, .int d, .int k]) (n := 3) (Nat.le_of_ble_eq_true rfl)
  rw [lg_entry_eq]
  generalize (lg_sl ([.ref q, .int d, .int k]) ++ List.replicate (3 - (lg_sl ([.ref q, .int d, .int k])).length) Slot.unset).toArray = ls at hl ⊢
  have hl : lv_has ls 3 [(0, .ref q), (1, .int d), (2, .int k)] := hl
  refine lv_aload_n hx hb dX1_chalk_0 rfl (lv_at hl 0 rfl) ?_
  refine va_get (D := D) (ci := 1) (v := .ref (b 4)) (C := RX1) (T := TX1) (N := 15) hx hb hts inX1_chalk_1 hown hK.1 hP 0 rfl rfl 5 (by decide) (hts (.fieldLink RX1 25 "ChalkSlateModel$State" "dish" "[I") (by decide +kernel)) (fun _ h9 => h9) rfl dX1_chalk_1 ?_
  refine lv_aload_n hx hb dX1_chalk_4 rfl (lv_at hl 0 rfl) ?_
  refine va_get (D := D) (ci := 1) (v := .int (nI n)) (C := RX1) (T := TX1) (N := 15) hx hb hts inX1_chalk_1 hown hK.1 hP 0 rfl rfl 0 (by decide) (hts (.fieldLink RX1 49 "ChalkSlateModel$State" "lines" "I") (by decide +kernel)) (fun _ h9 => h9) rfl dX1_chalk_5 ?_
  refine lv_iload_n hx hb dX1_chalk_8 rfl (lv_at hl 1 rfl) ?_
  refine va_iast hx hb hK.1 hP hD hS 4 0 rfl rfl (vp_in_nI (by omega) (by omega)) dX1_chalk_9 (fun H locs hP hD hS => ?_)
  rw [nI_clamp (n := n) (by omega)] at hP hD
  rw [cSM_set_4] at hP hD
  refine lv_aload_n hx hb dX1_chalk_10 rfl (lv_at hl 0 rfl) ?_
  refine va_get (D := D) (ci := 1) (v := .ref (b 5)) (C := RX1) (T := TX1) (N := 15) hx hb hts inX1_chalk_1 hown hK.1 hP 0 rfl rfl 6 (by decide) (hts (.fieldLink RX1 28 "ChalkSlateModel$State" "kind" "[I") (by decide +kernel)) (fun _ h9 => h9) rfl dX1_chalk_11 ?_
  refine lv_aload_n hx hb dX1_chalk_14 rfl (lv_at hl 0 rfl) ?_
  refine va_get (D := D) (ci := 1) (v := .int (nI n)) (C := RX1) (T := TX1) (N := 15) hx hb hts inX1_chalk_1 hown hK.1 hP 0 rfl rfl 0 (by decide) (hts (.fieldLink RX1 49 "ChalkSlateModel$State" "lines" "I") (by decide +kernel)) (fun _ h9 => h9) rfl dX1_chalk_15 ?_
  refine lv_iload_n hx hb dX1_chalk_18 rfl (lv_at hl 2 rfl) ?_
  refine va_iast hx hb hK.1 hP hD hS 5 0 rfl rfl (vp_in_nI (by omega) (by omega)) dX1_chalk_19 (fun H locs hP hD hS => ?_)
  rw [nI_clamp (n := n) (by omega)] at hP hD
  rw [cSM_set_5] at hP hD
  refine lv_aload_n hx hb dX1_chalk_20 rfl (lv_at hl 0 rfl) ?_
  refine va_get (D := D) (ci := 1) (v := .ref (b 6)) (C := RX1) (T := TX1) (N := 15) hx hb hts inX1_chalk_1 hown hK.1 hP 0 rfl rfl 7 (by decide) (hts (.fieldLink RX1 31 "ChalkSlateModel$State" "pot" "[I") (by decide +kernel)) (fun _ h9 => h9) rfl dX1_chalk_21 ?_
  refine lv_aload_n hx hb dX1_chalk_24 rfl (lv_at hl 0 rfl) ?_
  refine va_get (D := D) (ci := 1) (v := .int (nI n)) (C := RX1) (T := TX1) (N := 15) hx hb hts inX1_chalk_1 hown hK.1 hP 0 rfl rfl 0 (by decide) (hts (.fieldLink RX1 49 "ChalkSlateModel$State" "lines" "I") (by decide +kernel)) (fun _ h9 => h9) rfl dX1_chalk_25 ?_
  refine lv_iconst (v := (-1)) hx hb dX1_chalk_28 (by decide) ?_
  refine va_iast hx hb hK.1 hP hD hS 6 0 rfl rfl (vp_in_nI (by omega) (by omega)) dX1_chalk_29 (fun H locs hP hD hS => ?_)
  rw [nI_clamp (n := n) (by omega)] at hP hD
  rw [cSM_set_6] at hP hD
  refine lv_aload_n hx hb dX1_chalk_30 rfl (lv_at hl 0 rfl) ?_
  refine va_get (D := D) (ci := 1) (v := .ref (b 7)) (C := RX1) (T := TX1) (N := 15) hx hb hts inX1_chalk_1 hown hK.1 hP 0 rfl rfl 8 (by decide) (hts (.fieldLink RX1 34 "ChalkSlateModel$State" "ahead" "[I") (by decide +kernel)) (fun _ h9 => h9) rfl dX1_chalk_31 ?_
  refine lv_aload_n hx hb dX1_chalk_34 rfl (lv_at hl 0 rfl) ?_
  refine va_get (D := D) (ci := 1) (v := .int (nI n)) (C := RX1) (T := TX1) (N := 15) hx hb hts inX1_chalk_1 hown hK.1 hP 0 rfl rfl 0 (by decide) (hts (.fieldLink RX1 49 "ChalkSlateModel$State" "lines" "I") (by decide +kernel)) (fun _ h9 => h9) rfl dX1_chalk_35 ?_
  refine lv_iconst (v := (-1)) hx hb dX1_chalk_38 (by decide) ?_
  refine va_iast hx hb hK.1 hP hD hS 7 0 rfl rfl (vp_in_nI (by omega) (by omega)) dX1_chalk_39 (fun H locs hP hD hS => ?_)
  rw [nI_clamp (n := n) (by omega)] at hP hD
  rw [cSM_set_7] at hP hD
  refine lv_aload_n hx hb dX1_chalk_40 rfl (lv_at hl 0 rfl) ?_
  refine va_get (D := D) (ci := 1) (v := .ref (b 8)) (C := RX1) (T := TX1) (N := 15) hx hb hts inX1_chalk_1 hown hK.1 hP 0 rfl rfl 9 (by decide) (hts (.fieldLink RX1 37 "ChalkSlateModel$State" "behind" "[I") (by decide +kernel)) (fun _ h9 => h9) rfl dX1_chalk_41 ?_
  refine lv_aload_n hx hb dX1_chalk_44 rfl (lv_at hl 0 rfl) ?_
  refine va_get (D := D) (ci := 1) (v := .int (nI n)) (C := RX1) (T := TX1) (N := 15) hx hb hts inX1_chalk_1 hown hK.1 hP 0 rfl rfl 0 (by decide) (hts (.fieldLink RX1 49 "ChalkSlateModel$State" "lines" "I") (by decide +kernel)) (fun _ h9 => h9) rfl dX1_chalk_45 ?_
  refine lv_iconst (v := (-1)) hx hb dX1_chalk_48 (by decide) ?_
  refine va_iast hx hb hK.1 hP hD hS 8 0 rfl rfl (vp_in_nI (by omega) (by omega)) dX1_chalk_49 (fun H locs hP hD hS => ?_)
  rw [nI_clamp (n := n) (by omega)] at hP hD
  rw [cSM_set_8] at hP hD
  refine lv_aload_n hx hb dX1_chalk_50 rfl (lv_at hl 0 rfl) ?_
  refine va_get (D := D) (ci := 1) (v := .ref (b 9)) (C := RX1) (T := TX1) (N := 15) hx hb hts inX1_chalk_1 hown hK.1 hP 0 rfl rfl 10 (by decide) (hts (.fieldLink RX1 40 "ChalkSlateModel$State" "takes" "[I") (by decide +kernel)) (fun _ h9 => h9) rfl dX1_chalk_51 ?_
  refine lv_aload_n hx hb dX1_chalk_54 rfl (lv_at hl 0 rfl) ?_
  refine va_get (D := D) (ci := 1) (v := .int (nI n)) (C := RX1) (T := TX1) (N := 15) hx hb hts inX1_chalk_1 hown hK.1 hP 0 rfl rfl 0 (by decide) (hts (.fieldLink RX1 49 "ChalkSlateModel$State" "lines" "I") (by decide +kernel)) (fun _ h9 => h9) rfl dX1_chalk_55 ?_
  refine lv_iconst (v := (-1)) hx hb dX1_chalk_58 (by decide) ?_
  refine va_iast hx hb hK.1 hP hD hS 9 0 rfl rfl (vp_in_nI (by omega) (by omega)) dX1_chalk_59 (fun H locs hP hD hS => ?_)
  rw [nI_clamp (n := n) (by omega)] at hP hD
  rw [cSM_set_9] at hP hD
  refine lv_aload_n hx hb dX1_chalk_60 rfl (lv_at hl 0 rfl) ?_
  refine lv_dup hx hb dX1_chalk_61 rfl ?_
  refine va_get (D := D) (ci := 1) (v := .int (nI n)) (C := RX1) (T := TX1) (N := 15) hx hb hts inX1_chalk_1 hown hK.1 hP 0 rfl rfl 0 (by decide) (hts (.fieldLink RX1 49 "ChalkSlateModel$State" "lines" "I") (by decide +kernel)) (fun _ h9 => h9) rfl dX1_chalk_62 ?_
  refine lv_iconst (v := 1) hx hb dX1_chalk_65 (by decide) ?_
  refine lv_iadd hx hb dX1_chalk_66 ?_
  rw [show ((nI n) + 1) = nI (n + 1) from (nI_succ n).symm]
  refine va_put (D := D) (ci := 1) (v := .int (nI (n + 1))) (ty := .int) (C := RX1) (T := TX1) (N := 15) hx hb hts inX1_chalk_1 tyX1 tyX1_ok nmX1 hown hK.1 hP hD hS 0 rfl rfl 0 (by decide) (hts (.fieldLink RX1 49 "ChalkSlateModel$State" "lines" "I") (by decide +kernel)) (fun _ h9 => h9) rfl (by decide +kernel) rfl rfl (Nat.le_of_ble_eq_true rfl) dX1_chalk_67 (fun H locs hP hD hS => ?_)
  have hP : va_P D vwCl (cSM q b cy (setM (setM (setM (setM (setM (setM M 4 n d) 5 n k) 6 n (-1)) 7 n (-1)) 8 n (-1)) 9 n (-1)) (n + 1) dr an fi ba mo th nd fl sq tq) H := hP
  have hD : va_D A (cSM q b cy (setM (setM (setM (setM (setM (setM M 4 n d) 5 n k) 6 n (-1)) 7 n (-1)) 8 n (-1)) 9 n (-1)) (n + 1) dr an fi ba mo th nd fl sq tq) := hD
  exact W.vret hx hb hr (fun t ht hW => ⟨⟨(), rfl, trivial, by show va_P D vwCl _ t.heap; rw [ht]; exact hP⟩, hS.F ht⟩) hS.2.2 dX1_chalk_70

set_option maxRecDepth 100000 in
theorem inX1_chalk__1 : ∀ w ∈ wsX10, w ∈ wsX1_chalk_ := by decide +kernel

set_option maxHeartbeats 4000000 in
set_option maxRecDepth 100000 in
theorem mX1_chalk_ (l : Launch) (D : va_G) (cy : ClassId) (q : Nat) (b : Nat → Nat) (M : Nat → Nat → Int32) (n dr : Nat) (an fi ba : Int32) (mo : Nat) (th : Int32) (nd : Nat) (fl : Int32) (sq tq : Nat) (d k u x t : Int32) (hnd : nd < 1000000) (hn : n < 120) (hdr : dr < 1000000) (hu : vp_in u 8) (sz : Nat) : WrV l yX1_chalk_ wsX1_chalk_ 1 22 [.ref q, .int d, .int k, .int u, .int x, .int t] D cy (cSM q b cy M n dr an fi ba mo th nd fl sq tq) (cSM q b cy (spoonsM M n d k u x t) (n + 1) dr an fi ba mo th nd fl sq tq) sz := by
  refine Met.ofW (cc := cX1_chalk_) (maxL := 6) (ret := none) (by decide) rfl ?_
  intro p e s m args below meth c s₁ B hml hv
  obtain ⟨rfl, hsz, hP, hK, hD0⟩ := hv
  have hx := B.exec
  have hb := B.bytes
  have hr := B.returns
  have hts := atoms_spec (ws := wsX1_chalk_) B.pre
  have hown : s.vm.findClass RX1 = some m.cls := findClass_of_methodNamed B.named
  have hlocks := B.notSynchronized
  subst hsz
  have hD := hD0.self (sz := s.heap.size)
  generalize hAe : va_A (cSM q b cy M n dr an fi ba mo th nd fl sq tq) s.heap.size = A at hD ⊢
  have hA : ∀ q : Nat, s.heap.size ≤ q → A q := fun q h => by rw [← hAe]; exact Or.inr h
  have hS : va_S A s.heap s.heap [] := va_S.rf
  have hl := lv_entry ([.ref q, .int d, .int k, .int u, .int x, .int t]) (n := 6) (Nat.le_of_ble_eq_true rfl)
  rw [lg_entry_eq]
  generalize (lg_sl ([.ref q, .int d, .int k, .int u, .int x, .int t]) ++ List.replicate (6 - (lg_sl ([.ref q, .int d, .int k, .int u, .int x, .int t])).length) Slot.unset).toArray = ls at hl ⊢
  have hl : lv_has ls 6 [(0, .ref q), (1, .int d), (2, .int k), (3, .int u), (4, .int x), (5, .int t)] := hl
  refine lv_aload_n hx hb dX1_chalk__0 rfl (lv_at hl 0 rfl) ?_
  refine lv_iload_n hx hb dX1_chalk__1 rfl (lv_at hl 1 rfl) ?_
  refine lv_iload_n hx hb dX1_chalk__2 rfl (lv_at hl 2 rfl) ?_
  refine wr_VV (q := (RX1, TX1, 15)) (ci := 1) (q0 := 0) (ws0' := cSM q b cy (chalkM M n d k) (n + 1) dr an fi ba mo th nd fl sq tq) (As := [.int d, .int k]) (rest := []) ⟨hx, hb, hml, hown, hts⟩ (fun sz => mX1_chalk l D cy q b M n dr an fi ba mo th nd fl sq tq d k (by omega) (by omega) (by omega)  sz) (cwV 2 hts gX1_chalk__X1_chalk rfl rfl rfl (by decide +kernel) ⟨Nat.le_of_ble_eq_true rfl, Nat.le_of_ble_eq_true rfl⟩) hP hK hD hS hA [0, 1, 2, 3, 4, 5, 6, 7, 8, 9, 10] [] [0, 1, 2, 3, 4, 5, 6, 7, 8, 9, 10] rfl rfl rfl (by decide) rfl rfl rfl rfl rfl rfl rfl hl.1 rfl (Nat.le_of_ble_eq_true rfl) dX1_chalk__3 (Nat.zero_le _) (Nat.zero_le _) (fun H locs hP hD hS => ?_)
  refine lv_aload_n hx hb dX1_chalk__6 rfl (lv_at hl 0 rfl) ?_
  refine va_get (D := D) (ci := 1) (v := .ref (b 6)) (C := RX1) (T := TX1) (N := 15) hx hb hts inX1_chalk__1 hown hK.1 hP 0 rfl rfl 7 (by decide) (hts (.fieldLink RX1 31 "ChalkSlateModel$State" "pot" "[I") (by decide +kernel)) (fun _ h9 => h9) rfl dX1_chalk__7 ?_
  refine lv_aload_n hx hb dX1_chalk__10 rfl (lv_at hl 0 rfl) ?_
  refine va_get (D := D) (ci := 1) (v := .int (nI (n + 1))) (C := RX1) (T := TX1) (N := 15) hx hb hts inX1_chalk__1 hown hK.1 hP 0 rfl rfl 0 (by decide) (hts (.fieldLink RX1 49 "ChalkSlateModel$State" "lines" "I") (by decide +kernel)) (fun _ h9 => h9) rfl dX1_chalk__11 ?_
  refine lv_iconst (v := 1) hx hb dX1_chalk__14 (by decide) ?_
  refine lv_isub hx hb dX1_chalk__15 ?_
  rw [nI_pred n]
  refine lv_iload_n hx hb dX1_chalk__16 rfl (lv_at hl 3 rfl) ?_
  refine va_iast hx hb hK.1 hP hD hS 6 0 rfl rfl (vp_in_nI (by omega) (by omega)) dX1_chalk__17 (fun H locs hP hD hS => ?_)
  rw [nI_clamp (n := n) (by omega)] at hP hD
  rw [cSM_set_6] at hP hD
  refine lv_aload_n hx hb dX1_chalk__18 rfl (lv_at hl 0 rfl) ?_
  refine va_get (D := D) (ci := 1) (v := .ref (b 7)) (C := RX1) (T := TX1) (N := 15) hx hb hts inX1_chalk__1 hown hK.1 hP 0 rfl rfl 8 (by decide) (hts (.fieldLink RX1 34 "ChalkSlateModel$State" "ahead" "[I") (by decide +kernel)) (fun _ h9 => h9) rfl dX1_chalk__19 ?_
  refine lv_aload_n hx hb dX1_chalk__22 rfl (lv_at hl 0 rfl) ?_
  refine va_get (D := D) (ci := 1) (v := .int (nI (n + 1))) (C := RX1) (T := TX1) (N := 15) hx hb hts inX1_chalk__1 hown hK.1 hP 0 rfl rfl 0 (by decide) (hts (.fieldLink RX1 49 "ChalkSlateModel$State" "lines" "I") (by decide +kernel)) (fun _ h9 => h9) rfl dX1_chalk__23 ?_
  refine lv_iconst (v := 1) hx hb dX1_chalk__26 (by decide) ?_
  refine lv_isub hx hb dX1_chalk__27 ?_
  rw [nI_pred n]
  refine lv_aload_n hx hb dX1_chalk__28 rfl (lv_at hl 0 rfl) ?_
  refine va_get (D := D) (ci := 1) (v := .ref (b 0)) (C := RX1) (T := TX1) (N := 15) hx hb hts inX1_chalk__1 hown hK.1 hP 0 rfl rfl 2 (by decide) (hts (.fieldLink RX1 15 "ChalkSlateModel$State" "stove" "[I") (by decide +kernel)) (fun _ h9 => h9) rfl dX1_chalk__29 ?_
  refine lv_iload_n hx hb dX1_chalk__32 rfl (lv_at hl 3 rfl) ?_
  refine va_iald hx hb hK.1 hP 1 0 rfl rfl hu dX1_chalk__33 ?_
  refine va_iast hx hb hK.1 hP hD hS 7 0 rfl rfl (vp_in_nI (by omega) (by omega)) dX1_chalk__34 (fun H locs hP hD hS => ?_)
  rw [nI_clamp (n := n) (by omega)] at hP hD
  rw [cSM_set_7] at hP hD
  refine lv_aload_n hx hb dX1_chalk__35 rfl (lv_at hl 0 rfl) ?_
  refine va_get (D := D) (ci := 1) (v := .ref (b 8)) (C := RX1) (T := TX1) (N := 15) hx hb hts inX1_chalk__1 hown hK.1 hP 0 rfl rfl 9 (by decide) (hts (.fieldLink RX1 37 "ChalkSlateModel$State" "behind" "[I") (by decide +kernel)) (fun _ h9 => h9) rfl dX1_chalk__36 ?_
  refine lv_aload_n hx hb dX1_chalk__39 rfl (lv_at hl 0 rfl) ?_
  refine va_get (D := D) (ci := 1) (v := .int (nI (n + 1))) (C := RX1) (T := TX1) (N := 15) hx hb hts inX1_chalk__1 hown hK.1 hP 0 rfl rfl 0 (by decide) (hts (.fieldLink RX1 49 "ChalkSlateModel$State" "lines" "I") (by decide +kernel)) (fun _ h9 => h9) rfl dX1_chalk__40 ?_
  refine lv_iconst (v := 1) hx hb dX1_chalk__43 (by decide) ?_
  refine lv_isub hx hb dX1_chalk__44 ?_
  rw [nI_pred n]
  refine lv_iload hx hb dX1_chalk__45 (lv_at hl 4 rfl) ?_
  refine va_iast hx hb hK.1 hP hD hS 8 0 rfl rfl (vp_in_nI (by omega) (by omega)) dX1_chalk__47 (fun H locs hP hD hS => ?_)
  rw [nI_clamp (n := n) (by omega)] at hP hD
  rw [cSM_set_8] at hP hD
  refine lv_aload_n hx hb dX1_chalk__48 rfl (lv_at hl 0 rfl) ?_
  refine va_get (D := D) (ci := 1) (v := .ref (b 9)) (C := RX1) (T := TX1) (N := 15) hx hb hts inX1_chalk__1 hown hK.1 hP 0 rfl rfl 10 (by decide) (hts (.fieldLink RX1 40 "ChalkSlateModel$State" "takes" "[I") (by decide +kernel)) (fun _ h9 => h9) rfl dX1_chalk__49 ?_
  refine lv_aload_n hx hb dX1_chalk__52 rfl (lv_at hl 0 rfl) ?_
  refine va_get (D := D) (ci := 1) (v := .int (nI (n + 1))) (C := RX1) (T := TX1) (N := 15) hx hb hts inX1_chalk__1 hown hK.1 hP 0 rfl rfl 0 (by decide) (hts (.fieldLink RX1 49 "ChalkSlateModel$State" "lines" "I") (by decide +kernel)) (fun _ h9 => h9) rfl dX1_chalk__53 ?_
  refine lv_iconst (v := 1) hx hb dX1_chalk__56 (by decide) ?_
  refine lv_isub hx hb dX1_chalk__57 ?_
  rw [nI_pred n]
  refine lv_iload hx hb dX1_chalk__58 (lv_at hl 5 rfl) ?_
  refine va_iast hx hb hK.1 hP hD hS 9 0 rfl rfl (vp_in_nI (by omega) (by omega)) dX1_chalk__60 (fun H locs hP hD hS => ?_)
  rw [nI_clamp (n := n) (by omega)] at hP hD
  rw [cSM_set_9] at hP hD
  refine lv_aload_n hx hb dX1_chalk__61 rfl (lv_at hl 0 rfl) ?_
  refine va_get (D := D) (ci := 1) (v := .ref (b 0)) (C := RX1) (T := TX1) (N := 15) hx hb hts inX1_chalk__1 hown hK.1 hP 0 rfl rfl 2 (by decide) (hts (.fieldLink RX1 15 "ChalkSlateModel$State" "stove" "[I") (by decide +kernel)) (fun _ h9 => h9) rfl dX1_chalk__62 ?_
  refine lv_iload_n hx hb dX1_chalk__65 rfl (lv_at hl 3 rfl) ?_
  refine lv_iload hx hb dX1_chalk__66 (lv_at hl 4 rfl) ?_
  refine va_iast hx hb hK.1 hP hD hS 1 0 rfl rfl hu dX1_chalk__68 (fun H locs hP hD hS => ?_)
  rw [cSM_set_0] at hP hD
  exact W.vret hx hb hr (fun t ht hW => ⟨⟨(), rfl, trivial, by show va_P D vwCl _ t.heap; rw [ht]; exact hP⟩, hS.F ht⟩) hS.2.2 dX1_chalk__69

set_option maxRecDepth 100000 in
theorem inX1_undo_1 : ∀ w ∈ wsX10, w ∈ wsX1_undo := by decide +kernel

set_option maxHeartbeats 4000000 in
set_option maxRecDepth 100000 in
theorem mX1_undo (l : Launch) (D : va_G) (cy : ClassId) (q : Nat) (b : Nat → Nat) (M : Nat → Nat → Int32) (n dr : Nat) (an fi ba : Int32) (mo : Nat) (th : Int32) (nd : Nat) (fl : Int32) (sq tq : Nat) (d : Int32) (hnd : nd < 1000000) (hn : n ≤ 120) (hdr : dr < 1000000) (hok : undoOk M n d) (sz : Nat) : WrI l yX1_undo wsX1_undo 2 47 [.ref q, .int d] D cy (cSM q b cy M n dr an fi ba mo th nd fl sq tq) (cSM q b cy (undoMR M n d) (undoMN M n d) dr an fi ba mo th nd fl sq tq) sz (undoMC M n d) := by
  refine Met.ofW (cc := cX1_undo) (maxL := 4) (ret := (some .int)) (by decide) rfl ?_
  intro p e s m args below meth c s₁ B hml hv
  obtain ⟨rfl, hsz, hP, hK, hD0⟩ := hv
  have hx := B.exec
  have hb := B.bytes
  have hr := B.returns
  have hts := atoms_spec (ws := wsX1_undo) B.pre
  have hown : s.vm.findClass RX1 = some m.cls := findClass_of_methodNamed B.named
  have hlocks := B.notSynchronized
  subst hsz
  have hD := hD0.self (sz := s.heap.size)
  generalize hAe : va_A (cSM q b cy M n dr an fi ba mo th nd fl sq tq) s.heap.size = A at hD ⊢
  have hA : ∀ q : Nat, s.heap.size ≤ q → A q := fun q h => by rw [← hAe]; exact Or.inr h
  have hS : va_S A s.heap s.heap [] := va_S.rf
  have hl := lv_entry ([.ref q, .int d]) (n := 4) (Nat.le_of_ble_eq_true rfl)
  rw [lg_entry_eq]
  generalize (lg_sl ([.ref q, .int d]) ++ List.replicate (4 - (lg_sl ([.ref q, .int d])).length) Slot.unset).toArray = ls at hl ⊢
  have hl : lv_has ls 4 [(0, .ref q), (1, .int d)] := hl
  refine lv_iconst (v := 0) hx hb dX1_undo_0 (by decide) ?_
  refine lv_istore_n (lv' := [(2, .int 0), (0, .ref q), (1, .int d)]) hx hb dX1_undo_1 rfl hl (by decide) rfl (fun ls hl => ?_)
  refine lv_aload_n hx hb dX1_undo_2 rfl (lv_at hl 1 rfl) ?_
  refine va_get (D := D) (ci := 1) (v := .int (nI n)) (C := RX1) (T := TX1) (N := 15) hx hb hts inX1_undo_1 hown hK.1 hP 0 rfl rfl 0 (by decide) (hts (.fieldLink RX1 49 "ChalkSlateModel$State" "lines" "I") (by decide +kernel)) (fun _ h9 => h9) rfl dX1_undo_3 ?_
  refine lv_iconst (v := 1) hx hb dX1_undo_6 (by decide) ?_
  refine lv_isub hx hb dX1_undo_7 ?_
  refine lv_istore_n (lv' := [(3, .int ((nI n) - 1)), (2, .int 0), (0, .ref q), (1, .int d)]) hx hb dX1_undo_8 rfl hl (by decide) rfl (fun ls hl => ?_)
  have loop : ∀ (i : Nat) (acc : Int32) (x : Int32) (M0 : Nat → Nat → Int32) (n0 : Nat), i ≤ n → x = nI i - 1 → M0 = (undoM M n d (n - i)).1 → n0 = (undoM M n d (n - i)).2.1 → acc = (undoM M n d (n - i)).2.2 → i ≤ n0 → ∀ (H : Heap) (locs : List Loc), va_P D vwCl (cSM q b cy M0 n0 dr an fi ba mo th nd fl sq tq) H → va_D A (cSM q b cy M0 n0 dr an fi ba mo th nd fl sq tq) → va_S A s.heap H locs → ∀ ls : Array Slot, lv_has ls 4 [(0, .ref q), (1, .int d), (2, .int acc), (3, .int x)] → W p l e (headSpec wsX1_undo { frames := 2, cells := 0, slots := 0, locals := 47 }).room s m ([.ref q, .int d] : List Value).toArray below meth c H locs 0 0 (MQ below (va_Qi (fun (r : Int32) (_ : Unit) => r = undoMC M n d) (fun _ t => va_P D vwCl (cSM q b cy (undoMR M n d) (undoMN M n d) dr an fi ba mo th nd fl sq tq) t.heap) A) ([.ref q, .int d] : List Value).toArray s 0 0 A) (F0 m 9 ls []) := by
    intro i
    induction i with
    | zero =>
      intro acc x M0 n0 hik hxx hs1 hs2 hs3 hb0 H locs hP hD hS ls hl
      have hx0 : x = -1 := by rw [hxx]; rfl
      subst hx0
      refine lv_iload_n hx hb dX1_undo_9 rfl (lv_at hl 3 rfl) ?_
      have hlt : n0 < 120 := by rw [hs2]; exact hok.1 _ (by omega)
      refine lv_if_lt (tgt := 53) hx hb dX1_undo_10 (by decide) (fun c1 => ?_) (fun c1 => absurd (by decide) c1)
      refine lv_aload_n hx hb dX1_undo_53 rfl (lv_at hl 0 rfl) ?_
      refine lv_iload_n hx hb dX1_undo_54 rfl (lv_at hl 1 rfl) ?_
      refine lv_iconst (v := 4) hx hb dX1_undo_55 (by decide) ?_
      refine wr_VV (q := (RX1, TX1, 15)) (ci := 1) (q0 := 0) (ws0' := cSM q b cy (chalkM M0 n0 d 4) (n0 + 1) dr an fi ba mo th nd fl sq tq) (As := [.int d, .int 4]) (rest := []) ⟨hx, hb, hml, hown, hts⟩ (fun sz => mX1_chalk l D cy q b M0 n0 dr an fi ba mo th nd fl sq tq d 4 (by omega) (by omega) (by omega)  sz) (cwV 2 hts gX1_undo_X1_chalk rfl rfl rfl (by decide +kernel) ⟨Nat.le_of_ble_eq_true rfl, Nat.le_of_ble_eq_true rfl⟩) hP hK hD hS hA [0, 1, 2, 3, 4, 5, 6, 7, 8, 9, 10] [] [0, 1, 2, 3, 4, 5, 6, 7, 8, 9, 10] rfl rfl rfl (by decide) rfl rfl rfl rfl rfl rfl rfl hl.1 rfl (Nat.le_of_ble_eq_true rfl) dX1_undo_56 (Nat.zero_le _) (Nat.zero_le _) (fun H locs hP hD hS => ?_)
      refine lv_iload_n hx hb dX1_undo_59 rfl (lv_at hl 2 rfl) ?_
      rw [Nat.sub_zero] at hs1 hs2 hs3
      have hP : va_P D vwCl (cSM q b cy (undoMR M n d) (undoMN M n d) dr an fi ba mo th nd fl sq tq) H := by rw [undoMR, undoMN, ← hs1, ← hs2]; exact hP
      exact W.iret (v := acc) hx hb hr (fun t ht hW => ⟨⟨acc, (), rfl, by rw [undoMC, hs3], by show va_P D vwCl _ t.heap; rw [ht]; exact hP⟩, hS.F ht⟩) hS.2.2 dX1_undo_60
    | succ i ih =>
      intro acc x M0 n0 hik hxx hs1 hs2 hs3 hb0 H locs hP hD hS ls hl
      have hx1 : x = nI i := by rw [hxx, nI_pred]
      subst hx1
      refine lv_iload_n hx hb dX1_undo_9 rfl (lv_at hl 3 rfl) ?_
      have hlt : n0 < 120 := by rw [hs2]; exact hok.1 _ (by omega)
      refine lv_if_lt (tgt := 53) hx hb dX1_undo_10 (by decide) (fun c2 => absurd c2 (nI_pos (by omega))) (fun c2 => ?_)
      refine lv_aload_n hx hb dX1_undo_13 rfl (lv_at hl 0 rfl) ?_
      refine lv_iload_n hx hb dX1_undo_14 rfl (lv_at hl 3 rfl) ?_
      refine lv_iload_n hx hb dX1_undo_15 rfl (lv_at hl 1 rfl) ?_
      refine rd_V (q := (RX1, TX1, 15)) (ci := 1) (q0 := 0) (As := [.int (nI i), .int d]) (rest := []) ⟨hx, hb, hml, hown, hts⟩ (mX1_isKept l D cy q b M0 n0 dr an fi ba mo th nd fl sq tq i d (by omega) (by omega) (by omega) (by omega)) (cwV 2 hts gX1_undo_X1_isKept rfl rfl rfl (by decide +kernel) ⟨Nat.le_of_ble_eq_true rfl, Nat.le_of_ble_eq_true rfl⟩) hP hK rfl rfl rfl hl.1 rfl (Nat.le_of_ble_eq_true rfl) dX1_undo_16 (Nat.zero_le _) (Nat.zero_le _) ?_
      refine lv_if_ne (tgt := 25) hx hb dX1_undo_19 (by decide) (fun c3 => ?_) (fun c3 => ?_)
      · have hu : vp_in (M0 6 i) 8 := by
          have hh := hok.2 (n - (i + 1)) (by omega)
          rw [show n - 1 - (n - (i + 1)) = i by omega, ← hs1, ← hs2] at hh
          exact hh c3
        refine lv_aload_n hx hb dX1_undo_25 rfl (lv_at hl 0 rfl) ?_
        refine lv_iload_n hx hb dX1_undo_26 rfl (lv_at hl 1 rfl) ?_
        refine lv_iconst (v := 3) hx hb dX1_undo_27 (by decide) ?_
        refine lv_aload_n hx hb dX1_undo_28 rfl (lv_at hl 0 rfl) ?_
        refine va_get (D := D) (ci := 1) (v := .ref (b 6)) (C := RX1) (T := TX1) (N := 15) hx hb hts inX1_undo_1 hown hK.1 hP 0 rfl rfl 7 (by decide) (hts (.fieldLink RX1 31 "ChalkSlateModel$State" "pot" "[I") (by decide +kernel)) (fun _ h9 => h9) rfl dX1_undo_29 ?_
        refine lv_iload_n hx hb dX1_undo_32 rfl (lv_at hl 3 rfl) ?_
        refine va_iald hx hb hK.1 hP 6 0 rfl rfl (vp_in_nI (by omega) (by omega)) dX1_undo_33 ?_
        rw [nI_clamp (n := i) (by omega)]
        refine lv_aload_n hx hb dX1_undo_34 rfl (lv_at hl 0 rfl) ?_
        refine va_get (D := D) (ci := 1) (v := .ref (b 7)) (C := RX1) (T := TX1) (N := 15) hx hb hts inX1_undo_1 hown hK.1 hP 0 rfl rfl 8 (by decide) (hts (.fieldLink RX1 34 "ChalkSlateModel$State" "ahead" "[I") (by decide +kernel)) (fun _ h9 => h9) rfl dX1_undo_35 ?_
        refine lv_iload_n hx hb dX1_undo_38 rfl (lv_at hl 3 rfl) ?_
        refine va_iald hx hb hK.1 hP 7 0 rfl rfl (vp_in_nI (by omega) (by omega)) dX1_undo_39 ?_
        rw [nI_clamp (n := i) (by omega)]
        refine lv_iload_n hx hb dX1_undo_40 rfl (lv_at hl 3 rfl) ?_
        refine wr_VV (q := (RX1, TX1, 15)) (ci := 1) (q0 := 0) (ws0' := cSM q b cy (spoonsM M0 n0 d 3 ((M0 6) i) ((M0 7) i) (nI i)) (n0 + 1) dr an fi ba mo th nd fl sq tq) (As := [.int d, .int 3, .int ((M0 6) i), .int ((M0 7) i), .int (nI i)]) (rest := []) ⟨hx, hb, hml, hown, hts⟩ (fun sz => mX1_chalk_ l D cy q b M0 n0 dr an fi ba mo th nd fl sq tq d 3 ((M0 6) i) ((M0 7) i) (nI i) (by omega) (by omega) (by omega) hu sz) (cwV 5 hts gX1_undo_X1_chalk_ rfl rfl rfl (by decide +kernel) ⟨Nat.le_of_ble_eq_true rfl, Nat.le_of_ble_eq_true rfl⟩) hP hK hD hS hA [0, 1, 2, 3, 4, 5, 6, 7, 8, 9, 10] [] [0, 1, 2, 3, 4, 5, 6, 7, 8, 9, 10] rfl rfl rfl (by decide) rfl rfl rfl rfl rfl rfl rfl hl.1 rfl (Nat.le_of_ble_eq_true rfl) dX1_undo_41 (Nat.zero_le _) (Nat.zero_le _) (fun H locs hP hD hS => ?_)
        refine lv_iinc (v := acc + 1) (lv' := [(2, .int (acc + 1)), (0, .ref q), (1, .int d), (3, .int (nI i))]) hx hb dX1_undo_44 hl (k := 2) rfl (rfl) (by decide) rfl (fun ls hl => ?_)
        refine lv_iinc (v := (nI i) + (-1)) (lv' := [(3, .int ((nI i) + (-1))), (2, .int (acc + 1)), (0, .ref q), (1, .int d)]) hx hb dX1_undo_47 hl (k := 3) rfl (rfl) (by decide) rfl (fun ls hl => ?_)
        refine lv_goto (tgt := 9) hx hb dX1_undo_50 (by decide) ?_
        exact ih (acc + 1) _ (spoonsM M0 n0 d 3 ((M0 6) i) ((M0 7) i) (nI i)) (n0 + 1) (by omega) (add_m1 _) (by rw [show n - i = n - (i + 1) + 1 by omega, undoM, show n - 1 - (n - (i + 1)) = i by omega, ← hs1, ← hs2, if_neg c3]) (by rw [show n - i = n - (i + 1) + 1 by omega, undoM, show n - 1 - (n - (i + 1)) = i by omega, ← hs1, ← hs2, if_neg c3]) (by rw [show n - i = n - (i + 1) + 1 by omega, undoM, show n - 1 - (n - (i + 1)) = i by omega, ← hs1, ← hs2, if_neg c3, ← hs3]) (by omega) H locs hP hD hS ls (lv_sub hl [2, 3, 1, 0] rfl)
      · refine lv_goto (tgt := 47) hx hb dX1_undo_22 (by decide) ?_
        refine lv_iinc (v := (nI i) + (-1)) (lv' := [(3, .int ((nI i) + (-1))), (0, .ref q), (1, .int d), (2, .int acc)]) hx hb dX1_undo_47 hl (k := 3) rfl (rfl) (by decide) rfl (fun ls hl => ?_)
        refine lv_goto (tgt := 9) hx hb dX1_undo_50 (by decide) ?_
        exact ih acc _ M0 n0 (by omega) (add_m1 _) (by rw [show n - i = n - (i + 1) + 1 by omega, undoM, show n - 1 - (n - (i + 1)) = i by omega, ← hs1, ← hs2, if_pos c3, ← hs1]) (by rw [show n - i = n - (i + 1) + 1 by omega, undoM, show n - 1 - (n - (i + 1)) = i by omega, ← hs1, ← hs2, if_pos c3, ← hs2]) (by rw [show n - i = n - (i + 1) + 1 by omega, undoM, show n - 1 - (n - (i + 1)) = i by omega, ← hs1, ← hs2, if_pos c3, ← hs3]) (by omega) H locs hP hD hS ls (lv_sub hl [1, 2, 3, 0] rfl)
  exact loop n 0 _ M n (Nat.le_refl _) rfl (by rw [Nat.sub_self]; rfl) (by rw [Nat.sub_self]; rfl) (by rw [Nat.sub_self]; rfl) (Nat.le_refl _) s.heap [] hP hD hS ls (lv_sub hl [2, 3, 1, 0] rfl)

set_option maxRecDepth 100000 in
theorem inX1_dries_1 : ∀ w ∈ wsX10, w ∈ wsX1_dries := by decide +kernel

set_option maxHeartbeats 4000000 in
set_option maxRecDepth 100000 in
theorem mX1_dries (l : Launch) (D : va_G) (cy : ClassId) (q : Nat) (b : Nat → Nat) (M : Nat → Nat → Int32) (n dr : Nat) (an fi ba : Int32) (mo : Nat) (th : Int32) (nd : Nat) (fl : Int32) (sq tq : Nat) (x : Int32) (e9 : Nat) (hnd : nd < 1000000) (hn : n ≤ 120) (hdr : dr < 1000000) (hx9 : x + 1 = nI e9) (he : e9 < 1000000) (sz : Nat) : WrI l yX1_dries wsX1_dries 1 14 [.ref q, .int x] D cy (cSM q b cy M n dr an fi ba mo th nd fl sq tq) (cSM q b cy M n (dryN dr e9) an fi ba mo th nd fl sq tq) sz (nI (dryN dr e9) - nI dr) := by
  refine Met.ofW (cc := cX1_dries) (maxL := 3) (ret := (some .int)) (by decide) rfl ?_
  intro p e s m args below meth c s₁ B hml hv
  obtain ⟨rfl, hsz, hP, hK, hD0⟩ := hv
  have hx := B.exec
  have hb := B.bytes
  have hr := B.returns
  have hts := atoms_spec (ws := wsX1_dries) B.pre
  have hown : s.vm.findClass RX1 = some m.cls := findClass_of_methodNamed B.named
  have hlocks := B.notSynchronized
  subst hsz
  have hD := hD0.self (sz := s.heap.size)
  generalize hAe : va_A (cSM q b cy M n dr an fi ba mo th nd fl sq tq) s.heap.size = A at hD ⊢
  have hA : ∀ q : Nat, s.heap.size ≤ q → A q := fun q h => by rw [← hAe]; exact Or.inr h
  have hS : va_S A s.heap s.heap [] := va_S.rf
  have hl := lv_entry ([.ref q, .int x]) (n := 3) (Nat.le_of_ble_eq_true rfl)
  rw [lg_entry_eq]
  generalize (lg_sl ([.ref q, .int x]) ++ List.replicate (3 - (lg_sl ([.ref q, .int x])).length) Slot.unset).toArray = ls at hl ⊢
  have hl : lv_has ls 3 [(0, .ref q), (1, .int x)] := hl
  refine lv_aload_n hx hb dX1_dries_0 rfl (lv_at hl 0 rfl) ?_
  refine va_get (D := D) (ci := 1) (v := .int (nI dr)) (C := RX1) (T := TX1) (N := 15) hx hb hts inX1_dries_1 hown hK.1 hP 0 rfl rfl 1 (by decide) (hts (.fieldLink RX1 53 "ChalkSlateModel$State" "dry" "I") (by decide +kernel)) (fun _ h9 => h9) rfl dX1_dries_1 ?_
  refine lv_istore_n (lv' := [(2, .int (nI dr)), (0, .ref q), (1, .int x)]) hx hb dX1_dries_4 rfl hl (by decide) rfl (fun ls hl => ?_)
  refine lv_aload_n hx hb dX1_dries_5 rfl (lv_at hl 1 rfl) ?_
  refine lv_aload_n hx hb dX1_dries_6 rfl (lv_at hl 1 rfl) ?_
  refine va_get (D := D) (ci := 1) (v := .int (nI dr)) (C := RX1) (T := TX1) (N := 15) hx hb hts inX1_dries_1 hown hK.1 hP 0 rfl rfl 1 (by decide) (hts (.fieldLink RX1 53 "ChalkSlateModel$State" "dry" "I") (by decide +kernel)) (fun _ h9 => h9) rfl dX1_dries_7 ?_
  refine lv_iload_n hx hb dX1_dries_10 rfl (lv_at hl 2 rfl) ?_
  refine lv_iconst (v := 1) hx hb dX1_dries_11 (by decide) ?_
  refine lv_iadd hx hb dX1_dries_12 ?_
  rw [hx9]
  refine va_mmax hx hb (hml.trans hl.1.symm) hown (hts (.methodLink RX1 88 Lib.Math.max.name) (by decide +kernel)) (hts (.static Lib.Math.max.name) (by decide +kernel)) (hts (.initialized "java/lang/Math") (by decide +kernel)) (hts (.code Lib.Math.max.name Lib.Math.max.code 2 (some .int)) (by decide +kernel)) (Nat.le_of_ble_eq_true rfl) (Nat.le_of_ble_eq_true rfl) (Nat.zero_le _) (Nat.zero_le _) dX1_dries_13 ?_
  rw [show (if (nI dr) < (nI e9) then (nI e9) else (nI dr)) = nI (dryN dr e9) from max_nI hdr he]
  refine va_put (D := D) (ci := 1) (v := .int (nI (dryN dr e9))) (ty := .int) (C := RX1) (T := TX1) (N := 15) hx hb hts inX1_dries_1 tyX1 tyX1_ok nmX1 hown hK.1 hP hD hS 0 rfl rfl 1 (by decide) (hts (.fieldLink RX1 53 "ChalkSlateModel$State" "dry" "I") (by decide +kernel)) (fun _ h9 => h9) rfl (by decide +kernel) rfl rfl (Nat.le_of_ble_eq_true rfl) dX1_dries_16 (fun H locs hP hD hS => ?_)
  have hP : va_P D vwCl (cSM q b cy M n (dryN dr e9) an fi ba mo th nd fl sq tq) H := hP
  have hD : va_D A (cSM q b cy M n (dryN dr e9) an fi ba mo th nd fl sq tq) := hD
  refine lv_aload_n hx hb dX1_dries_19 rfl (lv_at hl 1 rfl) ?_
  refine va_get (D := D) (ci := 1) (v := .int (nI (dryN dr e9))) (C := RX1) (T := TX1) (N := 15) hx hb hts inX1_dries_1 hown hK.1 hP 0 rfl rfl 1 (by decide) (hts (.fieldLink RX1 53 "ChalkSlateModel$State" "dry" "I") (by decide +kernel)) (fun _ h9 => h9) rfl dX1_dries_20 ?_
  refine lv_iload_n hx hb dX1_dries_23 rfl (lv_at hl 0 rfl) ?_
  refine lv_isub hx hb dX1_dries_24 ?_
  exact W.iret (v := (nI (dryN dr e9)) - (nI dr)) hx hb hr (fun t ht hW => ⟨⟨((nI (dryN dr e9)) - (nI dr)), (), rfl, rfl, by show va_P D vwCl _ t.heap; rw [ht]; exact hP⟩, hS.F ht⟩) hS.2.2 dX1_dries_25

set_option maxRecDepth 100000 in
theorem inX1_fall_1 : ∀ w ∈ wsX10, w ∈ wsX1_fall := by decide +kernel

set_option maxRecDepth 100000 in
theorem inX1_fall_2 : ∀ w ∈ wsX20, w ∈ wsX1_fall := by decide +kernel

set_option maxHeartbeats 4000000 in
set_option maxRecDepth 100000 in
theorem mX1_fall (l : Launch) (D : va_G) (cy : ClassId) (q : Nat) (b : Nat → Nat) (M : Nat → Nat → Int32) (n dr : Nat) (an fi ba : Int32) (mo : Nat) (th : Int32) (nd : Nat) (fl : Int32) (sq tq : Nat)  (hnd : nd < 1000000) (hn : n ≤ 120) (hdr : dr ≤ 120) (hok : fallOk M nd dr) (sz : Nat) : WrV l yX1_fall wsX1_fall 3 70 [.ref q] D cy (cSM q b cy M n dr an fi ba mo th nd fl sq tq) (cSM q b cy (fallM3 M nd dr).1 (fallM3 M nd dr).2.1 dr (fallM2 M dr).2.1 (fallM2 M dr).2.2 (fallM3 M nd dr).2.2 mo th nd fl sq tq) sz := by
  refine Met.ofW (cc := cX1_fall) (maxL := 2) (ret := none) (by decide) rfl ?_
  intro p e s m args below meth c s₁ B hml hv
  obtain ⟨rfl, hsz, hP, hK, hD0⟩ := hv
  have hx := B.exec
  have hb := B.bytes
  have hr := B.returns
  have hts := atoms_spec (ws := wsX1_fall) B.pre
  have hown : s.vm.findClass RX1 = some m.cls := findClass_of_methodNamed B.named
  have hlocks := B.notSynchronized
  subst hsz
  have hD := hD0.self (sz := s.heap.size)
  generalize hAe : va_A (cSM q b cy M n dr an fi ba mo th nd fl sq tq) s.heap.size = A at hD ⊢
  have hA : ∀ q : Nat, s.heap.size ≤ q → A q := fun q h => by rw [← hAe]; exact Or.inr h
  have hS : va_S A s.heap s.heap [] := va_S.rf
  have hl := lv_entry ([.ref q]) (n := 2) (Nat.le_of_ble_eq_true rfl)
  rw [lg_entry_eq]
  generalize (lg_sl ([.ref q]) ++ List.replicate (2 - (lg_sl ([.ref q])).length) Slot.unset).toArray = ls at hl ⊢
  have hl : lv_has ls 2 [(0, .ref q)] := hl
  refine lv_aload_n hx hb dX1_fall_0 rfl (lv_at hl 0 rfl) ?_
  refine lv_aload_n hx hb dX1_fall_1 rfl (lv_at hl 0 rfl) ?_
  refine va_get (D := D) (ci := 1) (v := .int (nI dr)) (C := RX1) (T := TX1) (N := 15) hx hb hts inX1_fall_1 hown hK.1 hP 0 rfl rfl 1 (by decide) (hts (.fieldLink RX1 53 "ChalkSlateModel$State" "dry" "I") (by decide +kernel)) (fun _ h9 => h9) rfl dX1_fall_2 ?_
  refine va_put (D := D) (ci := 1) (v := .int (nI dr)) (ty := .int) (C := RX1) (T := TX1) (N := 15) hx hb hts inX1_fall_1 tyX1 tyX1_ok nmX1 hown hK.1 hP hD hS 0 rfl rfl 0 (by decide) (hts (.fieldLink RX1 49 "ChalkSlateModel$State" "lines" "I") (by decide +kernel)) (fun _ h9 => h9) rfl (by decide +kernel) rfl rfl (Nat.le_of_ble_eq_true rfl) dX1_fall_5 (fun H locs hP hD hS => ?_)
  have hP : va_P D vwCl (cSM q b cy M dr dr an fi ba mo th nd fl sq tq) H := hP
  have hD : va_D A (cSM q b cy M dr dr an fi ba mo th nd fl sq tq) := hD
  refine lv_aload_n hx hb dX1_fall_8 rfl (lv_at hl 0 rfl) ?_
  refine lv_iconst (v := 0) hx hb dX1_fall_9 (by decide) ?_
  refine va_put (D := D) (ci := 1) (v := .int 0) (ty := .int) (C := RX1) (T := TX1) (N := 15) hx hb hts inX1_fall_1 tyX1 tyX1_ok nmX1 hown hK.1 hP hD hS 0 rfl rfl 11 (by decide) (hts (.fieldLink RX1 94 "ChalkSlateModel$State" "anew" "I") (by decide +kernel)) (fun _ h9 => h9) rfl (by decide +kernel) rfl rfl (Nat.le_of_ble_eq_true rfl) dX1_fall_10 (fun H locs hP hD hS => ?_)
  have hP : va_P D vwCl (cSM q b cy M dr dr 0 fi ba mo th nd fl sq tq) H := hP
  have hD : va_D A (cSM q b cy M dr dr 0 fi ba mo th nd fl sq tq) := hD
  refine lv_aload_n hx hb dX1_fall_13 rfl (lv_at hl 0 rfl) ?_
  refine lv_iconst (v := (-1)) hx hb dX1_fall_14 (by decide) ?_
  refine va_put (D := D) (ci := 1) (v := .int (-1)) (ty := .int) (C := RX1) (T := TX1) (N := 15) hx hb hts inX1_fall_1 tyX1 tyX1_ok nmX1 hown hK.1 hP hD hS 0 rfl rfl 12 (by decide) (hts (.fieldLink RX1 97 "ChalkSlateModel$State" "first" "I") (by decide +kernel)) (fun _ h9 => h9) rfl (by decide +kernel) rfl rfl (Nat.le_of_ble_eq_true rfl) dX1_fall_15 (fun H locs hP hD hS => ?_)
  have hP : va_P D vwCl (cSM q b cy M dr dr 0 (-1) ba mo th nd fl sq tq) H := hP
  have hD : va_D A (cSM q b cy M dr dr 0 (-1) ba mo th nd fl sq tq) := hD
  refine lv_aload_n hx hb dX1_fall_18 rfl (lv_at hl 0 rfl) ?_
  refine lv_iconst (v := 0) hx hb dX1_fall_19 (by decide) ?_
  refine va_put (D := D) (ci := 1) (v := .int 0) (ty := .int) (C := RX1) (T := TX1) (N := 15) hx hb hts inX1_fall_1 tyX1 tyX1_ok nmX1 hown hK.1 hP hD hS 0 rfl rfl 13 (by decide) (hts (.fieldLink RX1 100 "ChalkSlateModel$State" "back" "I") (by decide +kernel)) (fun _ h9 => h9) rfl (by decide +kernel) rfl rfl (Nat.le_of_ble_eq_true rfl) dX1_fall_20 (fun H locs hP hD hS => ?_)
  have hP : va_P D vwCl (cSM q b cy M dr dr 0 (-1) 0 mo th nd fl sq tq) H := hP
  have hD : va_D A (cSM q b cy M dr dr 0 (-1) 0 mo th nd fl sq tq) := hD
  refine lv_iconst (v := 0) hx hb dX1_fall_23 (by decide) ?_
  refine lv_istore_n (lv' := [(1, .int 0), (0, .ref q)]) hx hb dX1_fall_24 rfl hl (by decide) rfl (fun ls hl => ?_)
  have loop1 : ∀ (k1 i1 : Nat) (M0 : Nat → Nat → Int32), i1 + k1 = 8 → M0 = fall1M M i1 → ∀ (H : Heap) (locs : List Loc), va_P D vwCl (cSM q b cy M0 dr dr 0 (-1) 0 mo th nd fl sq tq) H → va_D A (cSM q b cy M0 dr dr 0 (-1) 0 mo th nd fl sq tq) → va_S A s.heap H locs → ∀ ls : Array Slot, lv_has ls 2 [(0, .ref q), (1, .int (nI i1))] → W p l e (headSpec wsX1_fall { frames := 3, cells := 0, slots := 0, locals := 70 }).room s m ([.ref q] : List Value).toArray below meth c H locs 0 0 (MQ below (va_Qv (fun _ : Unit => True) (fun _ t => va_P D vwCl (cSM q b cy (fallM3 M nd dr).1 (fallM3 M nd dr).2.1 dr (fallM2 M dr).2.1 (fallM2 M dr).2.2 (fallM3 M nd dr).2.2 mo th nd fl sq tq) t.heap) A) ([.ref q] : List Value).toArray s 0 0 A) (F0 m 25 ls []) := by
    intro k1
    induction k1 with
    | zero =>
      intro i1 M0 hik1 hM H locs hP hD hS ls hl
      have hin1 : i1 = 8 := by omega
      refine lv_iload_n hx hb dX1_fall_25 rfl (lv_at hl 1 rfl) ?_
      refine lv_bipush (v := 8) hx hb dX1_fall_26 (by decide) ?_
      refine lv_icmp_ge (tgt := 49) hx hb dX1_fall_28 (by decide) (fun c1 => ?_) (fun c1 => absurd (nI_le (a := 8) (by omega) (by omega)) c1)
      refine lv_iconst (v := 0) hx hb dX1_fall_49 (by decide) ?_
      refine lv_istore_n (lv' := [(1, .int 0), (0, .ref q)]) hx hb dX1_fall_50 rfl hl (by decide) rfl (fun ls hl => ?_)
      have loop2 : ∀ (k2 i2 : Nat) (M1 : Nat → Nat → Int32) (an1 fi1 : Int32), i2 + k2 = dr → M1 = (fall2M (fall1M M 8) i2).1 → an1 = (fall2M (fall1M M 8) i2).2.1 → fi1 = (fall2M (fall1M M 8) i2).2.2 → ∀ (H : Heap) (locs : List Loc), va_P D vwCl (cSM q b cy M1 dr dr an1 fi1 0 mo th nd fl sq tq) H → va_D A (cSM q b cy M1 dr dr an1 fi1 0 mo th nd fl sq tq) → va_S A s.heap H locs → ∀ ls : Array Slot, lv_has ls 2 [(0, .ref q), (1, .int (nI i2))] → W p l e (headSpec wsX1_fall { frames := 3, cells := 0, slots := 0, locals := 70 }).room s m ([.ref q] : List Value).toArray below meth c H locs 0 0 (MQ below (va_Qv (fun _ : Unit => True) (fun _ t => va_P D vwCl (cSM q b cy (fallM3 M nd dr).1 (fallM3 M nd dr).2.1 dr (fallM2 M dr).2.1 (fallM2 M dr).2.2 (fallM3 M nd dr).2.2 mo th nd fl sq tq) t.heap) A) ([.ref q] : List Value).toArray s 0 0 A) (F0 m 51 ls []) := by
        intro k2
        induction k2 with
        | zero =>
          intro i2 M1 an1 fi1 hik2 hm1 hm2 hm3 H locs hP hD hS ls hl
          have hin2 : i2 = dr := by omega
          refine lv_iload_n hx hb dX1_fall_51 rfl (lv_at hl 1 rfl) ?_
          refine lv_aload_n hx hb dX1_fall_52 rfl (lv_at hl 0 rfl) ?_
          refine va_get (D := D) (ci := 1) (v := .int (nI dr)) (C := RX1) (T := TX1) (N := 15) hx hb hts inX1_fall_1 hown hK.1 hP 0 rfl rfl 0 (by decide) (hts (.fieldLink RX1 49 "ChalkSlateModel$State" "lines" "I") (by decide +kernel)) (fun _ h9 => h9) rfl dX1_fall_53 ?_
          refine lv_icmp_ge (tgt := 133) hx hb dX1_fall_56 (by decide) (fun c2 => ?_) (fun c2 => absurd (nI_le (by omega) (by omega)) c2)
          refine lv_aload_n hx hb dX1_fall_133 rfl (lv_at hl 0 rfl) ?_
          refine va_get (D := D) (ci := 1) (v := .ref mo) (C := RX1) (T := TX1) (N := 15) hx hb hts inX1_fall_1 hown hK.1 hP 0 rfl rfl 14 (by decide) (hts (.fieldLink RX1 3 "ChalkSlateModel$State" "this$0" "LChalkSlateModel;") (by decide +kernel)) (fun _ h9 => h9) rfl dX1_fall_134 ?_
          refine va_getN (D := D) (ci := 2) (v := .int (nI nd)) (C := RX2) (T := TX2) (N := 5) hx hb hts inX1_fall_2 hown hK.1 hP 10 rfl rfl 1 (by decide) (va_Nw.use rfl hK.2.2.2.2.2.2.2.2.2.2.2.2.2.2.2) (fun _ h9 => h9) rfl dX1_fall_137 ?_
          refine lv_iconst (v := 1) hx hb dX1_fall_140 (by decide) ?_
          refine lv_isub hx hb dX1_fall_141 ?_
          refine lv_istore_n (lv' := [(1, .int ((nI nd) - 1)), (0, .ref q)]) hx hb dX1_fall_142 rfl hl (by decide) rfl (fun ls hl => ?_)
          have loop3 : ∀ (i3 : Nat) (x3 : Int32) (M2 : Nat → Nat → Int32) (n2 : Nat) (ba2 : Int32), i3 ≤ nd → x3 = nI i3 - 1 → M2 = (fall3M nd (fallM2 M dr).1 dr (nd - i3)).1 → n2 = (fall3M nd (fallM2 M dr).1 dr (nd - i3)).2.1 → ba2 = (fall3M nd (fallM2 M dr).1 dr (nd - i3)).2.2 → n2 ≤ 120 → ∀ (H : Heap) (locs : List Loc), va_P D vwCl (cSM q b cy M2 n2 dr ((fallM2 M dr).2.1) ((fallM2 M dr).2.2) ba2 mo th nd fl sq tq) H → va_D A (cSM q b cy M2 n2 dr ((fallM2 M dr).2.1) ((fallM2 M dr).2.2) ba2 mo th nd fl sq tq) → va_S A s.heap H locs → ∀ ls : Array Slot, lv_has ls 2 [(0, .ref q), (1, .int x3)] → W p l e (headSpec wsX1_fall { frames := 3, cells := 0, slots := 0, locals := 70 }).room s m ([.ref q] : List Value).toArray below meth c H locs 0 0 (MQ below (va_Qv (fun _ : Unit => True) (fun _ t => va_P D vwCl (cSM q b cy (fallM3 M nd dr).1 (fallM3 M nd dr).2.1 dr (fallM2 M dr).2.1 (fallM2 M dr).2.2 (fallM3 M nd dr).2.2 mo th nd fl sq tq) t.heap) A) ([.ref q] : List Value).toArray s 0 0 A) (F0 m 143 ls []) := by
            intro i3
            induction i3 with
            | zero =>
              intro x3 M2 n2 ba2 hik3 hxx3 hs1 hs2 hs3 hb2 H locs hP hD hS ls hl
              have hx03 : x3 = -1 := by rw [hxx3]; rfl
              subst hx03
              refine lv_iload_n hx hb dX1_fall_143 rfl (lv_at hl 1 rfl) ?_
              refine lv_if_lt (tgt := 175) hx hb dX1_fall_144 (by decide) (fun c3 => ?_) (fun c3 => absurd (by decide) c3)
              rw [Nat.sub_zero] at hs1 hs2 hs3
              have hP : va_P D vwCl (cSM q b cy (fallM3 M nd dr).1 (fallM3 M nd dr).2.1 dr (fallM2 M dr).2.1 (fallM2 M dr).2.2 (fallM3 M nd dr).2.2 mo th nd fl sq tq) H := by rw [hs1, hs2, hs3] at hP; exact hP
              exact W.vret hx hb hr (fun t ht hW => ⟨⟨(), rfl, trivial, by show va_P D vwCl _ t.heap; rw [ht]; exact hP⟩, hS.F ht⟩) hS.2.2 dX1_fall_175
            | succ i3 ih3 =>
              intro x3 M2 n2 ba2 hik3 hxx3 hs1 hs2 hs3 hb2 H locs hP hD hS ls hl
              have hx13 : x3 = nI i3 := by rw [hxx3, nI_pred]
              subst hx13
              refine lv_iload_n hx hb dX1_fall_143 rfl (lv_at hl 1 rfl) ?_
              refine lv_if_lt (tgt := 175) hx hb dX1_fall_144 (by decide) (fun c4 => absurd c4 (nI_pos (by omega))) (fun c4 => ?_)
              refine lv_aload_n hx hb dX1_fall_147 rfl (lv_at hl 0 rfl) ?_
              refine lv_iload_n hx hb dX1_fall_148 rfl (lv_at hl 1 rfl) ?_
              refine rd_V (q := (RX1, TX1, 15)) (ci := 1) (q0 := 0) (As := [.int (nI i3)]) (rest := []) ⟨hx, hb, hml, hown, hts⟩ (mX1_is l D cy q b M2 n2 dr ((fallM2 M dr).2.1) ((fallM2 M dr).2.2) ba2 mo th nd fl sq tq (nI i3) (by omega) (by omega) (by omega) ) (cwV 1 hts gX1_fall_X1_is rfl rfl rfl (by decide +kernel) ⟨Nat.le_of_ble_eq_true rfl, Nat.le_of_ble_eq_true rfl⟩) hP hK rfl rfl rfl hl.1 rfl (Nat.le_of_ble_eq_true rfl) dX1_fall_149 (Nat.zero_le _) (Nat.zero_le _) ?_
              refine lv_if_ne (tgt := 169) hx hb dX1_fall_152 (by decide) (fun c5 => ?_) (fun c5 => ?_)
              · refine lv_iinc (v := (nI i3) + (-1)) (lv' := [(1, .int ((nI i3) + (-1))), (0, .ref q)]) hx hb dX1_fall_169 hl (k := 1) rfl (rfl) (by decide) rfl (fun ls hl => ?_)
                refine lv_goto (tgt := 143) hx hb dX1_fall_172 (by decide) ?_
                exact ih3 _ M2 n2 ba2 (by omega) (add_m1 _) (by rw [show nd - i3 = nd - (i3 + 1) + 1 by omega, fall3M, show nd - 1 - (nd - (i3 + 1)) = i3 by omega, ← hs1, ← hs2, if_neg c5, ← hs1]) (by rw [show nd - i3 = nd - (i3 + 1) + 1 by omega, fall3M, show nd - 1 - (nd - (i3 + 1)) = i3 by omega, ← hs1, ← hs2, if_neg c5, ← hs2]) (by rw [show nd - i3 = nd - (i3 + 1) + 1 by omega, fall3M, show nd - 1 - (nd - (i3 + 1)) = i3 by omega, ← hs1, ← hs2, if_neg c5, ← hs3]) (hb2) H locs hP hD hS ls (lv_sub hl [1, 0] rfl)
              · have hok3 : undoOk M2 n2 (nI i3) := by
                  have hh := hok.2 (nd - (i3 + 1)) (by omega)
                  rw [show nd - 1 - (nd - (i3 + 1)) = i3 by omega, ← hs1, ← hs2] at hh
                  exact hh c5
                refine lv_aload_n hx hb dX1_fall_155 rfl (lv_at hl 0 rfl) ?_
                refine lv_dup hx hb dX1_fall_156 rfl ?_
                refine va_get (D := D) (ci := 1) (v := .int ba2) (C := RX1) (T := TX1) (N := 15) hx hb hts inX1_fall_1 hown hK.1 hP 0 rfl rfl 13 (by decide) (hts (.fieldLink RX1 100 "ChalkSlateModel$State" "back" "I") (by decide +kernel)) (fun _ h9 => h9) rfl dX1_fall_157 ?_
                refine lv_aload_n hx hb dX1_fall_160 rfl (lv_at hl 0 rfl) ?_
                refine lv_iload_n hx hb dX1_fall_161 rfl (lv_at hl 1 rfl) ?_
                refine wr_VI (q := (RX1, TX1, 15)) (ci := 1) (q0 := 0) (ws0' := cSM q b cy (undoMR M2 n2 (nI i3)) (undoMN M2 n2 (nI i3)) dr ((fallM2 M dr).2.1) ((fallM2 M dr).2.2) ba2 mo th nd fl sq tq) (As := [.int (nI i3)]) (rest := [.int ba2, .ref q]) ⟨hx, hb, hml, hown, hts⟩ (fun sz => mX1_undo l D cy q b M2 n2 dr ((fallM2 M dr).2.1) ((fallM2 M dr).2.2) ba2 mo th nd fl sq tq (nI i3) (by omega) (by omega) (by omega) hok3 sz) (cwV 1 hts gX1_fall_X1_undo rfl rfl rfl (by decide +kernel) ⟨Nat.le_of_ble_eq_true rfl, Nat.le_of_ble_eq_true rfl⟩) hP hK hD hS hA [0, 1, 2, 3, 4, 5, 6, 7, 8, 9, 10] [] [0, 1, 2, 3, 4, 5, 6, 7, 8, 9, 10] rfl rfl rfl (by decide) rfl rfl rfl rfl rfl rfl rfl hl.1 rfl (Nat.le_of_ble_eq_true rfl) dX1_fall_162 (Nat.zero_le _) (Nat.zero_le _) (fun H locs hP hD hS => ?_)
                refine lv_iadd hx hb dX1_fall_165 ?_
                refine va_put (D := D) (ci := 1) (v := .int (ba2 + (undoMC M2 n2 (nI i3)))) (ty := .int) (C := RX1) (T := TX1) (N := 15) hx hb hts inX1_fall_1 tyX1 tyX1_ok nmX1 hown hK.1 hP hD hS 0 rfl rfl 13 (by decide) (hts (.fieldLink RX1 100 "ChalkSlateModel$State" "back" "I") (by decide +kernel)) (fun _ h9 => h9) rfl (by decide +kernel) rfl rfl (Nat.le_of_ble_eq_true rfl) dX1_fall_166 (fun H locs hP hD hS => ?_)
                have hP : va_P D vwCl (cSM q b cy (undoMR M2 n2 (nI i3)) (undoMN M2 n2 (nI i3)) dr ((fallM2 M dr).2.1) ((fallM2 M dr).2.2) (ba2 + (undoMC M2 n2 (nI i3))) mo th nd fl sq tq) H := hP
                have hD : va_D A (cSM q b cy (undoMR M2 n2 (nI i3)) (undoMN M2 n2 (nI i3)) dr ((fallM2 M dr).2.1) ((fallM2 M dr).2.2) (ba2 + (undoMC M2 n2 (nI i3))) mo th nd fl sq tq) := hD
                refine lv_iinc (v := (nI i3) + (-1)) (lv' := [(1, .int ((nI i3) + (-1))), (0, .ref q)]) hx hb dX1_fall_169 hl (k := 1) rfl (rfl) (by decide) rfl (fun ls hl => ?_)
                refine lv_goto (tgt := 143) hx hb dX1_fall_172 (by decide) ?_
                exact ih3 _ (undoMR M2 n2 (nI i3)) (undoMN M2 n2 (nI i3)) (ba2 + (undoMC M2 n2 (nI i3))) (by omega) (add_m1 _) (by rw [show nd - i3 = nd - (i3 + 1) + 1 by omega, fall3M, show nd - 1 - (nd - (i3 + 1)) = i3 by omega, ← hs1, ← hs2, if_pos c5]) (by rw [show nd - i3 = nd - (i3 + 1) + 1 by omega, fall3M, show nd - 1 - (nd - (i3 + 1)) = i3 by omega, ← hs1, ← hs2, if_pos c5]) (by rw [show nd - i3 = nd - (i3 + 1) + 1 by omega, fall3M, show nd - 1 - (nd - (i3 + 1)) = i3 by omega, ← hs1, ← hs2, if_pos c5, ← hs3]) (by have := hok3.1 n2 (Nat.le_refl _); unfold undoMN; omega) H locs hP hD hS ls (lv_sub hl [1, 0] rfl)
          rw [show an1 = (fallM2 M dr).2.1 by rw [hm2, hin2], show fi1 = (fallM2 M dr).2.2 by rw [hm3, hin2]] at hP hD
          exact loop3 nd _ M1 dr 0 (Nat.le_refl _) rfl (by rw [Nat.sub_self, hm1, hin2]; rfl) (by rw [Nat.sub_self]; rfl) (by rw [Nat.sub_self]; rfl) (hdr) H locs hP hD hS ls (lv_sub hl [1, 0] rfl)
        | succ k2 ih2 =>
          intro i2 M1 an1 fi1 hik2 hm1 hm2 hm3 H locs hP hD hS ls hl
          refine lv_iload_n hx hb dX1_fall_51 rfl (lv_at hl 1 rfl) ?_
          refine lv_aload_n hx hb dX1_fall_52 rfl (lv_at hl 0 rfl) ?_
          refine va_get (D := D) (ci := 1) (v := .int (nI dr)) (C := RX1) (T := TX1) (N := 15) hx hb hts inX1_fall_1 hown hK.1 hP 0 rfl rfl 0 (by decide) (hts (.fieldLink RX1 49 "ChalkSlateModel$State" "lines" "I") (by decide +kernel)) (fun _ h9 => h9) rfl dX1_fall_53 ?_
          refine lv_icmp_ge (tgt := 133) hx hb dX1_fall_56 (by decide) (fun c6 => absurd c6 (nI_ge (by omega) (by omega))) (fun c6 => ?_)
          refine lv_aload_n hx hb dX1_fall_59 rfl (lv_at hl 0 rfl) ?_
          refine va_get (D := D) (ci := 1) (v := .ref (b 6)) (C := RX1) (T := TX1) (N := 15) hx hb hts inX1_fall_1 hown hK.1 hP 0 rfl rfl 7 (by decide) (hts (.fieldLink RX1 31 "ChalkSlateModel$State" "pot" "[I") (by decide +kernel)) (fun _ h9 => h9) rfl dX1_fall_60 ?_
          refine lv_iload_n hx hb dX1_fall_63 rfl (lv_at hl 1 rfl) ?_
          refine va_iald hx hb hK.1 hP 6 0 rfl rfl (vp_in_nI (by omega) (by omega)) dX1_fall_64 ?_
          rw [nI_clamp (n := i2) (by omega)]
          refine lv_iconst (v := (-1)) hx hb dX1_fall_65 (by decide) ?_
          refine lv_icmp_eq (tgt := 127) hx hb dX1_fall_66 (by decide) (fun c7 => ?_) (fun c7 => ?_)
          · refine lv_iinc (v := nI (i2 + 1)) (lv' := [(1, .int (nI (i2 + 1))), (0, .ref q)]) hx hb dX1_fall_127 hl (k := 1) rfl ((nI_succ i2).symm) (by decide) rfl (fun ls hl => ?_)
            refine lv_goto (tgt := 51) hx hb dX1_fall_130 (by decide) ?_
            exact ih2 (i2 + 1) M1 an1 fi1 (by omega) (by rw [fall2M, ← hm1, if_pos c7, ← hm1]) (by rw [fall2M, ← hm1, if_pos c7, ← hm2]) (by rw [fall2M, ← hm1, if_pos c7, ← hm3]) H locs hP hD hS ls (lv_sub hl [1, 0] rfl)
          · have hpin : vp_in (M1 6 i2) 8 := by rw [hm1]; refine hok.1 i2 (by omega) ?_; rw [← hm1]; exact c7
            refine lv_iload_n hx hb dX1_fall_69 rfl (lv_at hl 1 rfl) ?_
            refine lv_aload_n hx hb dX1_fall_70 rfl (lv_at hl 0 rfl) ?_
            refine va_get (D := D) (ci := 1) (v := .ref (b 2)) (C := RX1) (T := TX1) (N := 15) hx hb hts inX1_fall_1 hown hK.1 hP 0 rfl rfl 4 (by decide) (hts (.fieldLink RX1 22 "ChalkSlateModel$State" "stamp" "[I") (by decide +kernel)) (fun _ h9 => h9) rfl dX1_fall_71 ?_
            refine lv_aload_n hx hb dX1_fall_74 rfl (lv_at hl 0 rfl) ?_
            refine va_get (D := D) (ci := 1) (v := .ref (b 6)) (C := RX1) (T := TX1) (N := 15) hx hb hts inX1_fall_1 hown hK.1 hP 0 rfl rfl 7 (by decide) (hts (.fieldLink RX1 31 "ChalkSlateModel$State" "pot" "[I") (by decide +kernel)) (fun _ h9 => h9) rfl dX1_fall_75 ?_
            refine lv_iload_n hx hb dX1_fall_78 rfl (lv_at hl 1 rfl) ?_
            refine va_iald hx hb hK.1 hP 6 0 rfl rfl (vp_in_nI (by omega) (by omega)) dX1_fall_79 ?_
            rw [nI_clamp (n := i2) (by omega)]
            refine va_iald hx hb hK.1 hP 3 0 rfl rfl hpin dX1_fall_80 ?_
            refine lv_icmp_gt (tgt := 87) hx hb dX1_fall_81 (by decide) (fun c8 => ?_) (fun c8 => ?_)
            · refine lv_aload_n hx hb dX1_fall_87 rfl (lv_at hl 0 rfl) ?_
              refine va_get (D := D) (ci := 1) (v := .ref (b 0)) (C := RX1) (T := TX1) (N := 15) hx hb hts inX1_fall_1 hown hK.1 hP 0 rfl rfl 2 (by decide) (hts (.fieldLink RX1 15 "ChalkSlateModel$State" "stove" "[I") (by decide +kernel)) (fun _ h9 => h9) rfl dX1_fall_88 ?_
              refine lv_aload_n hx hb dX1_fall_91 rfl (lv_at hl 0 rfl) ?_
              refine va_get (D := D) (ci := 1) (v := .ref (b 6)) (C := RX1) (T := TX1) (N := 15) hx hb hts inX1_fall_1 hown hK.1 hP 0 rfl rfl 7 (by decide) (hts (.fieldLink RX1 31 "ChalkSlateModel$State" "pot" "[I") (by decide +kernel)) (fun _ h9 => h9) rfl dX1_fall_92 ?_
              refine lv_iload_n hx hb dX1_fall_95 rfl (lv_at hl 1 rfl) ?_
              refine va_iald hx hb hK.1 hP 6 0 rfl rfl (vp_in_nI (by omega) (by omega)) dX1_fall_96 ?_
              rw [nI_clamp (n := i2) (by omega)]
              refine lv_aload_n hx hb dX1_fall_97 rfl (lv_at hl 0 rfl) ?_
              refine va_get (D := D) (ci := 1) (v := .ref (b 8)) (C := RX1) (T := TX1) (N := 15) hx hb hts inX1_fall_1 hown hK.1 hP 0 rfl rfl 9 (by decide) (hts (.fieldLink RX1 37 "ChalkSlateModel$State" "behind" "[I") (by decide +kernel)) (fun _ h9 => h9) rfl dX1_fall_98 ?_
              refine lv_iload_n hx hb dX1_fall_101 rfl (lv_at hl 1 rfl) ?_
              refine va_iald hx hb hK.1 hP 8 0 rfl rfl (vp_in_nI (by omega) (by omega)) dX1_fall_102 ?_
              rw [nI_clamp (n := i2) (by omega)]
              refine va_iast hx hb hK.1 hP hD hS 1 0 rfl rfl hpin dX1_fall_103 (fun H locs hP hD hS => ?_)
              rw [cSM_set_0] at hP hD
              refine lv_aload_n hx hb dX1_fall_104 rfl (lv_at hl 0 rfl) ?_
              refine lv_dup hx hb dX1_fall_105 rfl ?_
              refine va_get (D := D) (ci := 1) (v := .int an1) (C := RX1) (T := TX1) (N := 15) hx hb hts inX1_fall_1 hown hK.1 hP 0 rfl rfl 11 (by decide) (hts (.fieldLink RX1 94 "ChalkSlateModel$State" "anew" "I") (by decide +kernel)) (fun _ h9 => h9) rfl dX1_fall_106 ?_
              refine lv_iconst (v := 1) hx hb dX1_fall_109 (by decide) ?_
              refine lv_iadd hx hb dX1_fall_110 ?_
              refine va_put (D := D) (ci := 1) (v := .int (an1 + 1)) (ty := .int) (C := RX1) (T := TX1) (N := 15) hx hb hts inX1_fall_1 tyX1 tyX1_ok nmX1 hown hK.1 hP hD hS 0 rfl rfl 11 (by decide) (hts (.fieldLink RX1 94 "ChalkSlateModel$State" "anew" "I") (by decide +kernel)) (fun _ h9 => h9) rfl (by decide +kernel) rfl rfl (Nat.le_of_ble_eq_true rfl) dX1_fall_111 (fun H locs hP hD hS => ?_)
              have hP : va_P D vwCl (cSM q b cy (setM M1 0 (((M1 6) i2).toNatClampNeg) ((M1 8) i2)) dr dr (an1 + 1) fi1 0 mo th nd fl sq tq) H := hP
              have hD : va_D A (cSM q b cy (setM M1 0 (((M1 6) i2).toNatClampNeg) ((M1 8) i2)) dr dr (an1 + 1) fi1 0 mo th nd fl sq tq) := hD
              refine lv_aload_n hx hb dX1_fall_114 rfl (lv_at hl 0 rfl) ?_
              refine va_get (D := D) (ci := 1) (v := .int fi1) (C := RX1) (T := TX1) (N := 15) hx hb hts inX1_fall_1 hown hK.1 hP 0 rfl rfl 12 (by decide) (hts (.fieldLink RX1 97 "ChalkSlateModel$State" "first" "I") (by decide +kernel)) (fun _ h9 => h9) rfl dX1_fall_115 ?_
              refine lv_iconst (v := (-1)) hx hb dX1_fall_118 (by decide) ?_
              refine lv_icmp_ne (tgt := 127) hx hb dX1_fall_119 (by decide) (fun c9 => ?_) (fun c9 => ?_)
              · refine lv_iinc (v := nI (i2 + 1)) (lv' := [(1, .int (nI (i2 + 1))), (0, .ref q)]) hx hb dX1_fall_127 hl (k := 1) rfl ((nI_succ i2).symm) (by decide) rfl (fun ls hl => ?_)
                refine lv_goto (tgt := 51) hx hb dX1_fall_130 (by decide) ?_
                exact ih2 (i2 + 1) (setM M1 0 (((M1 6) i2).toNatClampNeg) ((M1 8) i2)) (an1 + 1) fi1 (by omega) (by rw [fall2M, ← hm1, ← hm2, ← hm3, if_neg c7, if_pos c8]) (by rw [fall2M, ← hm1, ← hm2, ← hm3, if_neg c7, if_pos c8]) (by rw [fall2M, ← hm1, ← hm2, ← hm3, if_neg c7, if_pos c8, if_neg c9]) H locs hP hD hS ls (lv_sub hl [1, 0] rfl)
              · refine lv_aload_n hx hb dX1_fall_122 rfl (lv_at hl 0 rfl) ?_
                refine lv_iload_n hx hb dX1_fall_123 rfl (lv_at hl 1 rfl) ?_
                refine va_put (D := D) (ci := 1) (v := .int (nI i2)) (ty := .int) (C := RX1) (T := TX1) (N := 15) hx hb hts inX1_fall_1 tyX1 tyX1_ok nmX1 hown hK.1 hP hD hS 0 rfl rfl 12 (by decide) (hts (.fieldLink RX1 97 "ChalkSlateModel$State" "first" "I") (by decide +kernel)) (fun _ h9 => h9) rfl (by decide +kernel) rfl rfl (Nat.le_of_ble_eq_true rfl) dX1_fall_124 (fun H locs hP hD hS => ?_)
                have hP : va_P D vwCl (cSM q b cy (setM M1 0 (((M1 6) i2).toNatClampNeg) ((M1 8) i2)) dr dr (an1 + 1) (nI i2) 0 mo th nd fl sq tq) H := hP
                have hD : va_D A (cSM q b cy (setM M1 0 (((M1 6) i2).toNatClampNeg) ((M1 8) i2)) dr dr (an1 + 1) (nI i2) 0 mo th nd fl sq tq) := hD
                refine lv_iinc (v := nI (i2 + 1)) (lv' := [(1, .int (nI (i2 + 1))), (0, .ref q)]) hx hb dX1_fall_127 hl (k := 1) rfl ((nI_succ i2).symm) (by decide) rfl (fun ls hl => ?_)
                refine lv_goto (tgt := 51) hx hb dX1_fall_130 (by decide) ?_
                exact ih2 (i2 + 1) (setM M1 0 (((M1 6) i2).toNatClampNeg) ((M1 8) i2)) (an1 + 1) (nI i2) (by omega) (by rw [fall2M, ← hm1, ← hm2, ← hm3, if_neg c7, if_pos c8]) (by rw [fall2M, ← hm1, ← hm2, ← hm3, if_neg c7, if_pos c8]) (by rw [fall2M, ← hm1, ← hm2, ← hm3, if_neg c7, if_pos c8, if_pos c9]) H locs hP hD hS ls (lv_sub hl [1, 0] rfl)
            · refine lv_goto (tgt := 127) hx hb dX1_fall_84 (by decide) ?_
              refine lv_iinc (v := nI (i2 + 1)) (lv' := [(1, .int (nI (i2 + 1))), (0, .ref q)]) hx hb dX1_fall_127 hl (k := 1) rfl ((nI_succ i2).symm) (by decide) rfl (fun ls hl => ?_)
              refine lv_goto (tgt := 51) hx hb dX1_fall_130 (by decide) ?_
              exact ih2 (i2 + 1) M1 an1 fi1 (by omega) (by rw [fall2M, ← hm1, if_neg c7, if_neg c8, ← hm1]) (by rw [fall2M, ← hm1, if_neg c7, if_neg c8, ← hm2]) (by rw [fall2M, ← hm1, if_neg c7, if_neg c8, ← hm3]) H locs hP hD hS ls (lv_sub hl [1, 0] rfl)
      exact loop2 dr 0 M0 0 (-1) (Nat.zero_add _) (by rw [hM, hin1]; rfl) (rfl) (rfl) H locs hP hD hS ls (lv_sub hl [1, 0] rfl)
    | succ k1 ih1 =>
      intro i1 M0 hik1 hM H locs hP hD hS ls hl
      refine lv_iload_n hx hb dX1_fall_25 rfl (lv_at hl 1 rfl) ?_
      refine lv_bipush (v := 8) hx hb dX1_fall_26 (by decide) ?_
      refine lv_icmp_ge (tgt := 49) hx hb dX1_fall_28 (by decide) (fun c10 => absurd c10 (nI_ge (b := 8) (by omega) (by omega))) (fun c10 => ?_)
      refine lv_aload_n hx hb dX1_fall_31 rfl (lv_at hl 0 rfl) ?_
      refine va_get (D := D) (ci := 1) (v := .ref (b 0)) (C := RX1) (T := TX1) (N := 15) hx hb hts inX1_fall_1 hown hK.1 hP 0 rfl rfl 2 (by decide) (hts (.fieldLink RX1 15 "ChalkSlateModel$State" "stove" "[I") (by decide +kernel)) (fun _ h9 => h9) rfl dX1_fall_32 ?_
      refine lv_iload_n hx hb dX1_fall_35 rfl (lv_at hl 1 rfl) ?_
      refine lv_aload_n hx hb dX1_fall_36 rfl (lv_at hl 0 rfl) ?_
      refine va_get (D := D) (ci := 1) (v := .ref (b 1)) (C := RX1) (T := TX1) (N := 15) hx hb hts inX1_fall_1 hown hK.1 hP 0 rfl rfl 3 (by decide) (hts (.fieldLink RX1 19 "ChalkSlateModel$State" "shelf" "[I") (by decide +kernel)) (fun _ h9 => h9) rfl dX1_fall_37 ?_
      refine lv_iload_n hx hb dX1_fall_40 rfl (lv_at hl 1 rfl) ?_
      refine va_iald hx hb hK.1 hP 2 0 rfl rfl (vp_in_nI (by omega) (by omega)) dX1_fall_41 ?_
      rw [nI_clamp (n := i1) (by omega)]
      refine va_iast hx hb hK.1 hP hD hS 1 0 rfl rfl (vp_in_nI (by omega) (by omega)) dX1_fall_42 (fun H locs hP hD hS => ?_)
      rw [nI_clamp (n := i1) (by omega)] at hP hD
      rw [cSM_set_0] at hP hD
      refine lv_iinc (v := nI (i1 + 1)) (lv' := [(1, .int (nI (i1 + 1))), (0, .ref q)]) hx hb dX1_fall_43 hl (k := 1) rfl ((nI_succ i1).symm) (by decide) rfl (fun ls hl => ?_)
      refine lv_goto (tgt := 25) hx hb dX1_fall_46 (by decide) ?_
      exact ih1 (i1 + 1) (setM M0 0 i1 ((M0 1) i1)) (by omega) (by rw [fall1M, ← hM]) H locs hP hD hS ls (lv_sub hl [1, 0] rfl)
  exact loop1 8 0 M (Nat.zero_add _) (rfl) H locs hP hD hS ls (lv_sub hl [1, 0] rfl)
