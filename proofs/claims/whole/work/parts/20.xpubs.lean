theorem inxX0_begin_xISE : ∀ w ∈ (vx_atS RX0 57 xISE xNm).filter goodWord, w ∈ wsX0_begin := fun _ h => List.mem_cons_of_mem _ (List.mem_append_right _ h)

set_option maxRecDepth 100000 in
theorem inX0_begin_0 : ∀ w ∈ wsX00, w ∈ wsX0_begin := by decide +kernel

set_option maxHeartbeats 4000000 in
set_option maxRecDepth 100000 in
theorem mX0_begin_ok (l : Launch) (D : va_G) (cy : ClassId) (h : Nat) (a : Nat → Nat) (R : Nat → Nat → Int32) (nd n dr : Nat) (fl : Int32)  (hnd : nd < 1000000) (hn : n < 1000000) (hdr : dr < 1000000) (hout : beginX R n nd = 0) (hb1 : nd < 900000) (hb2 : n < 900000) (sz : Nat) : WrI l yX0_begin wsX0_begin 5 111 [.ref h] D cy (cC h a cy R nd n dr fl) (cC h a cy (chalkR (stepR R 3 20 (nI nd) 0) n (nI nd) 0) (nd + 1) (n + 1) dr fl) sz (nI nd) := by
  refine Met.ofW (cc := cX0_begin) (maxL := 2) (ret := (some .int)) (by decide) rfl ?_
  intro p e s m args below meth c s₁ B hml hv
  obtain ⟨rfl, hsz, hP, hK, hD0⟩ := hv
  have hx := B.exec
  have hb := B.bytes
  have hr := B.returns
  have hts := atoms_spec (ws := wsX0_begin) B.pre
  have hown : s.vm.findClass RX0 = some m.cls := findClass_of_methodNamed B.named
  have hlocks := B.notSynchronized
  subst hsz
  have hD := hD0.self (sz := s.heap.size)
  generalize hAe : va_A (cC h a cy R nd n dr fl) s.heap.size = A at hD ⊢
  have hA : ∀ q : Nat, s.heap.size ≤ q → A q := fun q h => by rw [← hAe]; exact Or.inr h
  have hS : va_S A s.heap s.heap [] := va_S.rf
  have hl := lv_entry ([.ref h]) (n := 2) (Nat.le_of_ble_eq_true rfl)
  rw [lg_entry_eq]
  generalize (lg_sl ([.ref h]) ++ List.replicate (2 - (lg_sl ([.ref h])).length) Slot.unset).toArray = ls at hl ⊢
  have hl : lv_has ls 2 [(0, .ref h)] := hl
  refine lv_aload_n hx hb dX0_begin_0 rfl (lv_at hl 0 rfl) ?_
  refine va_get (D := D) (ci := 0) (v := .int (nI nd)) (C := RX0) (T := TX0) (N := 15) hx hb hts inX0_begin_0 hown hK.1 hP 0 rfl rfl 4 (by decide) (hts (.fieldLink RX0 49 "ChalkSlate" "dishes" "I") (by decide +kernel)) (fun _ h9 => h9) rfl dX0_begin_1 ?_
  refine lv_bipush (v := 20) hx hb dX0_begin_4 (by decide) ?_
  refine lv_icmp_lt (tgt := 19) hx hb dX0_begin_6 (by decide) (fun c1 => ?_) (fun c1 => ?_)
  · refine lv_aload_n hx hb dX0_begin_19 rfl (lv_at hl 0 rfl) ?_
    refine rd_V (q := (RX0, TX0, 15)) (ci := 0) (q0 := 0) (As := []) (rest := []) ⟨hx, hb, hml, hown, hts⟩ (mX0_roomLeft l D cy h a R nd n dr fl  (by omega) (by omega) (by omega) ) (cwV 0 hts gX0_begin_X0_roomLeft rfl rfl rfl (by decide +kernel) ⟨Nat.le_of_ble_eq_true rfl, Nat.le_of_ble_eq_true rfl⟩) hP hK rfl rfl rfl hl.1 rfl (Nat.le_of_ble_eq_true rfl) dX0_begin_20 (Nat.zero_le _) (Nat.zero_le _) ?_
    refine lv_iconst (v := 2) hx hb dX0_begin_23 (by decide) ?_
    refine lv_icmp_ge (tgt := 37) hx hb dX0_begin_24 (by decide) (fun c2 => ?_) (fun c2 => ?_)
    · refine lv_aload_n hx hb dX0_begin_37 rfl (lv_at hl 0 rfl) ?_
      refine va_get (D := D) (ci := 0) (v := .int (nI nd)) (C := RX0) (T := TX0) (N := 15) hx hb hts inX0_begin_0 hown hK.1 hP 0 rfl rfl 4 (by decide) (hts (.fieldLink RX0 49 "ChalkSlate" "dishes" "I") (by decide +kernel)) (fun _ h9 => h9) rfl dX0_begin_38 ?_
      refine lv_istore_n (lv' := [(1, .int (nI nd)), (0, .ref h)]) hx hb dX0_begin_41 rfl hl (by decide) rfl (fun ls hl => ?_)
      refine lv_aload_n hx hb dX0_begin_42 rfl (lv_at hl 1 rfl) ?_
      refine lv_dup hx hb dX0_begin_43 rfl ?_
      refine va_get (D := D) (ci := 0) (v := .int (nI nd)) (C := RX0) (T := TX0) (N := 15) hx hb hts inX0_begin_0 hown hK.1 hP 0 rfl rfl 4 (by decide) (hts (.fieldLink RX0 49 "ChalkSlate" "dishes" "I") (by decide +kernel)) (fun _ h9 => h9) rfl dX0_begin_44 ?_
      refine lv_iconst (v := 1) hx hb dX0_begin_47 (by decide) ?_
      refine lv_iadd hx hb dX0_begin_48 ?_
      rw [show ((nI nd) + 1) = nI (nd + 1) from (nI_succ nd).symm]
      refine va_put (D := D) (ci := 0) (v := .int (nI (nd + 1))) (ty := .int) (C := RX0) (T := TX0) (N := 15) hx hb hts inX0_begin_0 tyX0 tyX0_ok nmX0 hown hK.1 hP hD hS 0 rfl rfl 4 (by decide) (hts (.fieldLink RX0 49 "ChalkSlate" "dishes" "I") (by decide +kernel)) (fun _ h9 => h9) rfl (by decide +kernel) rfl rfl (Nat.le_of_ble_eq_true rfl) dX0_begin_49 (fun H locs hP hD hS => ?_)
      have hP : va_P D vwCl (cC h a cy R (nd + 1) n dr fl) H := hP
      have hD : va_D A (cC h a cy R (nd + 1) n dr fl) := hD
      refine lv_aload_n hx hb dX0_begin_52 rfl (lv_at hl 1 rfl) ?_
      refine va_get (D := D) (ci := 0) (v := .ref (a 3)) (C := RX0) (T := TX0) (N := 15) hx hb hts inX0_begin_0 hown hK.1 hP 0 rfl rfl 3 (by decide) (hts (.fieldLink RX0 19 "ChalkSlate" "dishState" "[I") (by decide +kernel)) (fun _ h9 => h9) rfl dX0_begin_53 ?_
      refine lv_iload_n hx hb dX0_begin_56 rfl (lv_at hl 0 rfl) ?_
      refine lv_iconst (v := 0) hx hb dX0_begin_57 (by decide) ?_
      refine put_3 (rest := []) ⟨hx, hb, hml, hown, hts⟩ (va_cwS 3 hts gX0_begin_X0_put rfl rfl rfl (by decide +kernel) ⟨Nat.le_of_ble_eq_true rfl, Nat.le_of_ble_eq_true rfl⟩) hP hK hD hS hA hl.1 rfl (Nat.le_of_ble_eq_true rfl) dX0_begin_58 (Nat.zero_le _) (Nat.zero_le _) (fun H locs hP hD hS => ?_)
      refine lv_aload_n hx hb dX0_begin_61 rfl (lv_at hl 1 rfl) ?_
      refine lv_iload_n hx hb dX0_begin_62 rfl (lv_at hl 0 rfl) ?_
      refine lv_iconst (v := 0) hx hb dX0_begin_63 (by decide) ?_
      refine wr_VV (q := (RX0, TX0, 15)) (ci := 0) (q0 := 0) (ws0' := cC h a cy (chalkR (stepR R 3 20 (nI nd) 0) n (nI nd) 0) (nd + 1) (n + 1) dr fl) (As := [.int (nI nd), .int 0]) (rest := []) ⟨hx, hb, hml, hown, hts⟩ (fun sz => mX0_chalk l D cy h a (stepR R 3 20 (nI nd) 0) (nd + 1) n dr fl (nI nd) 0 (by omega) (by omega) (by omega)  sz) (cwV 2 hts gX0_begin_X0_chalk rfl rfl rfl (by decide +kernel) ⟨Nat.le_of_ble_eq_true rfl, Nat.le_of_ble_eq_true rfl⟩) hP hK hD hS hA [0, 1, 2, 3, 4, 5, 6, 7, 8, 9, 10, 11] [] [0, 1, 2, 3, 4, 5, 6, 7, 8, 9, 10, 11] rfl rfl rfl (by decide) rfl rfl rfl rfl rfl rfl rfl hl.1 rfl (Nat.le_of_ble_eq_true rfl) dX0_begin_64 (Nat.zero_le _) (Nat.zero_le _) (fun H locs hP hD hS => ?_)
      refine lv_iload_n hx hb dX0_begin_67 rfl (lv_at hl 0 rfl) ?_
      exact W.iret (v := nI nd) hx hb hr (fun t ht hW => ⟨⟨(nI nd), (), rfl, rfl, by show va_P D vwCl _ t.heap; rw [ht]; exact hP⟩, hS.F ht⟩) hS.2.2 dX0_begin_68
    · exact absurd (show (0 : Int32) = 1 by rw [← hout, beginX, if_pos c1, if_neg c2]) (by decide)
  · exact absurd (show (0 : Int32) = 1 by rw [← hout, beginX, if_neg c1]) (by decide)

set_option maxHeartbeats 4000000 in
set_option maxRecDepth 100000 in
theorem mX0_begin_t1 (l : Launch) (hfl : l.stackTraces = false) (D : va_G) (cy : ClassId) (h : Nat) (a : Nat → Nat) (R : Nat → Nat → Int32) (nd n dr : Nat) (fl : Int32)  (hnd : nd < 1000000) (hn : n < 1000000) (hdr : dr < 1000000) (hout : beginX R n nd = 1) (sz : Nat) : ThX l yX0_begin wsX0_begin 6 111 [.ref h] D cy (cC h a cy R nd n dr fl) sz xISE := by
  refine vx_ofW (cc := cX0_begin) (maxL := 2) (ret := (some .int)) (by decide) rfl ?_
  intro p e s m args below meth c s₁ B hml hno hv
  obtain ⟨rfl, ⟨hsz, hP, hK, hD0⟩, hX⟩ := hv
  have hx := B.exec
  have hb := B.bytes
  have hr := B.returns
  have hts := atoms_spec (ws := wsX0_begin) B.pre
  have hown : s.vm.findClass RX0 = some m.cls := findClass_of_methodNamed B.named
  have hlocks := B.notSynchronized
  subst hsz
  have hD := hD0.self (sz := s.heap.size)
  generalize hAe : va_A (cC h a cy R nd n dr fl) s.heap.size = A at hD hX ⊢
  have hA : ∀ q : Nat, s.heap.size ≤ q → A q := fun q h => by rw [← hAe]; exact Or.inr h
  have hS : va_S A s.heap s.heap [] := va_S.rf
  have hl := lv_entry ([.ref h]) (n := 2) (Nat.le_of_ble_eq_true rfl)
  rw [lg_entry_eq]
  generalize (lg_sl ([.ref h]) ++ List.replicate (2 - (lg_sl ([.ref h])).length) Slot.unset).toArray = ls at hl ⊢
  have hl : lv_has ls 2 [(0, .ref h)] := hl
  refine lv_aload_n hx hb dX0_begin_0 rfl (lv_at hl 0 rfl) ?_
  refine va_get (D := D) (ci := 0) (v := .int (nI nd)) (C := RX0) (T := TX0) (N := 15) hx hb hts inX0_begin_0 hown hK.1 hP 0 rfl rfl 4 (by decide) (hts (.fieldLink RX0 49 "ChalkSlate" "dishes" "I") (by decide +kernel)) (fun _ h9 => h9) rfl dX0_begin_1 ?_
  refine lv_bipush (v := 20) hx hb dX0_begin_4 (by decide) ?_
  refine lv_icmp_lt (tgt := 19) hx hb dX0_begin_6 (by decide) (fun c1 => ?_) (fun c1 => ?_)
  · refine lv_aload_n hx hb dX0_begin_19 rfl (lv_at hl 0 rfl) ?_
    refine rd_V (q := (RX0, TX0, 15)) (ci := 0) (q0 := 0) (As := []) (rest := []) ⟨hx, hb, hml, hown, hts⟩ (mX0_roomLeft l D cy h a R nd n dr fl  (by omega) (by omega) (by omega) ) (cwV 0 hts gX0_begin_X0_roomLeft rfl rfl rfl (by decide +kernel) ⟨Nat.le_of_ble_eq_true rfl, Nat.le_of_ble_eq_true rfl⟩) hP hK rfl rfl rfl hl.1 rfl (Nat.le_of_ble_eq_true rfl) dX0_begin_20 (Nat.zero_le _) (Nat.zero_le _) ?_
    refine lv_iconst (v := 2) hx hb dX0_begin_23 (by decide) ?_
    refine lv_icmp_ge (tgt := 37) hx hb dX0_begin_24 (by decide) (fun c2 => ?_) (fun c2 => ?_)
    · exact absurd (show (1 : Int32) = 0 by rw [← hout, beginX, if_pos c1, if_pos c2]) (by decide)
    · obtain ⟨sa, hsa⟩ := hX.2.2.2.2.2.2.1
      exact vx_throwS (A := A) (own := RX0) (cls := xISE) (text := "no room for the line") (names := xNm) (ik := 53) (is := 64) (ic := 57) hx hb hfl hown (by decide +kernel) (by decide +kernel) (hts (.classLink RX0 53 xISE) (by decide +kernel)) (hts (.initialized xISE) (by decide +kernel)) hsa (vx_hat (L := vx_atS RX0 57 xISE xNm) (fun w h => hts w (inxX0_begin_xISE w h)) xn_ISE (vx_c (va_Nw.use rfl hX.2.2.1) (vx_c (va_Nw.use rfl hX.2.2.2.2.2.2.2.2.2.2.2.2.2.2.2.2.2.1) (vx_c (va_Nw.use rfl hX.2.2.2.2.2.2.2.2.2.2.2.2.2.2.2.2.2.2.1) (vx_c (va_Nw.use rfl hX.2.2.2.2.2.2.2.2.2.2.2.2.2.2.2.2.2.2.2) vx_n))))) (List.forall_mem_cons.mpr ⟨rfl, List.forall_mem_cons.mpr ⟨rfl, xg_ISE⟩⟩) hX.1 hX.2.1 hS (hl.1.trans hml.symm) dX0_begin_27 dX0_begin_30 dX0_begin_31 dX0_begin_33 dX0_begin_36 (fun x h => (hno x h).elim) (Nat.le_of_ble_eq_true rfl) (Nat.le_of_ble_eq_true rfl) (Nat.le_of_ble_eq_true rfl) (Nat.le_of_ble_eq_true rfl) hlocks (fun t hvm hz hk => ⟨(), trivial, ⟨rfl, P_ext hP hk⟩, F_ext hS hz hk⟩) hS.2.2 (Nat.le_of_ble_eq_true rfl) (Nat.le_of_ble_eq_true rfl)
  · obtain ⟨sa, hsa⟩ := hX.2.2.2.2.2.1
    exact vx_throwS (A := A) (own := RX0) (cls := xISE) (text := "there were 20 dishes") (names := xNm) (ik := 53) (is := 55) (ic := 57) hx hb hfl hown (by decide +kernel) (by decide +kernel) (hts (.classLink RX0 53 xISE) (by decide +kernel)) (hts (.initialized xISE) (by decide +kernel)) hsa (vx_hat (L := vx_atS RX0 57 xISE xNm) (fun w h => hts w (inxX0_begin_xISE w h)) xn_ISE (vx_c (va_Nw.use rfl hX.2.2.1) (vx_c (va_Nw.use rfl hX.2.2.2.2.2.2.2.2.2.2.2.2.2.2.2.2.2.1) (vx_c (va_Nw.use rfl hX.2.2.2.2.2.2.2.2.2.2.2.2.2.2.2.2.2.2.1) (vx_c (va_Nw.use rfl hX.2.2.2.2.2.2.2.2.2.2.2.2.2.2.2.2.2.2.2) vx_n))))) (List.forall_mem_cons.mpr ⟨rfl, List.forall_mem_cons.mpr ⟨rfl, xg_ISE⟩⟩) hX.1 hX.2.1 hS (hl.1.trans hml.symm) dX0_begin_9 dX0_begin_12 dX0_begin_13 dX0_begin_15 dX0_begin_18 (fun x h => (hno x h).elim) (Nat.le_of_ble_eq_true rfl) (Nat.le_of_ble_eq_true rfl) (Nat.le_of_ble_eq_true rfl) (Nat.le_of_ble_eq_true rfl) hlocks (fun t hvm hz hk => ⟨(), trivial, ⟨rfl, P_ext hP hk⟩, F_ext hS hz hk⟩) hS.2.2 (Nat.le_of_ble_eq_true rfl) (Nat.le_of_ble_eq_true rfl)

theorem inxX0_cook_xIOB : ∀ w ∈ (vx_atS RX0 85 xIOB xNm).filter goodWord, w ∈ wsX0_cook := fun _ h => List.mem_cons_of_mem _ (List.mem_append_left _ (List.mem_append_left _ (List.mem_append_right _ h)))
theorem inxX0_cook_xIAE : ∀ w ∈ (vx_atS RX0 90 xIAE xNm).filter goodWord, w ∈ wsX0_cook := fun _ h => List.mem_cons_of_mem _ (List.mem_append_left _ (List.mem_append_right _ h))
theorem inxX0_cook_xISE : ∀ w ∈ (vx_atS RX0 57 xISE xNm).filter goodWord, w ∈ wsX0_cook := fun _ h => List.mem_cons_of_mem _ (List.mem_append_right _ h)

set_option maxRecDepth 100000 in
theorem inX0_cook_0 : ∀ w ∈ wsX00, w ∈ wsX0_cook := by decide +kernel

set_option maxHeartbeats 4000000 in
set_option maxRecDepth 100000 in
theorem mX0_cook_ok (l : Launch) (D : va_G) (cy : ClassId) (h : Nat) (a : Nat → Nat) (R : Nat → Nat → Int32) (nd n dr : Nat) (fl : Int32) (d u x : Int32) (hnd : nd < 1000000) (hn : n < 1000000) (hdr : dr < 1000000) (hout : cookX R n nd d u x = 0) (sz : Nat) : WrI l yX0_cook wsX0_cook 5 111 [.ref h, .int d, .int u, .int x] D cy (cC h a cy R nd n dr fl) (cC h a cy (spoonsR R n d 1 u x) nd (n + 1) dr fl) sz (atS 8 (R 0) u) := by
  refine Met.ofW (cc := cX0_cook) (maxL := 6) (ret := (some .int)) (by decide) rfl ?_
  intro p e s m args below meth c s₁ B hml hv
  obtain ⟨rfl, hsz, hP, hK, hD0⟩ := hv
  have hx := B.exec
  have hb := B.bytes
  have hr := B.returns
  have hts := atoms_spec (ws := wsX0_cook) B.pre
  have hown : s.vm.findClass RX0 = some m.cls := findClass_of_methodNamed B.named
  have hlocks := B.notSynchronized
  subst hsz
  have hD := hD0.self (sz := s.heap.size)
  generalize hAe : va_A (cC h a cy R nd n dr fl) s.heap.size = A at hD ⊢
  have hA : ∀ q : Nat, s.heap.size ≤ q → A q := fun q h => by rw [← hAe]; exact Or.inr h
  have hS : va_S A s.heap s.heap [] := va_S.rf
  have hl := lv_entry ([.ref h, .int d, .int u, .int x]) (n := 6) (Nat.le_of_ble_eq_true rfl)
  rw [lg_entry_eq]
  generalize (lg_sl ([.ref h, .int d, .int u, .int x]) ++ List.replicate (6 - (lg_sl ([.ref h, .int d, .int u, .int x])).length) Slot.unset).toArray = ls at hl ⊢
  have hl : lv_has ls 6 [(0, .ref h), (1, .int d), (2, .int u), (3, .int x)] := hl
  refine lv_aload_n hx hb dX0_cook_0 rfl (lv_at hl 0 rfl) ?_
  refine lv_iload_n hx hb dX0_cook_1 rfl (lv_at hl 1 rfl) ?_
  refine rd_V (q := (RX0, TX0, 15)) (ci := 0) (q0 := 0) (As := [.int d]) (rest := []) ⟨hx, hb, hml, hown, hts⟩ (mX0_isDish l D cy h a R nd n dr fl d (by omega) (by omega) (by omega) ) (cwV 1 hts gX0_cook_X0_isDish rfl rfl rfl (by decide +kernel) ⟨Nat.le_of_ble_eq_true rfl, Nat.le_of_ble_eq_true rfl⟩) hP hK rfl rfl rfl hl.1 rfl (Nat.le_of_ble_eq_true rfl) dX0_cook_2 (Nat.zero_le _) (Nat.zero_le _) ?_
  refine lv_if_eq (tgt := 15) hx hb dX0_cook_5 (by decide) (fun c1 => ?_) (fun c1 => ?_)
  · exact absurd (show (0 : Int32) = 1 by rw [← hout, cookX, if_pos c1]) (by decide)
  · refine lv_iload_n hx hb dX0_cook_8 rfl (lv_at hl 2 rfl) ?_
    refine rd_S (As := [.int u]) (rest := []) ⟨hx, hb, hml, hown, hts⟩ (mX0_isPot l D cy u) (va_cwS 1 hts gX0_cook_X0_isPot rfl rfl rfl (by decide +kernel) ⟨Nat.le_of_ble_eq_true rfl, Nat.le_of_ble_eq_true rfl⟩) (hP.sub (ws' := []) [] rfl) hK rfl hl.1 rfl (Nat.le_of_ble_eq_true rfl) dX0_cook_9 (Nat.zero_le _) (Nat.zero_le _) ?_
    refine lv_if_ne (tgt := 25) hx hb dX0_cook_12 (by decide) (fun c2 => ?_) (fun c2 => ?_)
    · refine lv_iload_n hx hb dX0_cook_25 rfl (lv_at hl 3 rfl) ?_
      refine lv_if_lt (tgt := 36) hx hb dX0_cook_26 (by decide) (fun c3 => ?_) (fun c3 => ?_)
      · exact absurd (show (0 : Int32) = 2 by rw [← hout, cookX, if_neg c1, if_neg c2, if_pos c3]) (by decide)
      · refine lv_iload_n hx hb dX0_cook_29 rfl (lv_at hl 3 rfl) ?_
        refine lv_sipush (v := 999) hx hb dX0_cook_30 (by decide) ?_
        refine lv_icmp_le (tgt := 46) hx hb dX0_cook_33 (by decide) (fun c4 => ?_) (fun c4 => ?_)
        · refine lv_aload_n hx hb dX0_cook_46 rfl (lv_at hl 0 rfl) ?_
          refine lv_iload_n hx hb dX0_cook_47 rfl (lv_at hl 1 rfl) ?_
          refine rd_V (q := (RX0, TX0, 15)) (ci := 0) (q0 := 0) (As := [.int d]) (rest := []) ⟨hx, hb, hml, hown, hts⟩ (mX0_isOpen l D cy h a R nd n dr fl d (by omega) (by omega) (by omega) ) (cwV 1 hts gX0_cook_X0_isOpen rfl rfl rfl (by decide +kernel) ⟨Nat.le_of_ble_eq_true rfl, Nat.le_of_ble_eq_true rfl⟩) hP hK rfl rfl rfl hl.1 rfl (Nat.le_of_ble_eq_true rfl) dX0_cook_48 (Nat.zero_le _) (Nat.zero_le _) ?_
          refine lv_if_ne (tgt := 64) hx hb dX0_cook_51 (by decide) (fun c5 => ?_) (fun c5 => ?_)
          · refine lv_aload_n hx hb dX0_cook_64 rfl (lv_at hl 0 rfl) ?_
            refine lv_iload_n hx hb dX0_cook_65 rfl (lv_at hl 2 rfl) ?_
            refine rd_V (q := (RX0, TX0, 15)) (ci := 0) (q0 := 0) (As := [.int u]) (rest := []) ⟨hx, hb, hml, hown, hts⟩ (mX0_holderOf l D cy h a R nd n dr fl u (by omega) (by omega) (by omega) ) (cwV 1 hts gX0_cook_X0_holderOf rfl rfl rfl (by decide +kernel) ⟨Nat.le_of_ble_eq_true rfl, Nat.le_of_ble_eq_true rfl⟩) hP hK rfl rfl rfl hl.1 rfl (Nat.le_of_ble_eq_true rfl) dX0_cook_66 (Nat.zero_le _) (Nat.zero_le _) ?_
            refine lv_istore (lv' := [(4, .int (holderS R u n 0)), (0, .ref h), (1, .int d), (2, .int u), (3, .int x)]) hx hb dX0_cook_69 hl (by decide) rfl (fun ls hl => ?_)
            refine lv_iload hx hb dX0_cook_71 (lv_at hl 0 rfl) ?_
            refine lv_iconst (v := (-1)) hx hb dX0_cook_73 (by decide) ?_
            refine lv_icmp_eq (tgt := 93) hx hb dX0_cook_74 (by decide) (fun c6 => ?_) (fun c6 => ?_)
            · refine lv_aload_n hx hb dX0_cook_93 rfl (lv_at hl 1 rfl) ?_
              refine rd_V (q := (RX0, TX0, 15)) (ci := 0) (q0 := 0) (As := []) (rest := []) ⟨hx, hb, hml, hown, hts⟩ (mX0_roomLeft l D cy h a R nd n dr fl  (by omega) (by omega) (by omega) ) (cwV 0 hts gX0_cook_X0_roomLeft rfl rfl rfl (by decide +kernel) ⟨Nat.le_of_ble_eq_true rfl, Nat.le_of_ble_eq_true rfl⟩) hP hK rfl rfl rfl hl.1 rfl (Nat.le_of_ble_eq_true rfl) dX0_cook_94 (Nat.zero_le _) (Nat.zero_le _) ?_
              refine lv_iconst (v := 2) hx hb dX0_cook_97 (by decide) ?_
              refine lv_icmp_ge (tgt := 111) hx hb dX0_cook_98 (by decide) (fun c7 => ?_) (fun c7 => ?_)
              · refine lv_aload_n hx hb dX0_cook_111 rfl (lv_at hl 1 rfl) ?_
                refine va_get (D := D) (ci := 0) (v := .ref (a 0)) (C := RX0) (T := TX0) (N := 15) hx hb hts inX0_cook_0 hown hK.1 hP 0 rfl rfl 0 (by decide) (hts (.fieldLink RX0 9 "ChalkSlate" "stove" "[I") (by decide +kernel)) (fun _ h9 => h9) rfl dX0_cook_112 ?_
                refine lv_iload_n hx hb dX0_cook_115 rfl (lv_at hl 3 rfl) ?_
                refine rd_S (As := [.ref (a 0), .int u]) (rest := []) ⟨hx, hb, hml, hown, hts⟩ (mX0_at l D cy (a 0) 8 (R 0) u (Nat.le_of_ble_eq_true rfl)) (va_cwS 2 hts gX0_cook_X0_at rfl rfl rfl (by decide +kernel) ⟨Nat.le_of_ble_eq_true rfl, Nat.le_of_ble_eq_true rfl⟩) (hP.sub (ws' := [(a 0, .inl (cy, 8, .inl (R 0)))]) [1] rfl) hK rfl hl.1 rfl (Nat.le_of_ble_eq_true rfl) dX0_cook_116 (Nat.zero_le _) (Nat.zero_le _) ?_
                refine lv_istore (lv' := [(5, .int (atS 8 (R 0) u)), (4, .int (holderS R u n 0)), (0, .ref h), (1, .int d), (2, .int u), (3, .int x)]) hx hb dX0_cook_119 hl (by decide) rfl (fun ls hl => ?_)
                refine lv_aload_n hx hb dX0_cook_121 rfl (lv_at hl 2 rfl) ?_
                refine lv_iload_n hx hb dX0_cook_122 rfl (lv_at hl 3 rfl) ?_
                refine lv_iconst (v := 1) hx hb dX0_cook_123 (by decide) ?_
                refine lv_iload_n hx hb dX0_cook_124 rfl (lv_at hl 4 rfl) ?_
                refine lv_iload_n hx hb dX0_cook_125 rfl (lv_at hl 5 rfl) ?_
                refine wr_VV (q := (RX0, TX0, 15)) (ci := 0) (q0 := 0) (ws0' := cC h a cy (spoonsR R n d 1 u x) nd (n + 1) dr fl) (As := [.int d, .int 1, .int u, .int x]) (rest := []) ⟨hx, hb, hml, hown, hts⟩ (fun sz => mX0_chalkSpoons l D cy h a R nd n dr fl d 1 u x (by omega) (by omega) (by omega)  sz) (cwV 4 hts gX0_cook_X0_chalkSpoons rfl rfl rfl (by decide +kernel) ⟨Nat.le_of_ble_eq_true rfl, Nat.le_of_ble_eq_true rfl⟩) hP hK hD hS hA [0, 1, 2, 3, 4, 5, 6, 7, 8, 9, 10, 11] [] [0, 1, 2, 3, 4, 5, 6, 7, 8, 9, 10, 11] rfl rfl rfl (by decide) rfl rfl rfl rfl rfl rfl rfl hl.1 rfl (Nat.le_of_ble_eq_true rfl) dX0_cook_126 (Nat.zero_le _) (Nat.zero_le _) (fun H locs hP hD hS => ?_)
                refine lv_iload hx hb dX0_cook_129 (lv_at hl 0 rfl) ?_
                exact W.iret (v := atS 8 (R 0) u) hx hb hr (fun t ht hW => ⟨⟨(atS 8 (R 0) u), (), rfl, rfl, by show va_P D vwCl _ t.heap; rw [ht]; exact hP⟩, hS.F ht⟩) hS.2.2 dX0_cook_131
              · exact absurd (show (0 : Int32) = 3 by rw [← hout, cookX, if_neg c1, if_neg c2, if_neg c3, if_pos c4, if_neg c5, if_pos c6, if_neg c7]) (by decide)
            · refine lv_iload hx hb dX0_cook_77 (lv_at hl 0 rfl) ?_
              refine lv_iload_n hx hb dX0_cook_79 rfl (lv_at hl 2 rfl) ?_
              refine lv_icmp_eq (tgt := 93) hx hb dX0_cook_80 (by decide) (fun c8 => ?_) (fun c8 => ?_)
              · refine lv_aload_n hx hb dX0_cook_93 rfl (lv_at hl 1 rfl) ?_
                refine rd_V (q := (RX0, TX0, 15)) (ci := 0) (q0 := 0) (As := []) (rest := []) ⟨hx, hb, hml, hown, hts⟩ (mX0_roomLeft l D cy h a R nd n dr fl  (by omega) (by omega) (by omega) ) (cwV 0 hts gX0_cook_X0_roomLeft rfl rfl rfl (by decide +kernel) ⟨Nat.le_of_ble_eq_true rfl, Nat.le_of_ble_eq_true rfl⟩) hP hK rfl rfl rfl hl.1 rfl (Nat.le_of_ble_eq_true rfl) dX0_cook_94 (Nat.zero_le _) (Nat.zero_le _) ?_
                refine lv_iconst (v := 2) hx hb dX0_cook_97 (by decide) ?_
                refine lv_icmp_ge (tgt := 111) hx hb dX0_cook_98 (by decide) (fun c9 => ?_) (fun c9 => ?_)
                · refine lv_aload_n hx hb dX0_cook_111 rfl (lv_at hl 1 rfl) ?_
                  refine va_get (D := D) (ci := 0) (v := .ref (a 0)) (C := RX0) (T := TX0) (N := 15) hx hb hts inX0_cook_0 hown hK.1 hP 0 rfl rfl 0 (by decide) (hts (.fieldLink RX0 9 "ChalkSlate" "stove" "[I") (by decide +kernel)) (fun _ h9 => h9) rfl dX0_cook_112 ?_
                  refine lv_iload_n hx hb dX0_cook_115 rfl (lv_at hl 3 rfl) ?_
                  refine rd_S (As := [.ref (a 0), .int u]) (rest := []) ⟨hx, hb, hml, hown, hts⟩ (mX0_at l D cy (a 0) 8 (R 0) u (Nat.le_of_ble_eq_true rfl)) (va_cwS 2 hts gX0_cook_X0_at rfl rfl rfl (by decide +kernel) ⟨Nat.le_of_ble_eq_true rfl, Nat.le_of_ble_eq_true rfl⟩) (hP.sub (ws' := [(a 0, .inl (cy, 8, .inl (R 0)))]) [1] rfl) hK rfl hl.1 rfl (Nat.le_of_ble_eq_true rfl) dX0_cook_116 (Nat.zero_le _) (Nat.zero_le _) ?_
                  refine lv_istore (lv' := [(5, .int (atS 8 (R 0) u)), (4, .int (holderS R u n 0)), (0, .ref h), (1, .int d), (2, .int u), (3, .int x)]) hx hb dX0_cook_119 hl (by decide) rfl (fun ls hl => ?_)
                  refine lv_aload_n hx hb dX0_cook_121 rfl (lv_at hl 2 rfl) ?_
                  refine lv_iload_n hx hb dX0_cook_122 rfl (lv_at hl 3 rfl) ?_
                  refine lv_iconst (v := 1) hx hb dX0_cook_123 (by decide) ?_
                  refine lv_iload_n hx hb dX0_cook_124 rfl (lv_at hl 4 rfl) ?_
                  refine lv_iload_n hx hb dX0_cook_125 rfl (lv_at hl 5 rfl) ?_
                  refine wr_VV (q := (RX0, TX0, 15)) (ci := 0) (q0 := 0) (ws0' := cC h a cy (spoonsR R n d 1 u x) nd (n + 1) dr fl) (As := [.int d, .int 1, .int u, .int x]) (rest := []) ⟨hx, hb, hml, hown, hts⟩ (fun sz => mX0_chalkSpoons l D cy h a R nd n dr fl d 1 u x (by omega) (by omega) (by omega)  sz) (cwV 4 hts gX0_cook_X0_chalkSpoons rfl rfl rfl (by decide +kernel) ⟨Nat.le_of_ble_eq_true rfl, Nat.le_of_ble_eq_true rfl⟩) hP hK hD hS hA [0, 1, 2, 3, 4, 5, 6, 7, 8, 9, 10, 11] [] [0, 1, 2, 3, 4, 5, 6, 7, 8, 9, 10, 11] rfl rfl rfl (by decide) rfl rfl rfl rfl rfl rfl rfl hl.1 rfl (Nat.le_of_ble_eq_true rfl) dX0_cook_126 (Nat.zero_le _) (Nat.zero_le _) (fun H locs hP hD hS => ?_)
                  refine lv_iload hx hb dX0_cook_129 (lv_at hl 0 rfl) ?_
                  exact W.iret (v := atS 8 (R 0) u) hx hb hr (fun t ht hW => ⟨⟨(atS 8 (R 0) u), (), rfl, rfl, by show va_P D vwCl _ t.heap; rw [ht]; exact hP⟩, hS.F ht⟩) hS.2.2 dX0_cook_131
                · exact absurd (show (0 : Int32) = 3 by rw [← hout, cookX, if_neg c1, if_neg c2, if_neg c3, if_pos c4, if_neg c5, if_neg c6, if_pos c8, if_neg c9]) (by decide)
              · exact absurd (show (0 : Int32) = 3 by rw [← hout, cookX, if_neg c1, if_neg c2, if_neg c3, if_pos c4, if_neg c5, if_neg c6, if_neg c8]) (by decide)
          · exact absurd (show (0 : Int32) = 3 by rw [← hout, cookX, if_neg c1, if_neg c2, if_neg c3, if_pos c4, if_pos c5]) (by decide)
        · exact absurd (show (0 : Int32) = 2 by rw [← hout, cookX, if_neg c1, if_neg c2, if_neg c3, if_neg c4]) (by decide)
    · exact absurd (show (0 : Int32) = 1 by rw [← hout, cookX, if_neg c1, if_pos c2]) (by decide)

set_option maxHeartbeats 4000000 in
set_option maxRecDepth 100000 in
theorem mX0_cook_t1 (l : Launch) (hfl : l.stackTraces = false) (D : va_G) (cy : ClassId) (h : Nat) (a : Nat → Nat) (R : Nat → Nat → Int32) (nd n dr : Nat) (fl : Int32) (d u x : Int32) (hnd : nd < 1000000) (hn : n < 1000000) (hdr : dr < 1000000) (hout : cookX R n nd d u x = 1) (sz : Nat) : ThX l yX0_cook wsX0_cook 6 111 [.ref h, .int d, .int u, .int x] D cy (cC h a cy R nd n dr fl) sz xIOB := by
  refine vx_ofW (cc := cX0_cook) (maxL := 6) (ret := (some .int)) (by decide) rfl ?_
  intro p e s m args below meth c s₁ B hml hno hv
  obtain ⟨rfl, ⟨hsz, hP, hK, hD0⟩, hX⟩ := hv
  have hx := B.exec
  have hb := B.bytes
  have hr := B.returns
  have hts := atoms_spec (ws := wsX0_cook) B.pre
  have hown : s.vm.findClass RX0 = some m.cls := findClass_of_methodNamed B.named
  have hlocks := B.notSynchronized
  subst hsz
  have hD := hD0.self (sz := s.heap.size)
  generalize hAe : va_A (cC h a cy R nd n dr fl) s.heap.size = A at hD hX ⊢
  have hA : ∀ q : Nat, s.heap.size ≤ q → A q := fun q h => by rw [← hAe]; exact Or.inr h
  have hS : va_S A s.heap s.heap [] := va_S.rf
  have hl := lv_entry ([.ref h, .int d, .int u, .int x]) (n := 6) (Nat.le_of_ble_eq_true rfl)
  rw [lg_entry_eq]
  generalize (lg_sl ([.ref h, .int d, .int u, .int x]) ++ List.replicate (6 - (lg_sl ([.ref h, .int d, .int u, .int x])).length) Slot.unset).toArray = ls at hl ⊢
  have hl : lv_has ls 6 [(0, .ref h), (1, .int d), (2, .int u), (3, .int x)] := hl
  refine lv_aload_n hx hb dX0_cook_0 rfl (lv_at hl 0 rfl) ?_
  refine lv_iload_n hx hb dX0_cook_1 rfl (lv_at hl 1 rfl) ?_
  refine rd_V (q := (RX0, TX0, 15)) (ci := 0) (q0 := 0) (As := [.int d]) (rest := []) ⟨hx, hb, hml, hown, hts⟩ (mX0_isDish l D cy h a R nd n dr fl d (by omega) (by omega) (by omega) ) (cwV 1 hts gX0_cook_X0_isDish rfl rfl rfl (by decide +kernel) ⟨Nat.le_of_ble_eq_true rfl, Nat.le_of_ble_eq_true rfl⟩) hP hK rfl rfl rfl hl.1 rfl (Nat.le_of_ble_eq_true rfl) dX0_cook_2 (Nat.zero_le _) (Nat.zero_le _) ?_
  refine lv_if_eq (tgt := 15) hx hb dX0_cook_5 (by decide) (fun c1 => ?_) (fun c1 => ?_)
  · obtain ⟨sa, hsa⟩ := hX.2.2.2.2.2.2.2.1
    exact vx_throwS (A := A) (own := RX0) (cls := xIOB) (text := "no such dish or pot") (names := xNm) (ik := 81) (is := 83) (ic := 85) hx hb hfl hown (by decide +kernel) (by decide +kernel) (hts (.classLink RX0 81 xIOB) (by decide +kernel)) (hts (.initialized xIOB) (by decide +kernel)) hsa (vx_hat (L := vx_atS RX0 85 xIOB xNm) (fun w h => hts w (inxX0_cook_xIOB w h)) xn_IOB (vx_c (va_Nw.use rfl hX.2.2.2.2.1) (vx_c (va_Nw.use rfl hX.2.2.2.2.2.2.2.2.2.2.2.2.2.2.2.2.2.1) (vx_c (va_Nw.use rfl hX.2.2.2.2.2.2.2.2.2.2.2.2.2.2.2.2.2.2.1) (vx_c (va_Nw.use rfl hX.2.2.2.2.2.2.2.2.2.2.2.2.2.2.2.2.2.2.2) vx_n))))) (List.forall_mem_cons.mpr ⟨rfl, List.forall_mem_cons.mpr ⟨rfl, xg_IOB⟩⟩) hX.1 hX.2.1 hS (hl.1.trans hml.symm) dX0_cook_15 dX0_cook_18 dX0_cook_19 dX0_cook_21 dX0_cook_24 (fun x h => (hno x h).elim) (Nat.le_of_ble_eq_true rfl) (Nat.le_of_ble_eq_true rfl) (Nat.le_of_ble_eq_true rfl) (Nat.le_of_ble_eq_true rfl) hlocks (fun t hvm hz hk => ⟨(), trivial, ⟨rfl, P_ext hP hk⟩, F_ext hS hz hk⟩) hS.2.2 (Nat.le_of_ble_eq_true rfl) (Nat.le_of_ble_eq_true rfl)
  · refine lv_iload_n hx hb dX0_cook_8 rfl (lv_at hl 2 rfl) ?_
    refine rd_S (As := [.int u]) (rest := []) ⟨hx, hb, hml, hown, hts⟩ (mX0_isPot l D cy u) (va_cwS 1 hts gX0_cook_X0_isPot rfl rfl rfl (by decide +kernel) ⟨Nat.le_of_ble_eq_true rfl, Nat.le_of_ble_eq_true rfl⟩) (hP.sub (ws' := []) [] rfl) hK rfl hl.1 rfl (Nat.le_of_ble_eq_true rfl) dX0_cook_9 (Nat.zero_le _) (Nat.zero_le _) ?_
    refine lv_if_ne (tgt := 25) hx hb dX0_cook_12 (by decide) (fun c2 => ?_) (fun c2 => ?_)
    · refine lv_iload_n hx hb dX0_cook_25 rfl (lv_at hl 3 rfl) ?_
      refine lv_if_lt (tgt := 36) hx hb dX0_cook_26 (by decide) (fun c3 => ?_) (fun c3 => ?_)
      · exact absurd (show (1 : Int32) = 2 by rw [← hout, cookX, if_neg c1, if_neg c2, if_pos c3]) (by decide)
      · refine lv_iload_n hx hb dX0_cook_29 rfl (lv_at hl 3 rfl) ?_
        refine lv_sipush (v := 999) hx hb dX0_cook_30 (by decide) ?_
        refine lv_icmp_le (tgt := 46) hx hb dX0_cook_33 (by decide) (fun c4 => ?_) (fun c4 => ?_)
        · refine lv_aload_n hx hb dX0_cook_46 rfl (lv_at hl 0 rfl) ?_
          refine lv_iload_n hx hb dX0_cook_47 rfl (lv_at hl 1 rfl) ?_
          refine rd_V (q := (RX0, TX0, 15)) (ci := 0) (q0 := 0) (As := [.int d]) (rest := []) ⟨hx, hb, hml, hown, hts⟩ (mX0_isOpen l D cy h a R nd n dr fl d (by omega) (by omega) (by omega) ) (cwV 1 hts gX0_cook_X0_isOpen rfl rfl rfl (by decide +kernel) ⟨Nat.le_of_ble_eq_true rfl, Nat.le_of_ble_eq_true rfl⟩) hP hK rfl rfl rfl hl.1 rfl (Nat.le_of_ble_eq_true rfl) dX0_cook_48 (Nat.zero_le _) (Nat.zero_le _) ?_
          refine lv_if_ne (tgt := 64) hx hb dX0_cook_51 (by decide) (fun c5 => ?_) (fun c5 => ?_)
          · refine lv_aload_n hx hb dX0_cook_64 rfl (lv_at hl 0 rfl) ?_
            refine lv_iload_n hx hb dX0_cook_65 rfl (lv_at hl 2 rfl) ?_
            refine rd_V (q := (RX0, TX0, 15)) (ci := 0) (q0 := 0) (As := [.int u]) (rest := []) ⟨hx, hb, hml, hown, hts⟩ (mX0_holderOf l D cy h a R nd n dr fl u (by omega) (by omega) (by omega) ) (cwV 1 hts gX0_cook_X0_holderOf rfl rfl rfl (by decide +kernel) ⟨Nat.le_of_ble_eq_true rfl, Nat.le_of_ble_eq_true rfl⟩) hP hK rfl rfl rfl hl.1 rfl (Nat.le_of_ble_eq_true rfl) dX0_cook_66 (Nat.zero_le _) (Nat.zero_le _) ?_
            refine lv_istore (lv' := [(4, .int (holderS R u n 0)), (0, .ref h), (1, .int d), (2, .int u), (3, .int x)]) hx hb dX0_cook_69 hl (by decide) rfl (fun ls hl => ?_)
            refine lv_iload hx hb dX0_cook_71 (lv_at hl 0 rfl) ?_
            refine lv_iconst (v := (-1)) hx hb dX0_cook_73 (by decide) ?_
            refine lv_icmp_eq (tgt := 93) hx hb dX0_cook_74 (by decide) (fun c6 => ?_) (fun c6 => ?_)
            · refine lv_aload_n hx hb dX0_cook_93 rfl (lv_at hl 1 rfl) ?_
              refine rd_V (q := (RX0, TX0, 15)) (ci := 0) (q0 := 0) (As := []) (rest := []) ⟨hx, hb, hml, hown, hts⟩ (mX0_roomLeft l D cy h a R nd n dr fl  (by omega) (by omega) (by omega) ) (cwV 0 hts gX0_cook_X0_roomLeft rfl rfl rfl (by decide +kernel) ⟨Nat.le_of_ble_eq_true rfl, Nat.le_of_ble_eq_true rfl⟩) hP hK rfl rfl rfl hl.1 rfl (Nat.le_of_ble_eq_true rfl) dX0_cook_94 (Nat.zero_le _) (Nat.zero_le _) ?_
              refine lv_iconst (v := 2) hx hb dX0_cook_97 (by decide) ?_
              refine lv_icmp_ge (tgt := 111) hx hb dX0_cook_98 (by decide) (fun c7 => ?_) (fun c7 => ?_)
              · exact absurd (show (1 : Int32) = 0 by rw [← hout, cookX, if_neg c1, if_neg c2, if_neg c3, if_pos c4, if_neg c5, if_pos c6, if_pos c7]) (by decide)
              · exact absurd (show (1 : Int32) = 3 by rw [← hout, cookX, if_neg c1, if_neg c2, if_neg c3, if_pos c4, if_neg c5, if_pos c6, if_neg c7]) (by decide)
            · refine lv_iload hx hb dX0_cook_77 (lv_at hl 0 rfl) ?_
              refine lv_iload_n hx hb dX0_cook_79 rfl (lv_at hl 2 rfl) ?_
              refine lv_icmp_eq (tgt := 93) hx hb dX0_cook_80 (by decide) (fun c8 => ?_) (fun c8 => ?_)
              · refine lv_aload_n hx hb dX0_cook_93 rfl (lv_at hl 1 rfl) ?_
                refine rd_V (q := (RX0, TX0, 15)) (ci := 0) (q0 := 0) (As := []) (rest := []) ⟨hx, hb, hml, hown, hts⟩ (mX0_roomLeft l D cy h a R nd n dr fl  (by omega) (by omega) (by omega) ) (cwV 0 hts gX0_cook_X0_roomLeft rfl rfl rfl (by decide +kernel) ⟨Nat.le_of_ble_eq_true rfl, Nat.le_of_ble_eq_true rfl⟩) hP hK rfl rfl rfl hl.1 rfl (Nat.le_of_ble_eq_true rfl) dX0_cook_94 (Nat.zero_le _) (Nat.zero_le _) ?_
                refine lv_iconst (v := 2) hx hb dX0_cook_97 (by decide) ?_
                refine lv_icmp_ge (tgt := 111) hx hb dX0_cook_98 (by decide) (fun c9 => ?_) (fun c9 => ?_)
                · exact absurd (show (1 : Int32) = 0 by rw [← hout, cookX, if_neg c1, if_neg c2, if_neg c3, if_pos c4, if_neg c5, if_neg c6, if_pos c8, if_pos c9]) (by decide)
                · exact absurd (show (1 : Int32) = 3 by rw [← hout, cookX, if_neg c1, if_neg c2, if_neg c3, if_pos c4, if_neg c5, if_neg c6, if_pos c8, if_neg c9]) (by decide)
              · exact absurd (show (1 : Int32) = 3 by rw [← hout, cookX, if_neg c1, if_neg c2, if_neg c3, if_pos c4, if_neg c5, if_neg c6, if_neg c8]) (by decide)
          · exact absurd (show (1 : Int32) = 3 by rw [← hout, cookX, if_neg c1, if_neg c2, if_neg c3, if_pos c4, if_pos c5]) (by decide)
        · exact absurd (show (1 : Int32) = 2 by rw [← hout, cookX, if_neg c1, if_neg c2, if_neg c3, if_neg c4]) (by decide)
    · obtain ⟨sa, hsa⟩ := hX.2.2.2.2.2.2.2.1
      exact vx_throwS (A := A) (own := RX0) (cls := xIOB) (text := "no such dish or pot") (names := xNm) (ik := 81) (is := 83) (ic := 85) hx hb hfl hown (by decide +kernel) (by decide +kernel) (hts (.classLink RX0 81 xIOB) (by decide +kernel)) (hts (.initialized xIOB) (by decide +kernel)) hsa (vx_hat (L := vx_atS RX0 85 xIOB xNm) (fun w h => hts w (inxX0_cook_xIOB w h)) xn_IOB (vx_c (va_Nw.use rfl hX.2.2.2.2.1) (vx_c (va_Nw.use rfl hX.2.2.2.2.2.2.2.2.2.2.2.2.2.2.2.2.2.1) (vx_c (va_Nw.use rfl hX.2.2.2.2.2.2.2.2.2.2.2.2.2.2.2.2.2.2.1) (vx_c (va_Nw.use rfl hX.2.2.2.2.2.2.2.2.2.2.2.2.2.2.2.2.2.2.2) vx_n))))) (List.forall_mem_cons.mpr ⟨rfl, List.forall_mem_cons.mpr ⟨rfl, xg_IOB⟩⟩) hX.1 hX.2.1 hS (hl.1.trans hml.symm) dX0_cook_15 dX0_cook_18 dX0_cook_19 dX0_cook_21 dX0_cook_24 (fun x h => (hno x h).elim) (Nat.le_of_ble_eq_true rfl) (Nat.le_of_ble_eq_true rfl) (Nat.le_of_ble_eq_true rfl) (Nat.le_of_ble_eq_true rfl) hlocks (fun t hvm hz hk => ⟨(), trivial, ⟨rfl, P_ext hP hk⟩, F_ext hS hz hk⟩) hS.2.2 (Nat.le_of_ble_eq_true rfl) (Nat.le_of_ble_eq_true rfl)

set_option maxHeartbeats 4000000 in
set_option maxRecDepth 100000 in
theorem mX0_cook_t2 (l : Launch) (hfl : l.stackTraces = false) (D : va_G) (cy : ClassId) (h : Nat) (a : Nat → Nat) (R : Nat → Nat → Int32) (nd n dr : Nat) (fl : Int32) (d u x : Int32) (hnd : nd < 1000000) (hn : n < 1000000) (hdr : dr < 1000000) (hout : cookX R n nd d u x = 2) (sz : Nat) : ThX l yX0_cook wsX0_cook 6 111 [.ref h, .int d, .int u, .int x] D cy (cC h a cy R nd n dr fl) sz xIAE := by
  refine vx_ofW (cc := cX0_cook) (maxL := 6) (ret := (some .int)) (by decide) rfl ?_
  intro p e s m args below meth c s₁ B hml hno hv
  obtain ⟨rfl, ⟨hsz, hP, hK, hD0⟩, hX⟩ := hv
  have hx := B.exec
  have hb := B.bytes
  have hr := B.returns
  have hts := atoms_spec (ws := wsX0_cook) B.pre
  have hown : s.vm.findClass RX0 = some m.cls := findClass_of_methodNamed B.named
  have hlocks := B.notSynchronized
  subst hsz
  have hD := hD0.self (sz := s.heap.size)
  generalize hAe : va_A (cC h a cy R nd n dr fl) s.heap.size = A at hD hX ⊢
  have hA : ∀ q : Nat, s.heap.size ≤ q → A q := fun q h => by rw [← hAe]; exact Or.inr h
  have hS : va_S A s.heap s.heap [] := va_S.rf
  have hl := lv_entry ([.ref h, .int d, .int u, .int x]) (n := 6) (Nat.le_of_ble_eq_true rfl)
  rw [lg_entry_eq]
  generalize (lg_sl ([.ref h, .int d, .int u, .int x]) ++ List.replicate (6 - (lg_sl ([.ref h, .int d, .int u, .int x])).length) Slot.unset).toArray = ls at hl ⊢
  have hl : lv_has ls 6 [(0, .ref h), (1, .int d), (2, .int u), (3, .int x)] := hl
  refine lv_aload_n hx hb dX0_cook_0 rfl (lv_at hl 0 rfl) ?_
  refine lv_iload_n hx hb dX0_cook_1 rfl (lv_at hl 1 rfl) ?_
  refine rd_V (q := (RX0, TX0, 15)) (ci := 0) (q0 := 0) (As := [.int d]) (rest := []) ⟨hx, hb, hml, hown, hts⟩ (mX0_isDish l D cy h a R nd n dr fl d (by omega) (by omega) (by omega) ) (cwV 1 hts gX0_cook_X0_isDish rfl rfl rfl (by decide +kernel) ⟨Nat.le_of_ble_eq_true rfl, Nat.le_of_ble_eq_true rfl⟩) hP hK rfl rfl rfl hl.1 rfl (Nat.le_of_ble_eq_true rfl) dX0_cook_2 (Nat.zero_le _) (Nat.zero_le _) ?_
  refine lv_if_eq (tgt := 15) hx hb dX0_cook_5 (by decide) (fun c1 => ?_) (fun c1 => ?_)
  · exact absurd (show (2 : Int32) = 1 by rw [← hout, cookX, if_pos c1]) (by decide)
  · refine lv_iload_n hx hb dX0_cook_8 rfl (lv_at hl 2 rfl) ?_
    refine rd_S (As := [.int u]) (rest := []) ⟨hx, hb, hml, hown, hts⟩ (mX0_isPot l D cy u) (va_cwS 1 hts gX0_cook_X0_isPot rfl rfl rfl (by decide +kernel) ⟨Nat.le_of_ble_eq_true rfl, Nat.le_of_ble_eq_true rfl⟩) (hP.sub (ws' := []) [] rfl) hK rfl hl.1 rfl (Nat.le_of_ble_eq_true rfl) dX0_cook_9 (Nat.zero_le _) (Nat.zero_le _) ?_
    refine lv_if_ne (tgt := 25) hx hb dX0_cook_12 (by decide) (fun c2 => ?_) (fun c2 => ?_)
    · refine lv_iload_n hx hb dX0_cook_25 rfl (lv_at hl 3 rfl) ?_
      refine lv_if_lt (tgt := 36) hx hb dX0_cook_26 (by decide) (fun c3 => ?_) (fun c3 => ?_)
      · obtain ⟨sa, hsa⟩ := hX.2.2.2.2.2.2.2.2.1
        exact vx_throwS (A := A) (own := RX0) (cls := xIAE) (text := "spoons are 0 to 999") (names := xNm) (ik := 86) (is := 88) (ic := 90) hx hb hfl hown (by decide +kernel) (by decide +kernel) (hts (.classLink RX0 86 xIAE) (by decide +kernel)) (hts (.initialized xIAE) (by decide +kernel)) hsa (vx_hat (L := vx_atS RX0 90 xIAE xNm) (fun w h => hts w (inxX0_cook_xIAE w h)) xn_IAE (vx_c (va_Nw.use rfl hX.2.2.2.1) (vx_c (va_Nw.use rfl hX.2.2.2.2.2.2.2.2.2.2.2.2.2.2.2.2.2.1) (vx_c (va_Nw.use rfl hX.2.2.2.2.2.2.2.2.2.2.2.2.2.2.2.2.2.2.1) (vx_c (va_Nw.use rfl hX.2.2.2.2.2.2.2.2.2.2.2.2.2.2.2.2.2.2.2) vx_n))))) (List.forall_mem_cons.mpr ⟨rfl, List.forall_mem_cons.mpr ⟨rfl, xg_IAE⟩⟩) hX.1 hX.2.1 hS (hl.1.trans hml.symm) dX0_cook_36 dX0_cook_39 dX0_cook_40 dX0_cook_42 dX0_cook_45 (fun x h => (hno x h).elim) (Nat.le_of_ble_eq_true rfl) (Nat.le_of_ble_eq_true rfl) (Nat.le_of_ble_eq_true rfl) (Nat.le_of_ble_eq_true rfl) hlocks (fun t hvm hz hk => ⟨(), trivial, ⟨rfl, P_ext hP hk⟩, F_ext hS hz hk⟩) hS.2.2 (Nat.le_of_ble_eq_true rfl) (Nat.le_of_ble_eq_true rfl)
      · refine lv_iload_n hx hb dX0_cook_29 rfl (lv_at hl 3 rfl) ?_
        refine lv_sipush (v := 999) hx hb dX0_cook_30 (by decide) ?_
        refine lv_icmp_le (tgt := 46) hx hb dX0_cook_33 (by decide) (fun c4 => ?_) (fun c4 => ?_)
        · refine lv_aload_n hx hb dX0_cook_46 rfl (lv_at hl 0 rfl) ?_
          refine lv_iload_n hx hb dX0_cook_47 rfl (lv_at hl 1 rfl) ?_
          refine rd_V (q := (RX0, TX0, 15)) (ci := 0) (q0 := 0) (As := [.int d]) (rest := []) ⟨hx, hb, hml, hown, hts⟩ (mX0_isOpen l D cy h a R nd n dr fl d (by omega) (by omega) (by omega) ) (cwV 1 hts gX0_cook_X0_isOpen rfl rfl rfl (by decide +kernel) ⟨Nat.le_of_ble_eq_true rfl, Nat.le_of_ble_eq_true rfl⟩) hP hK rfl rfl rfl hl.1 rfl (Nat.le_of_ble_eq_true rfl) dX0_cook_48 (Nat.zero_le _) (Nat.zero_le _) ?_
          refine lv_if_ne (tgt := 64) hx hb dX0_cook_51 (by decide) (fun c5 => ?_) (fun c5 => ?_)
          · refine lv_aload_n hx hb dX0_cook_64 rfl (lv_at hl 0 rfl) ?_
            refine lv_iload_n hx hb dX0_cook_65 rfl (lv_at hl 2 rfl) ?_
            refine rd_V (q := (RX0, TX0, 15)) (ci := 0) (q0 := 0) (As := [.int u]) (rest := []) ⟨hx, hb, hml, hown, hts⟩ (mX0_holderOf l D cy h a R nd n dr fl u (by omega) (by omega) (by omega) ) (cwV 1 hts gX0_cook_X0_holderOf rfl rfl rfl (by decide +kernel) ⟨Nat.le_of_ble_eq_true rfl, Nat.le_of_ble_eq_true rfl⟩) hP hK rfl rfl rfl hl.1 rfl (Nat.le_of_ble_eq_true rfl) dX0_cook_66 (Nat.zero_le _) (Nat.zero_le _) ?_
            refine lv_istore (lv' := [(4, .int (holderS R u n 0)), (0, .ref h), (1, .int d), (2, .int u), (3, .int x)]) hx hb dX0_cook_69 hl (by decide) rfl (fun ls hl => ?_)
            refine lv_iload hx hb dX0_cook_71 (lv_at hl 0 rfl) ?_
            refine lv_iconst (v := (-1)) hx hb dX0_cook_73 (by decide) ?_
            refine lv_icmp_eq (tgt := 93) hx hb dX0_cook_74 (by decide) (fun c6 => ?_) (fun c6 => ?_)
            · refine lv_aload_n hx hb dX0_cook_93 rfl (lv_at hl 1 rfl) ?_
              refine rd_V (q := (RX0, TX0, 15)) (ci := 0) (q0 := 0) (As := []) (rest := []) ⟨hx, hb, hml, hown, hts⟩ (mX0_roomLeft l D cy h a R nd n dr fl  (by omega) (by omega) (by omega) ) (cwV 0 hts gX0_cook_X0_roomLeft rfl rfl rfl (by decide +kernel) ⟨Nat.le_of_ble_eq_true rfl, Nat.le_of_ble_eq_true rfl⟩) hP hK rfl rfl rfl hl.1 rfl (Nat.le_of_ble_eq_true rfl) dX0_cook_94 (Nat.zero_le _) (Nat.zero_le _) ?_
              refine lv_iconst (v := 2) hx hb dX0_cook_97 (by decide) ?_
              refine lv_icmp_ge (tgt := 111) hx hb dX0_cook_98 (by decide) (fun c7 => ?_) (fun c7 => ?_)
              · exact absurd (show (2 : Int32) = 0 by rw [← hout, cookX, if_neg c1, if_neg c2, if_neg c3, if_pos c4, if_neg c5, if_pos c6, if_pos c7]) (by decide)
              · exact absurd (show (2 : Int32) = 3 by rw [← hout, cookX, if_neg c1, if_neg c2, if_neg c3, if_pos c4, if_neg c5, if_pos c6, if_neg c7]) (by decide)
            · refine lv_iload hx hb dX0_cook_77 (lv_at hl 0 rfl) ?_
              refine lv_iload_n hx hb dX0_cook_79 rfl (lv_at hl 2 rfl) ?_
              refine lv_icmp_eq (tgt := 93) hx hb dX0_cook_80 (by decide) (fun c8 => ?_) (fun c8 => ?_)
              · refine lv_aload_n hx hb dX0_cook_93 rfl (lv_at hl 1 rfl) ?_
                refine rd_V (q := (RX0, TX0, 15)) (ci := 0) (q0 := 0) (As := []) (rest := []) ⟨hx, hb, hml, hown, hts⟩ (mX0_roomLeft l D cy h a R nd n dr fl  (by omega) (by omega) (by omega) ) (cwV 0 hts gX0_cook_X0_roomLeft rfl rfl rfl (by decide +kernel) ⟨Nat.le_of_ble_eq_true rfl, Nat.le_of_ble_eq_true rfl⟩) hP hK rfl rfl rfl hl.1 rfl (Nat.le_of_ble_eq_true rfl) dX0_cook_94 (Nat.zero_le _) (Nat.zero_le _) ?_
                refine lv_iconst (v := 2) hx hb dX0_cook_97 (by decide) ?_
                refine lv_icmp_ge (tgt := 111) hx hb dX0_cook_98 (by decide) (fun c9 => ?_) (fun c9 => ?_)
                · exact absurd (show (2 : Int32) = 0 by rw [← hout, cookX, if_neg c1, if_neg c2, if_neg c3, if_pos c4, if_neg c5, if_neg c6, if_pos c8, if_pos c9]) (by decide)
                · exact absurd (show (2 : Int32) = 3 by rw [← hout, cookX, if_neg c1, if_neg c2, if_neg c3, if_pos c4, if_neg c5, if_neg c6, if_pos c8, if_neg c9]) (by decide)
              · exact absurd (show (2 : Int32) = 3 by rw [← hout, cookX, if_neg c1, if_neg c2, if_neg c3, if_pos c4, if_neg c5, if_neg c6, if_neg c8]) (by decide)
          · exact absurd (show (2 : Int32) = 3 by rw [← hout, cookX, if_neg c1, if_neg c2, if_neg c3, if_pos c4, if_pos c5]) (by decide)
        · obtain ⟨sa, hsa⟩ := hX.2.2.2.2.2.2.2.2.1
          exact vx_throwS (A := A) (own := RX0) (cls := xIAE) (text := "spoons are 0 to 999") (names := xNm) (ik := 86) (is := 88) (ic := 90) hx hb hfl hown (by decide +kernel) (by decide +kernel) (hts (.classLink RX0 86 xIAE) (by decide +kernel)) (hts (.initialized xIAE) (by decide +kernel)) hsa (vx_hat (L := vx_atS RX0 90 xIAE xNm) (fun w h => hts w (inxX0_cook_xIAE w h)) xn_IAE (vx_c (va_Nw.use rfl hX.2.2.2.1) (vx_c (va_Nw.use rfl hX.2.2.2.2.2.2.2.2.2.2.2.2.2.2.2.2.2.1) (vx_c (va_Nw.use rfl hX.2.2.2.2.2.2.2.2.2.2.2.2.2.2.2.2.2.2.1) (vx_c (va_Nw.use rfl hX.2.2.2.2.2.2.2.2.2.2.2.2.2.2.2.2.2.2.2) vx_n))))) (List.forall_mem_cons.mpr ⟨rfl, List.forall_mem_cons.mpr ⟨rfl, xg_IAE⟩⟩) hX.1 hX.2.1 hS (hl.1.trans hml.symm) dX0_cook_36 dX0_cook_39 dX0_cook_40 dX0_cook_42 dX0_cook_45 (fun x h => (hno x h).elim) (Nat.le_of_ble_eq_true rfl) (Nat.le_of_ble_eq_true rfl) (Nat.le_of_ble_eq_true rfl) (Nat.le_of_ble_eq_true rfl) hlocks (fun t hvm hz hk => ⟨(), trivial, ⟨rfl, P_ext hP hk⟩, F_ext hS hz hk⟩) hS.2.2 (Nat.le_of_ble_eq_true rfl) (Nat.le_of_ble_eq_true rfl)
    · exact absurd (show (2 : Int32) = 1 by rw [← hout, cookX, if_neg c1, if_pos c2]) (by decide)

set_option maxHeartbeats 4000000 in
set_option maxRecDepth 100000 in
theorem mX0_cook_t3 (l : Launch) (hfl : l.stackTraces = false) (D : va_G) (cy : ClassId) (h : Nat) (a : Nat → Nat) (R : Nat → Nat → Int32) (nd n dr : Nat) (fl : Int32) (d u x : Int32) (hnd : nd < 1000000) (hn : n < 1000000) (hdr : dr < 1000000) (hout : cookX R n nd d u x = 3) (sz : Nat) : ThX l yX0_cook wsX0_cook 6 111 [.ref h, .int d, .int u, .int x] D cy (cC h a cy R nd n dr fl) sz xISE := by
  refine vx_ofW (cc := cX0_cook) (maxL := 6) (ret := (some .int)) (by decide) rfl ?_
  intro p e s m args below meth c s₁ B hml hno hv
  obtain ⟨rfl, ⟨hsz, hP, hK, hD0⟩, hX⟩ := hv
  have hx := B.exec
  have hb := B.bytes
  have hr := B.returns
  have hts := atoms_spec (ws := wsX0_cook) B.pre
  have hown : s.vm.findClass RX0 = some m.cls := findClass_of_methodNamed B.named
  have hlocks := B.notSynchronized
  subst hsz
  have hD := hD0.self (sz := s.heap.size)
  generalize hAe : va_A (cC h a cy R nd n dr fl) s.heap.size = A at hD hX ⊢
  have hA : ∀ q : Nat, s.heap.size ≤ q → A q := fun q h => by rw [← hAe]; exact Or.inr h
  have hS : va_S A s.heap s.heap [] := va_S.rf
  have hl := lv_entry ([.ref h, .int d, .int u, .int x]) (n := 6) (Nat.le_of_ble_eq_true rfl)
  rw [lg_entry_eq]
  generalize (lg_sl ([.ref h, .int d, .int u, .int x]) ++ List.replicate (6 - (lg_sl ([.ref h, .int d, .int u, .int x])).length) Slot.unset).toArray = ls at hl ⊢
  have hl : lv_has ls 6 [(0, .ref h), (1, .int d), (2, .int u), (3, .int x)] := hl
  refine lv_aload_n hx hb dX0_cook_0 rfl (lv_at hl 0 rfl) ?_
  refine lv_iload_n hx hb dX0_cook_1 rfl (lv_at hl 1 rfl) ?_
  refine rd_V (q := (RX0, TX0, 15)) (ci := 0) (q0 := 0) (As := [.int d]) (rest := []) ⟨hx, hb, hml, hown, hts⟩ (mX0_isDish l D cy h a R nd n dr fl d (by omega) (by omega) (by omega) ) (cwV 1 hts gX0_cook_X0_isDish rfl rfl rfl (by decide +kernel) ⟨Nat.le_of_ble_eq_true rfl, Nat.le_of_ble_eq_true rfl⟩) hP hK rfl rfl rfl hl.1 rfl (Nat.le_of_ble_eq_true rfl) dX0_cook_2 (Nat.zero_le _) (Nat.zero_le _) ?_
  refine lv_if_eq (tgt := 15) hx hb dX0_cook_5 (by decide) (fun c1 => ?_) (fun c1 => ?_)
  · exact absurd (show (3 : Int32) = 1 by rw [← hout, cookX, if_pos c1]) (by decide)
  · refine lv_iload_n hx hb dX0_cook_8 rfl (lv_at hl 2 rfl) ?_
    refine rd_S (As := [.int u]) (rest := []) ⟨hx, hb, hml, hown, hts⟩ (mX0_isPot l D cy u) (va_cwS 1 hts gX0_cook_X0_isPot rfl rfl rfl (by decide +kernel) ⟨Nat.le_of_ble_eq_true rfl, Nat.le_of_ble_eq_true rfl⟩) (hP.sub (ws' := []) [] rfl) hK rfl hl.1 rfl (Nat.le_of_ble_eq_true rfl) dX0_cook_9 (Nat.zero_le _) (Nat.zero_le _) ?_
    refine lv_if_ne (tgt := 25) hx hb dX0_cook_12 (by decide) (fun c2 => ?_) (fun c2 => ?_)
    · refine lv_iload_n hx hb dX0_cook_25 rfl (lv_at hl 3 rfl) ?_
      refine lv_if_lt (tgt := 36) hx hb dX0_cook_26 (by decide) (fun c3 => ?_) (fun c3 => ?_)
      · exact absurd (show (3 : Int32) = 2 by rw [← hout, cookX, if_neg c1, if_neg c2, if_pos c3]) (by decide)
      · refine lv_iload_n hx hb dX0_cook_29 rfl (lv_at hl 3 rfl) ?_
        refine lv_sipush (v := 999) hx hb dX0_cook_30 (by decide) ?_
        refine lv_icmp_le (tgt := 46) hx hb dX0_cook_33 (by decide) (fun c4 => ?_) (fun c4 => ?_)
        · refine lv_aload_n hx hb dX0_cook_46 rfl (lv_at hl 0 rfl) ?_
          refine lv_iload_n hx hb dX0_cook_47 rfl (lv_at hl 1 rfl) ?_
          refine rd_V (q := (RX0, TX0, 15)) (ci := 0) (q0 := 0) (As := [.int d]) (rest := []) ⟨hx, hb, hml, hown, hts⟩ (mX0_isOpen l D cy h a R nd n dr fl d (by omega) (by omega) (by omega) ) (cwV 1 hts gX0_cook_X0_isOpen rfl rfl rfl (by decide +kernel) ⟨Nat.le_of_ble_eq_true rfl, Nat.le_of_ble_eq_true rfl⟩) hP hK rfl rfl rfl hl.1 rfl (Nat.le_of_ble_eq_true rfl) dX0_cook_48 (Nat.zero_le _) (Nat.zero_le _) ?_
          refine lv_if_ne (tgt := 64) hx hb dX0_cook_51 (by decide) (fun c5 => ?_) (fun c5 => ?_)
          · refine lv_aload_n hx hb dX0_cook_64 rfl (lv_at hl 0 rfl) ?_
            refine lv_iload_n hx hb dX0_cook_65 rfl (lv_at hl 2 rfl) ?_
            refine rd_V (q := (RX0, TX0, 15)) (ci := 0) (q0 := 0) (As := [.int u]) (rest := []) ⟨hx, hb, hml, hown, hts⟩ (mX0_holderOf l D cy h a R nd n dr fl u (by omega) (by omega) (by omega) ) (cwV 1 hts gX0_cook_X0_holderOf rfl rfl rfl (by decide +kernel) ⟨Nat.le_of_ble_eq_true rfl, Nat.le_of_ble_eq_true rfl⟩) hP hK rfl rfl rfl hl.1 rfl (Nat.le_of_ble_eq_true rfl) dX0_cook_66 (Nat.zero_le _) (Nat.zero_le _) ?_
            refine lv_istore (lv' := [(4, .int (holderS R u n 0)), (0, .ref h), (1, .int d), (2, .int u), (3, .int x)]) hx hb dX0_cook_69 hl (by decide) rfl (fun ls hl => ?_)
            refine lv_iload hx hb dX0_cook_71 (lv_at hl 0 rfl) ?_
            refine lv_iconst (v := (-1)) hx hb dX0_cook_73 (by decide) ?_
            refine lv_icmp_eq (tgt := 93) hx hb dX0_cook_74 (by decide) (fun c6 => ?_) (fun c6 => ?_)
            · refine lv_aload_n hx hb dX0_cook_93 rfl (lv_at hl 1 rfl) ?_
              refine rd_V (q := (RX0, TX0, 15)) (ci := 0) (q0 := 0) (As := []) (rest := []) ⟨hx, hb, hml, hown, hts⟩ (mX0_roomLeft l D cy h a R nd n dr fl  (by omega) (by omega) (by omega) ) (cwV 0 hts gX0_cook_X0_roomLeft rfl rfl rfl (by decide +kernel) ⟨Nat.le_of_ble_eq_true rfl, Nat.le_of_ble_eq_true rfl⟩) hP hK rfl rfl rfl hl.1 rfl (Nat.le_of_ble_eq_true rfl) dX0_cook_94 (Nat.zero_le _) (Nat.zero_le _) ?_
              refine lv_iconst (v := 2) hx hb dX0_cook_97 (by decide) ?_
              refine lv_icmp_ge (tgt := 111) hx hb dX0_cook_98 (by decide) (fun c7 => ?_) (fun c7 => ?_)
              · exact absurd (show (3 : Int32) = 0 by rw [← hout, cookX, if_neg c1, if_neg c2, if_neg c3, if_pos c4, if_neg c5, if_pos c6, if_pos c7]) (by decide)
              · obtain ⟨sa, hsa⟩ := hX.2.2.2.2.2.2.1
                exact vx_throwS (A := A) (own := RX0) (cls := xISE) (text := "no room for the line") (names := xNm) (ik := 53) (is := 64) (ic := 57) hx hb hfl hown (by decide +kernel) (by decide +kernel) (hts (.classLink RX0 53 xISE) (by decide +kernel)) (hts (.initialized xISE) (by decide +kernel)) hsa (vx_hat (L := vx_atS RX0 57 xISE xNm) (fun w h => hts w (inxX0_cook_xISE w h)) xn_ISE (vx_c (va_Nw.use rfl hX.2.2.1) (vx_c (va_Nw.use rfl hX.2.2.2.2.2.2.2.2.2.2.2.2.2.2.2.2.2.1) (vx_c (va_Nw.use rfl hX.2.2.2.2.2.2.2.2.2.2.2.2.2.2.2.2.2.2.1) (vx_c (va_Nw.use rfl hX.2.2.2.2.2.2.2.2.2.2.2.2.2.2.2.2.2.2.2) vx_n))))) (List.forall_mem_cons.mpr ⟨rfl, List.forall_mem_cons.mpr ⟨rfl, xg_ISE⟩⟩) hX.1 hX.2.1 hS (hl.1.trans hml.symm) dX0_cook_101 dX0_cook_104 dX0_cook_105 dX0_cook_107 dX0_cook_110 (fun x h => (hno x h).elim) (Nat.le_of_ble_eq_true rfl) (Nat.le_of_ble_eq_true rfl) (Nat.le_of_ble_eq_true rfl) (Nat.le_of_ble_eq_true rfl) hlocks (fun t hvm hz hk => ⟨(), trivial, ⟨rfl, P_ext hP hk⟩, F_ext hS hz hk⟩) hS.2.2 (Nat.le_of_ble_eq_true rfl) (Nat.le_of_ble_eq_true rfl)
            · refine lv_iload hx hb dX0_cook_77 (lv_at hl 0 rfl) ?_
              refine lv_iload_n hx hb dX0_cook_79 rfl (lv_at hl 2 rfl) ?_
              refine lv_icmp_eq (tgt := 93) hx hb dX0_cook_80 (by decide) (fun c8 => ?_) (fun c8 => ?_)
              · refine lv_aload_n hx hb dX0_cook_93 rfl (lv_at hl 1 rfl) ?_
                refine rd_V (q := (RX0, TX0, 15)) (ci := 0) (q0 := 0) (As := []) (rest := []) ⟨hx, hb, hml, hown, hts⟩ (mX0_roomLeft l D cy h a R nd n dr fl  (by omega) (by omega) (by omega) ) (cwV 0 hts gX0_cook_X0_roomLeft rfl rfl rfl (by decide +kernel) ⟨Nat.le_of_ble_eq_true rfl, Nat.le_of_ble_eq_true rfl⟩) hP hK rfl rfl rfl hl.1 rfl (Nat.le_of_ble_eq_true rfl) dX0_cook_94 (Nat.zero_le _) (Nat.zero_le _) ?_
                refine lv_iconst (v := 2) hx hb dX0_cook_97 (by decide) ?_
                refine lv_icmp_ge (tgt := 111) hx hb dX0_cook_98 (by decide) (fun c9 => ?_) (fun c9 => ?_)
                · exact absurd (show (3 : Int32) = 0 by rw [← hout, cookX, if_neg c1, if_neg c2, if_neg c3, if_pos c4, if_neg c5, if_neg c6, if_pos c8, if_pos c9]) (by decide)
                · obtain ⟨sa, hsa⟩ := hX.2.2.2.2.2.2.1
                  exact vx_throwS (A := A) (own := RX0) (cls := xISE) (text := "no room for the line") (names := xNm) (ik := 53) (is := 64) (ic := 57) hx hb hfl hown (by decide +kernel) (by decide +kernel) (hts (.classLink RX0 53 xISE) (by decide +kernel)) (hts (.initialized xISE) (by decide +kernel)) hsa (vx_hat (L := vx_atS RX0 57 xISE xNm) (fun w h => hts w (inxX0_cook_xISE w h)) xn_ISE (vx_c (va_Nw.use rfl hX.2.2.1) (vx_c (va_Nw.use rfl hX.2.2.2.2.2.2.2.2.2.2.2.2.2.2.2.2.2.1) (vx_c (va_Nw.use rfl hX.2.2.2.2.2.2.2.2.2.2.2.2.2.2.2.2.2.2.1) (vx_c (va_Nw.use rfl hX.2.2.2.2.2.2.2.2.2.2.2.2.2.2.2.2.2.2.2) vx_n))))) (List.forall_mem_cons.mpr ⟨rfl, List.forall_mem_cons.mpr ⟨rfl, xg_ISE⟩⟩) hX.1 hX.2.1 hS (hl.1.trans hml.symm) dX0_cook_101 dX0_cook_104 dX0_cook_105 dX0_cook_107 dX0_cook_110 (fun x h => (hno x h).elim) (Nat.le_of_ble_eq_true rfl) (Nat.le_of_ble_eq_true rfl) (Nat.le_of_ble_eq_true rfl) (Nat.le_of_ble_eq_true rfl) hlocks (fun t hvm hz hk => ⟨(), trivial, ⟨rfl, P_ext hP hk⟩, F_ext hS hz hk⟩) hS.2.2 (Nat.le_of_ble_eq_true rfl) (Nat.le_of_ble_eq_true rfl)
              · obtain ⟨sa, hsa⟩ := hX.2.2.2.2.2.2.2.2.2.2.1
                exact vx_throwS (A := A) (own := RX0) (cls := xISE) (text := "another dish holds the pot") (names := xNm) (ik := 53) (is := 100) (ic := 57) hx hb hfl hown (by decide +kernel) (by decide +kernel) (hts (.classLink RX0 53 xISE) (by decide +kernel)) (hts (.initialized xISE) (by decide +kernel)) hsa (vx_hat (L := vx_atS RX0 57 xISE xNm) (fun w h => hts w (inxX0_cook_xISE w h)) xn_ISE (vx_c (va_Nw.use rfl hX.2.2.1) (vx_c (va_Nw.use rfl hX.2.2.2.2.2.2.2.2.2.2.2.2.2.2.2.2.2.1) (vx_c (va_Nw.use rfl hX.2.2.2.2.2.2.2.2.2.2.2.2.2.2.2.2.2.2.1) (vx_c (va_Nw.use rfl hX.2.2.2.2.2.2.2.2.2.2.2.2.2.2.2.2.2.2.2) vx_n))))) (List.forall_mem_cons.mpr ⟨rfl, List.forall_mem_cons.mpr ⟨rfl, xg_ISE⟩⟩) hX.1 hX.2.1 hS (hl.1.trans hml.symm) dX0_cook_83 dX0_cook_86 dX0_cook_87 dX0_cook_89 dX0_cook_92 (fun x h => (hno x h).elim) (Nat.le_of_ble_eq_true rfl) (Nat.le_of_ble_eq_true rfl) (Nat.le_of_ble_eq_true rfl) (Nat.le_of_ble_eq_true rfl) hlocks (fun t hvm hz hk => ⟨(), trivial, ⟨rfl, P_ext hP hk⟩, F_ext hS hz hk⟩) hS.2.2 (Nat.le_of_ble_eq_true rfl) (Nat.le_of_ble_eq_true rfl)
          · obtain ⟨sa, hsa⟩ := hX.2.2.2.2.2.2.2.2.2.1
            exact vx_throwS (A := A) (own := RX0) (cls := xISE) (text := "the dish is not open") (names := xNm) (ik := 53) (is := 94) (ic := 57) hx hb hfl hown (by decide +kernel) (by decide +kernel) (hts (.classLink RX0 53 xISE) (by decide +kernel)) (hts (.initialized xISE) (by decide +kernel)) hsa (vx_hat (L := vx_atS RX0 57 xISE xNm) (fun w h => hts w (inxX0_cook_xISE w h)) xn_ISE (vx_c (va_Nw.use rfl hX.2.2.1) (vx_c (va_Nw.use rfl hX.2.2.2.2.2.2.2.2.2.2.2.2.2.2.2.2.2.1) (vx_c (va_Nw.use rfl hX.2.2.2.2.2.2.2.2.2.2.2.2.2.2.2.2.2.2.1) (vx_c (va_Nw.use rfl hX.2.2.2.2.2.2.2.2.2.2.2.2.2.2.2.2.2.2.2) vx_n))))) (List.forall_mem_cons.mpr ⟨rfl, List.forall_mem_cons.mpr ⟨rfl, xg_ISE⟩⟩) hX.1 hX.2.1 hS (hl.1.trans hml.symm) dX0_cook_54 dX0_cook_57 dX0_cook_58 dX0_cook_60 dX0_cook_63 (fun x h => (hno x h).elim) (Nat.le_of_ble_eq_true rfl) (Nat.le_of_ble_eq_true rfl) (Nat.le_of_ble_eq_true rfl) (Nat.le_of_ble_eq_true rfl) hlocks (fun t hvm hz hk => ⟨(), trivial, ⟨rfl, P_ext hP hk⟩, F_ext hS hz hk⟩) hS.2.2 (Nat.le_of_ble_eq_true rfl) (Nat.le_of_ble_eq_true rfl)
        · exact absurd (show (3 : Int32) = 2 by rw [← hout, cookX, if_neg c1, if_neg c2, if_neg c3, if_neg c4]) (by decide)
    · exact absurd (show (3 : Int32) = 1 by rw [← hout, cookX, if_neg c1, if_pos c2]) (by decide)

theorem inxX0_finish_xIOB : ∀ w ∈ (vx_atS RX0 85 xIOB xNm).filter goodWord, w ∈ wsX0_finish := fun _ h => List.mem_cons_of_mem _ (List.mem_append_left _ (List.mem_append_right _ h))
theorem inxX0_finish_xISE : ∀ w ∈ (vx_atS RX0 57 xISE xNm).filter goodWord, w ∈ wsX0_finish := fun _ h => List.mem_cons_of_mem _ (List.mem_append_right _ h)

set_option maxRecDepth 100000 in
theorem inX0_finish_0 : ∀ w ∈ wsX00, w ∈ wsX0_finish := by decide +kernel

set_option maxHeartbeats 4000000 in
set_option maxRecDepth 100000 in
theorem mX0_finish_ok (l : Launch) (D : va_G) (cy : ClassId) (h : Nat) (a : Nat → Nat) (R : Nat → Nat → Int32) (nd n dr : Nat) (fl : Int32) (d : Int32) (hnd : nd < 1000000) (hn : n < 1000000) (hdr : dr < 1000000) (hout : openX R nd d = 0) (hb2 : n < 900000) (sz : Nat) : WrI l yX0_finish wsX0_finish 3 65 [.ref h, .int d] D cy (cC h a cy R nd n dr fl) (cC h a cy (stepR (chalkR R n d 2) 3 20 d 1) nd (n + 1) (dryN dr (n + 1)) fl) sz (nI (dryN dr (n + 1)) - nI dr) := by
  refine Met.ofW (cc := cX0_finish) (maxL := 2) (ret := (some .int)) (by decide) rfl ?_
  intro p e s m args below meth c s₁ B hml hv
  obtain ⟨rfl, hsz, hP, hK, hD0⟩ := hv
  have hx := B.exec
  have hb := B.bytes
  have hr := B.returns
  have hts := atoms_spec (ws := wsX0_finish) B.pre
  have hown : s.vm.findClass RX0 = some m.cls := findClass_of_methodNamed B.named
  have hlocks := B.notSynchronized
  subst hsz
  have hD := hD0.self (sz := s.heap.size)
  generalize hAe : va_A (cC h a cy R nd n dr fl) s.heap.size = A at hD ⊢
  have hA : ∀ q : Nat, s.heap.size ≤ q → A q := fun q h => by rw [← hAe]; exact Or.inr h
  have hS : va_S A s.heap s.heap [] := va_S.rf
  have hl := lv_entry ([.ref h, .int d]) (n := 2) (Nat.le_of_ble_eq_true rfl)
  rw [lg_entry_eq]
  generalize (lg_sl ([.ref h, .int d]) ++ List.replicate (2 - (lg_sl ([.ref h, .int d])).length) Slot.unset).toArray = ls at hl ⊢
  have hl : lv_has ls 2 [(0, .ref h), (1, .int d)] := hl
  refine lv_aload_n hx hb dX0_finish_0 rfl (lv_at hl 0 rfl) ?_
  refine lv_iload_n hx hb dX0_finish_1 rfl (lv_at hl 1 rfl) ?_
  refine rd_V (q := (RX0, TX0, 15)) (ci := 0) (q0 := 0) (As := [.int d]) (rest := []) ⟨hx, hb, hml, hown, hts⟩ (mX0_isDish l D cy h a R nd n dr fl d (by omega) (by omega) (by omega) ) (cwV 1 hts gX0_finish_X0_isDish rfl rfl rfl (by decide +kernel) ⟨Nat.le_of_ble_eq_true rfl, Nat.le_of_ble_eq_true rfl⟩) hP hK rfl rfl rfl hl.1 rfl (Nat.le_of_ble_eq_true rfl) dX0_finish_2 (Nat.zero_le _) (Nat.zero_le _) ?_
  refine lv_if_ne (tgt := 18) hx hb dX0_finish_5 (by decide) (fun c1 => ?_) (fun c1 => ?_)
  · refine lv_aload_n hx hb dX0_finish_18 rfl (lv_at hl 0 rfl) ?_
    refine lv_iload_n hx hb dX0_finish_19 rfl (lv_at hl 1 rfl) ?_
    refine rd_V (q := (RX0, TX0, 15)) (ci := 0) (q0 := 0) (As := [.int d]) (rest := []) ⟨hx, hb, hml, hown, hts⟩ (mX0_isOpen l D cy h a R nd n dr fl d (by omega) (by omega) (by omega) ) (cwV 1 hts gX0_finish_X0_isOpen rfl rfl rfl (by decide +kernel) ⟨Nat.le_of_ble_eq_true rfl, Nat.le_of_ble_eq_true rfl⟩) hP hK rfl rfl rfl hl.1 rfl (Nat.le_of_ble_eq_true rfl) dX0_finish_20 (Nat.zero_le _) (Nat.zero_le _) ?_
    refine lv_if_ne (tgt := 36) hx hb dX0_finish_23 (by decide) (fun c2 => ?_) (fun c2 => ?_)
    · refine lv_aload_n hx hb dX0_finish_36 rfl (lv_at hl 0 rfl) ?_
      refine lv_iload_n hx hb dX0_finish_37 rfl (lv_at hl 1 rfl) ?_
      refine lv_iconst (v := 2) hx hb dX0_finish_38 (by decide) ?_
      refine wr_VV (q := (RX0, TX0, 15)) (ci := 0) (q0 := 0) (ws0' := cC h a cy (chalkR R n d 2) nd (n + 1) dr fl) (As := [.int d, .int 2]) (rest := []) ⟨hx, hb, hml, hown, hts⟩ (fun sz => mX0_chalk l D cy h a R nd n dr fl d 2 (by omega) (by omega) (by omega)  sz) (cwV 2 hts gX0_finish_X0_chalk rfl rfl rfl (by decide +kernel) ⟨Nat.le_of_ble_eq_true rfl, Nat.le_of_ble_eq_true rfl⟩) hP hK hD hS hA [0, 1, 2, 3, 4, 5, 6, 7, 8, 9, 10, 11] [] [0, 1, 2, 3, 4, 5, 6, 7, 8, 9, 10, 11] rfl rfl rfl (by decide) rfl rfl rfl rfl rfl rfl rfl hl.1 rfl (Nat.le_of_ble_eq_true rfl) dX0_finish_39 (Nat.zero_le _) (Nat.zero_le _) (fun H locs hP hD hS => ?_)
      refine lv_aload_n hx hb dX0_finish_42 rfl (lv_at hl 0 rfl) ?_
      refine va_get (D := D) (ci := 0) (v := .ref (a 3)) (C := RX0) (T := TX0) (N := 15) hx hb hts inX0_finish_0 hown hK.1 hP 0 rfl rfl 3 (by decide) (hts (.fieldLink RX0 19 "ChalkSlate" "dishState" "[I") (by decide +kernel)) (fun _ h9 => h9) rfl dX0_finish_43 ?_
      refine lv_iload_n hx hb dX0_finish_46 rfl (lv_at hl 1 rfl) ?_
      refine lv_iconst (v := 1) hx hb dX0_finish_47 (by decide) ?_
      refine put_3 (rest := []) ⟨hx, hb, hml, hown, hts⟩ (va_cwS 3 hts gX0_finish_X0_put rfl rfl rfl (by decide +kernel) ⟨Nat.le_of_ble_eq_true rfl, Nat.le_of_ble_eq_true rfl⟩) hP hK hD hS hA hl.1 rfl (Nat.le_of_ble_eq_true rfl) dX0_finish_48 (Nat.zero_le _) (Nat.zero_le _) (fun H locs hP hD hS => ?_)
      refine lv_aload_n hx hb dX0_finish_51 rfl (lv_at hl 0 rfl) ?_
      refine lv_aload_n hx hb dX0_finish_52 rfl (lv_at hl 0 rfl) ?_
      refine va_get (D := D) (ci := 0) (v := .int (nI (n + 1))) (C := RX0) (T := TX0) (N := 15) hx hb hts inX0_finish_0 hown hK.1 hP 0 rfl rfl 12 (by decide) (hts (.fieldLink RX0 112 "ChalkSlate" "lines" "I") (by decide +kernel)) (fun _ h9 => h9) rfl dX0_finish_53 ?_
      refine wr_VI (q := (RX0, TX0, 15)) (ci := 0) (q0 := 0) (ws0' := cC h a cy (stepR (chalkR R n d 2) 3 20 d 1) nd (n + 1) (dryN dr (n + 1)) fl) (As := [.int (nI (n + 1))]) (rest := []) ⟨hx, hb, hml, hown, hts⟩ (fun sz => mX0_dryUpTo l D cy h a (stepR (chalkR R n d 2) 3 20 d 1) nd (n + 1) dr fl (n + 1) (by omega) (by omega) (by omega) (by omega) sz) (cwV 1 hts gX0_finish_X0_dryUpTo rfl rfl rfl (by decide +kernel) ⟨Nat.le_of_ble_eq_true rfl, Nat.le_of_ble_eq_true rfl⟩) hP hK hD hS hA [0, 1, 2, 3, 4, 5, 6, 7, 8, 9, 10, 11] [] [0, 1, 2, 3, 4, 5, 6, 7, 8, 9, 10, 11] rfl rfl rfl (by decide) rfl rfl rfl rfl rfl rfl rfl hl.1 rfl (Nat.le_of_ble_eq_true rfl) dX0_finish_56 (Nat.zero_le _) (Nat.zero_le _) (fun H locs hP hD hS => ?_)
      exact W.iret (v := nI (dryN dr (n + 1)) - nI dr) hx hb hr (fun t ht hW => ⟨⟨(nI (dryN dr (n + 1)) - nI dr), (), rfl, rfl, by show va_P D vwCl _ t.heap; rw [ht]; exact hP⟩, hS.F ht⟩) hS.2.2 dX0_finish_59
    · exact absurd (show (0 : Int32) = 2 by rw [← hout, openX, if_neg c1, if_pos c2]) (by decide)
  · exact absurd (show (0 : Int32) = 1 by rw [← hout, openX, if_pos c1]) (by decide)

set_option maxHeartbeats 4000000 in
set_option maxRecDepth 100000 in
theorem mX0_finish_t1 (l : Launch) (hfl : l.stackTraces = false) (D : va_G) (cy : ClassId) (h : Nat) (a : Nat → Nat) (R : Nat → Nat → Int32) (nd n dr : Nat) (fl : Int32) (d : Int32) (hnd : nd < 1000000) (hn : n < 1000000) (hdr : dr < 1000000) (hout : openX R nd d = 1) (sz : Nat) : ThX l yX0_finish wsX0_finish 6 82 [.ref h, .int d] D cy (cC h a cy R nd n dr fl) sz xIOB := by
  refine vx_ofW (cc := cX0_finish) (maxL := 2) (ret := (some .int)) (by decide) rfl ?_
  intro p e s m args below meth c s₁ B hml hno hv
  obtain ⟨rfl, ⟨hsz, hP, hK, hD0⟩, hX⟩ := hv
  have hx := B.exec
  have hb := B.bytes
  have hr := B.returns
  have hts := atoms_spec (ws := wsX0_finish) B.pre
  have hown : s.vm.findClass RX0 = some m.cls := findClass_of_methodNamed B.named
  have hlocks := B.notSynchronized
  subst hsz
  have hD := hD0.self (sz := s.heap.size)
  generalize hAe : va_A (cC h a cy R nd n dr fl) s.heap.size = A at hD hX ⊢
  have hA : ∀ q : Nat, s.heap.size ≤ q → A q := fun q h => by rw [← hAe]; exact Or.inr h
  have hS : va_S A s.heap s.heap [] := va_S.rf
  have hl := lv_entry ([.ref h, .int d]) (n := 2) (Nat.le_of_ble_eq_true rfl)
  rw [lg_entry_eq]
  generalize (lg_sl ([.ref h, .int d]) ++ List.replicate (2 - (lg_sl ([.ref h, .int d])).length) Slot.unset).toArray = ls at hl ⊢
  have hl : lv_has ls 2 [(0, .ref h), (1, .int d)] := hl
  refine lv_aload_n hx hb dX0_finish_0 rfl (lv_at hl 0 rfl) ?_
  refine lv_iload_n hx hb dX0_finish_1 rfl (lv_at hl 1 rfl) ?_
  refine rd_V (q := (RX0, TX0, 15)) (ci := 0) (q0 := 0) (As := [.int d]) (rest := []) ⟨hx, hb, hml, hown, hts⟩ (mX0_isDish l D cy h a R nd n dr fl d (by omega) (by omega) (by omega) ) (cwV 1 hts gX0_finish_X0_isDish rfl rfl rfl (by decide +kernel) ⟨Nat.le_of_ble_eq_true rfl, Nat.le_of_ble_eq_true rfl⟩) hP hK rfl rfl rfl hl.1 rfl (Nat.le_of_ble_eq_true rfl) dX0_finish_2 (Nat.zero_le _) (Nat.zero_le _) ?_
  refine lv_if_ne (tgt := 18) hx hb dX0_finish_5 (by decide) (fun c1 => ?_) (fun c1 => ?_)
  · refine lv_aload_n hx hb dX0_finish_18 rfl (lv_at hl 0 rfl) ?_
    refine lv_iload_n hx hb dX0_finish_19 rfl (lv_at hl 1 rfl) ?_
    refine rd_V (q := (RX0, TX0, 15)) (ci := 0) (q0 := 0) (As := [.int d]) (rest := []) ⟨hx, hb, hml, hown, hts⟩ (mX0_isOpen l D cy h a R nd n dr fl d (by omega) (by omega) (by omega) ) (cwV 1 hts gX0_finish_X0_isOpen rfl rfl rfl (by decide +kernel) ⟨Nat.le_of_ble_eq_true rfl, Nat.le_of_ble_eq_true rfl⟩) hP hK rfl rfl rfl hl.1 rfl (Nat.le_of_ble_eq_true rfl) dX0_finish_20 (Nat.zero_le _) (Nat.zero_le _) ?_
    refine lv_if_ne (tgt := 36) hx hb dX0_finish_23 (by decide) (fun c2 => ?_) (fun c2 => ?_)
    · exact absurd (show (1 : Int32) = 0 by rw [← hout, openX, if_neg c1, if_neg c2]) (by decide)
    · exact absurd (show (1 : Int32) = 2 by rw [← hout, openX, if_neg c1, if_pos c2]) (by decide)
  · obtain ⟨sa, hsa⟩ := hX.2.2.2.2.2.2.2.2.2.2.2.1
    exact vx_throwS (A := A) (own := RX0) (cls := xIOB) (text := "no such dish") (names := xNm) (ik := 81) (is := 110) (ic := 85) hx hb hfl hown (by decide +kernel) (by decide +kernel) (hts (.classLink RX0 81 xIOB) (by decide +kernel)) (hts (.initialized xIOB) (by decide +kernel)) hsa (vx_hat (L := vx_atS RX0 85 xIOB xNm) (fun w h => hts w (inxX0_finish_xIOB w h)) xn_IOB (vx_c (va_Nw.use rfl hX.2.2.2.2.1) (vx_c (va_Nw.use rfl hX.2.2.2.2.2.2.2.2.2.2.2.2.2.2.2.2.2.1) (vx_c (va_Nw.use rfl hX.2.2.2.2.2.2.2.2.2.2.2.2.2.2.2.2.2.2.1) (vx_c (va_Nw.use rfl hX.2.2.2.2.2.2.2.2.2.2.2.2.2.2.2.2.2.2.2) vx_n))))) (List.forall_mem_cons.mpr ⟨rfl, List.forall_mem_cons.mpr ⟨rfl, xg_IOB⟩⟩) hX.1 hX.2.1 hS (hl.1.trans hml.symm) dX0_finish_8 dX0_finish_11 dX0_finish_12 dX0_finish_14 dX0_finish_17 (fun x h => (hno x h).elim) (Nat.le_of_ble_eq_true rfl) (Nat.le_of_ble_eq_true rfl) (Nat.le_of_ble_eq_true rfl) (Nat.le_of_ble_eq_true rfl) hlocks (fun t hvm hz hk => ⟨(), trivial, ⟨rfl, P_ext hP hk⟩, F_ext hS hz hk⟩) hS.2.2 (Nat.le_of_ble_eq_true rfl) (Nat.le_of_ble_eq_true rfl)

set_option maxHeartbeats 4000000 in
set_option maxRecDepth 100000 in
theorem mX0_finish_t2 (l : Launch) (hfl : l.stackTraces = false) (D : va_G) (cy : ClassId) (h : Nat) (a : Nat → Nat) (R : Nat → Nat → Int32) (nd n dr : Nat) (fl : Int32) (d : Int32) (hnd : nd < 1000000) (hn : n < 1000000) (hdr : dr < 1000000) (hout : openX R nd d = 2) (sz : Nat) : ThX l yX0_finish wsX0_finish 6 82 [.ref h, .int d] D cy (cC h a cy R nd n dr fl) sz xISE := by
  refine vx_ofW (cc := cX0_finish) (maxL := 2) (ret := (some .int)) (by decide) rfl ?_
  intro p e s m args below meth c s₁ B hml hno hv
  obtain ⟨rfl, ⟨hsz, hP, hK, hD0⟩, hX⟩ := hv
  have hx := B.exec
  have hb := B.bytes
  have hr := B.returns
  have hts := atoms_spec (ws := wsX0_finish) B.pre
  have hown : s.vm.findClass RX0 = some m.cls := findClass_of_methodNamed B.named
  have hlocks := B.notSynchronized
  subst hsz
  have hD := hD0.self (sz := s.heap.size)
  generalize hAe : va_A (cC h a cy R nd n dr fl) s.heap.size = A at hD hX ⊢
  have hA : ∀ q : Nat, s.heap.size ≤ q → A q := fun q h => by rw [← hAe]; exact Or.inr h
  have hS : va_S A s.heap s.heap [] := va_S.rf
  have hl := lv_entry ([.ref h, .int d]) (n := 2) (Nat.le_of_ble_eq_true rfl)
  rw [lg_entry_eq]
  generalize (lg_sl ([.ref h, .int d]) ++ List.replicate (2 - (lg_sl ([.ref h, .int d])).length) Slot.unset).toArray = ls at hl ⊢
  have hl : lv_has ls 2 [(0, .ref h), (1, .int d)] := hl
  refine lv_aload_n hx hb dX0_finish_0 rfl (lv_at hl 0 rfl) ?_
  refine lv_iload_n hx hb dX0_finish_1 rfl (lv_at hl 1 rfl) ?_
  refine rd_V (q := (RX0, TX0, 15)) (ci := 0) (q0 := 0) (As := [.int d]) (rest := []) ⟨hx, hb, hml, hown, hts⟩ (mX0_isDish l D cy h a R nd n dr fl d (by omega) (by omega) (by omega) ) (cwV 1 hts gX0_finish_X0_isDish rfl rfl rfl (by decide +kernel) ⟨Nat.le_of_ble_eq_true rfl, Nat.le_of_ble_eq_true rfl⟩) hP hK rfl rfl rfl hl.1 rfl (Nat.le_of_ble_eq_true rfl) dX0_finish_2 (Nat.zero_le _) (Nat.zero_le _) ?_
  refine lv_if_ne (tgt := 18) hx hb dX0_finish_5 (by decide) (fun c1 => ?_) (fun c1 => ?_)
  · refine lv_aload_n hx hb dX0_finish_18 rfl (lv_at hl 0 rfl) ?_
    refine lv_iload_n hx hb dX0_finish_19 rfl (lv_at hl 1 rfl) ?_
    refine rd_V (q := (RX0, TX0, 15)) (ci := 0) (q0 := 0) (As := [.int d]) (rest := []) ⟨hx, hb, hml, hown, hts⟩ (mX0_isOpen l D cy h a R nd n dr fl d (by omega) (by omega) (by omega) ) (cwV 1 hts gX0_finish_X0_isOpen rfl rfl rfl (by decide +kernel) ⟨Nat.le_of_ble_eq_true rfl, Nat.le_of_ble_eq_true rfl⟩) hP hK rfl rfl rfl hl.1 rfl (Nat.le_of_ble_eq_true rfl) dX0_finish_20 (Nat.zero_le _) (Nat.zero_le _) ?_
    refine lv_if_ne (tgt := 36) hx hb dX0_finish_23 (by decide) (fun c2 => ?_) (fun c2 => ?_)
    · exact absurd (show (2 : Int32) = 0 by rw [← hout, openX, if_neg c1, if_neg c2]) (by decide)
    · obtain ⟨sa, hsa⟩ := hX.2.2.2.2.2.2.2.2.2.1
      exact vx_throwS (A := A) (own := RX0) (cls := xISE) (text := "the dish is not open") (names := xNm) (ik := 53) (is := 94) (ic := 57) hx hb hfl hown (by decide +kernel) (by decide +kernel) (hts (.classLink RX0 53 xISE) (by decide +kernel)) (hts (.initialized xISE) (by decide +kernel)) hsa (vx_hat (L := vx_atS RX0 57 xISE xNm) (fun w h => hts w (inxX0_finish_xISE w h)) xn_ISE (vx_c (va_Nw.use rfl hX.2.2.1) (vx_c (va_Nw.use rfl hX.2.2.2.2.2.2.2.2.2.2.2.2.2.2.2.2.2.1) (vx_c (va_Nw.use rfl hX.2.2.2.2.2.2.2.2.2.2.2.2.2.2.2.2.2.2.1) (vx_c (va_Nw.use rfl hX.2.2.2.2.2.2.2.2.2.2.2.2.2.2.2.2.2.2.2) vx_n))))) (List.forall_mem_cons.mpr ⟨rfl, List.forall_mem_cons.mpr ⟨rfl, xg_ISE⟩⟩) hX.1 hX.2.1 hS (hl.1.trans hml.symm) dX0_finish_26 dX0_finish_29 dX0_finish_30 dX0_finish_32 dX0_finish_35 (fun x h => (hno x h).elim) (Nat.le_of_ble_eq_true rfl) (Nat.le_of_ble_eq_true rfl) (Nat.le_of_ble_eq_true rfl) (Nat.le_of_ble_eq_true rfl) hlocks (fun t hvm hz hk => ⟨(), trivial, ⟨rfl, P_ext hP hk⟩, F_ext hS hz hk⟩) hS.2.2 (Nat.le_of_ble_eq_true rfl) (Nat.le_of_ble_eq_true rfl)
  · exact absurd (show (2 : Int32) = 1 by rw [← hout, openX, if_pos c1]) (by decide)

theorem inxX0_drop_xIOB : ∀ w ∈ (vx_atS RX0 85 xIOB xNm).filter goodWord, w ∈ wsX0_drop := fun _ h => List.mem_cons_of_mem _ (List.mem_append_left _ (List.mem_append_right _ h))
theorem inxX0_drop_xISE : ∀ w ∈ (vx_atS RX0 57 xISE xNm).filter goodWord, w ∈ wsX0_drop := fun _ h => List.mem_cons_of_mem _ (List.mem_append_right _ h)

set_option maxRecDepth 100000 in
theorem inX0_drop_0 : ∀ w ∈ wsX00, w ∈ wsX0_drop := by decide +kernel

set_option maxHeartbeats 4000000 in
set_option maxRecDepth 100000 in
theorem mX0_drop_ok (l : Launch) (D : va_G) (cy : ClassId) (h : Nat) (a : Nat → Nat) (R : Nat → Nat → Int32) (nd n dr : Nat) (fl : Int32) (d : Int32) (hnd : nd < 1000000) (hn : n < 1000000) (hdr : dr < 1000000) (hout : openX R nd d = 0) (hn2 : n < 400000) (sz : Nat) : WrI l yX0_drop wsX0_drop 6 135 [.ref h, .int d] D cy (cC h a cy R nd n dr fl) (cC h a cy (undoR R n d) nd (undoN R n d) dr fl) sz (undoC R n d) := by
  refine Met.ofW (cc := cX0_drop) (maxL := 2) (ret := (some .int)) (by decide) rfl ?_
  intro p e s m args below meth c s₁ B hml hv
  obtain ⟨rfl, hsz, hP, hK, hD0⟩ := hv
  have hx := B.exec
  have hb := B.bytes
  have hr := B.returns
  have hts := atoms_spec (ws := wsX0_drop) B.pre
  have hown : s.vm.findClass RX0 = some m.cls := findClass_of_methodNamed B.named
  have hlocks := B.notSynchronized
  subst hsz
  have hD := hD0.self (sz := s.heap.size)
  generalize hAe : va_A (cC h a cy R nd n dr fl) s.heap.size = A at hD ⊢
  have hA : ∀ q : Nat, s.heap.size ≤ q → A q := fun q h => by rw [← hAe]; exact Or.inr h
  have hS : va_S A s.heap s.heap [] := va_S.rf
  have hl := lv_entry ([.ref h, .int d]) (n := 2) (Nat.le_of_ble_eq_true rfl)
  rw [lg_entry_eq]
  generalize (lg_sl ([.ref h, .int d]) ++ List.replicate (2 - (lg_sl ([.ref h, .int d])).length) Slot.unset).toArray = ls at hl ⊢
  have hl : lv_has ls 2 [(0, .ref h), (1, .int d)] := hl
  refine lv_aload_n hx hb dX0_drop_0 rfl (lv_at hl 0 rfl) ?_
  refine lv_iload_n hx hb dX0_drop_1 rfl (lv_at hl 1 rfl) ?_
  refine rd_V (q := (RX0, TX0, 15)) (ci := 0) (q0 := 0) (As := [.int d]) (rest := []) ⟨hx, hb, hml, hown, hts⟩ (mX0_isDish l D cy h a R nd n dr fl d (by omega) (by omega) (by omega) ) (cwV 1 hts gX0_drop_X0_isDish rfl rfl rfl (by decide +kernel) ⟨Nat.le_of_ble_eq_true rfl, Nat.le_of_ble_eq_true rfl⟩) hP hK rfl rfl rfl hl.1 rfl (Nat.le_of_ble_eq_true rfl) dX0_drop_2 (Nat.zero_le _) (Nat.zero_le _) ?_
  refine lv_if_ne (tgt := 18) hx hb dX0_drop_5 (by decide) (fun c1 => ?_) (fun c1 => ?_)
  · refine lv_aload_n hx hb dX0_drop_18 rfl (lv_at hl 0 rfl) ?_
    refine lv_iload_n hx hb dX0_drop_19 rfl (lv_at hl 1 rfl) ?_
    refine rd_V (q := (RX0, TX0, 15)) (ci := 0) (q0 := 0) (As := [.int d]) (rest := []) ⟨hx, hb, hml, hown, hts⟩ (mX0_isOpen l D cy h a R nd n dr fl d (by omega) (by omega) (by omega) ) (cwV 1 hts gX0_drop_X0_isOpen rfl rfl rfl (by decide +kernel) ⟨Nat.le_of_ble_eq_true rfl, Nat.le_of_ble_eq_true rfl⟩) hP hK rfl rfl rfl hl.1 rfl (Nat.le_of_ble_eq_true rfl) dX0_drop_20 (Nat.zero_le _) (Nat.zero_le _) ?_
    refine lv_if_ne (tgt := 36) hx hb dX0_drop_23 (by decide) (fun c2 => ?_) (fun c2 => ?_)
    · refine lv_aload_n hx hb dX0_drop_36 rfl (lv_at hl 0 rfl) ?_
      refine lv_iload_n hx hb dX0_drop_37 rfl (lv_at hl 1 rfl) ?_
      refine wr_VI (q := (RX0, TX0, 15)) (ci := 0) (q0 := 0) (ws0' := cC h a cy (undoR R n d) nd (undoN R n d) dr fl) (As := [.int d]) (rest := []) ⟨hx, hb, hml, hown, hts⟩ (fun sz => mX0_undo l D cy h a R nd n dr fl d (by omega) (by omega) (by omega) (by omega) sz) (cwV 1 hts gX0_drop_X0_undo rfl rfl rfl (by decide +kernel) ⟨Nat.le_of_ble_eq_true rfl, Nat.le_of_ble_eq_true rfl⟩) hP hK hD hS hA [0, 1, 2, 3, 4, 5, 6, 7, 8, 9, 10, 11] [] [0, 1, 2, 3, 4, 5, 6, 7, 8, 9, 10, 11] rfl rfl rfl (by decide) rfl rfl rfl rfl rfl rfl rfl hl.1 rfl (Nat.le_of_ble_eq_true rfl) dX0_drop_38 (Nat.zero_le _) (Nat.zero_le _) (fun H locs hP hD hS => ?_)
      exact W.iret (v := undoC R n d) hx hb hr (fun t ht hW => ⟨⟨(undoC R n d), (), rfl, rfl, by show va_P D vwCl _ t.heap; rw [ht]; exact hP⟩, hS.F ht⟩) hS.2.2 dX0_drop_41
    · exact absurd (show (0 : Int32) = 2 by rw [← hout, openX, if_neg c1, if_pos c2]) (by decide)
  · exact absurd (show (0 : Int32) = 1 by rw [← hout, openX, if_pos c1]) (by decide)

set_option maxHeartbeats 4000000 in
set_option maxRecDepth 100000 in
theorem mX0_drop_t1 (l : Launch) (hfl : l.stackTraces = false) (D : va_G) (cy : ClassId) (h : Nat) (a : Nat → Nat) (R : Nat → Nat → Int32) (nd n dr : Nat) (fl : Int32) (d : Int32) (hnd : nd < 1000000) (hn : n < 1000000) (hdr : dr < 1000000) (hout : openX R nd d = 1) (sz : Nat) : ThX l yX0_drop wsX0_drop 6 82 [.ref h, .int d] D cy (cC h a cy R nd n dr fl) sz xIOB := by
  refine vx_ofW (cc := cX0_drop) (maxL := 2) (ret := (some .int)) (by decide) rfl ?_
  intro p e s m args below meth c s₁ B hml hno hv
  obtain ⟨rfl, ⟨hsz, hP, hK, hD0⟩, hX⟩ := hv
  have hx := B.exec
  have hb := B.bytes
  have hr := B.returns
  have hts := atoms_spec (ws := wsX0_drop) B.pre
  have hown : s.vm.findClass RX0 = some m.cls := findClass_of_methodNamed B.named
  have hlocks := B.notSynchronized
  subst hsz
  have hD := hD0.self (sz := s.heap.size)
  generalize hAe : va_A (cC h a cy R nd n dr fl) s.heap.size = A at hD hX ⊢
  have hA : ∀ q : Nat, s.heap.size ≤ q → A q := fun q h => by rw [← hAe]; exact Or.inr h
  have hS : va_S A s.heap s.heap [] := va_S.rf
  have hl := lv_entry ([.ref h, .int d]) (n := 2) (Nat.le_of_ble_eq_true rfl)
  rw [lg_entry_eq]
  generalize (lg_sl ([.ref h, .int d]) ++ List.replicate (2 - (lg_sl ([.ref h, .int d])).length) Slot.unset).toArray = ls at hl ⊢
  have hl : lv_has ls 2 [(0, .ref h), (1, .int d)] := hl
  refine lv_aload_n hx hb dX0_drop_0 rfl (lv_at hl 0 rfl) ?_
  refine lv_iload_n hx hb dX0_drop_1 rfl (lv_at hl 1 rfl) ?_
  refine rd_V (q := (RX0, TX0, 15)) (ci := 0) (q0 := 0) (As := [.int d]) (rest := []) ⟨hx, hb, hml, hown, hts⟩ (mX0_isDish l D cy h a R nd n dr fl d (by omega) (by omega) (by omega) ) (cwV 1 hts gX0_drop_X0_isDish rfl rfl rfl (by decide +kernel) ⟨Nat.le_of_ble_eq_true rfl, Nat.le_of_ble_eq_true rfl⟩) hP hK rfl rfl rfl hl.1 rfl (Nat.le_of_ble_eq_true rfl) dX0_drop_2 (Nat.zero_le _) (Nat.zero_le _) ?_
  refine lv_if_ne (tgt := 18) hx hb dX0_drop_5 (by decide) (fun c1 => ?_) (fun c1 => ?_)
  · refine lv_aload_n hx hb dX0_drop_18 rfl (lv_at hl 0 rfl) ?_
    refine lv_iload_n hx hb dX0_drop_19 rfl (lv_at hl 1 rfl) ?_
    refine rd_V (q := (RX0, TX0, 15)) (ci := 0) (q0 := 0) (As := [.int d]) (rest := []) ⟨hx, hb, hml, hown, hts⟩ (mX0_isOpen l D cy h a R nd n dr fl d (by omega) (by omega) (by omega) ) (cwV 1 hts gX0_drop_X0_isOpen rfl rfl rfl (by decide +kernel) ⟨Nat.le_of_ble_eq_true rfl, Nat.le_of_ble_eq_true rfl⟩) hP hK rfl rfl rfl hl.1 rfl (Nat.le_of_ble_eq_true rfl) dX0_drop_20 (Nat.zero_le _) (Nat.zero_le _) ?_
    refine lv_if_ne (tgt := 36) hx hb dX0_drop_23 (by decide) (fun c2 => ?_) (fun c2 => ?_)
    · exact absurd (show (1 : Int32) = 0 by rw [← hout, openX, if_neg c1, if_neg c2]) (by decide)
    · exact absurd (show (1 : Int32) = 2 by rw [← hout, openX, if_neg c1, if_pos c2]) (by decide)
  · obtain ⟨sa, hsa⟩ := hX.2.2.2.2.2.2.2.2.2.2.2.1
    exact vx_throwS (A := A) (own := RX0) (cls := xIOB) (text := "no such dish") (names := xNm) (ik := 81) (is := 110) (ic := 85) hx hb hfl hown (by decide +kernel) (by decide +kernel) (hts (.classLink RX0 81 xIOB) (by decide +kernel)) (hts (.initialized xIOB) (by decide +kernel)) hsa (vx_hat (L := vx_atS RX0 85 xIOB xNm) (fun w h => hts w (inxX0_drop_xIOB w h)) xn_IOB (vx_c (va_Nw.use rfl hX.2.2.2.2.1) (vx_c (va_Nw.use rfl hX.2.2.2.2.2.2.2.2.2.2.2.2.2.2.2.2.2.1) (vx_c (va_Nw.use rfl hX.2.2.2.2.2.2.2.2.2.2.2.2.2.2.2.2.2.2.1) (vx_c (va_Nw.use rfl hX.2.2.2.2.2.2.2.2.2.2.2.2.2.2.2.2.2.2.2) vx_n))))) (List.forall_mem_cons.mpr ⟨rfl, List.forall_mem_cons.mpr ⟨rfl, xg_IOB⟩⟩) hX.1 hX.2.1 hS (hl.1.trans hml.symm) dX0_drop_8 dX0_drop_11 dX0_drop_12 dX0_drop_14 dX0_drop_17 (fun x h => (hno x h).elim) (Nat.le_of_ble_eq_true rfl) (Nat.le_of_ble_eq_true rfl) (Nat.le_of_ble_eq_true rfl) (Nat.le_of_ble_eq_true rfl) hlocks (fun t hvm hz hk => ⟨(), trivial, ⟨rfl, P_ext hP hk⟩, F_ext hS hz hk⟩) hS.2.2 (Nat.le_of_ble_eq_true rfl) (Nat.le_of_ble_eq_true rfl)

set_option maxHeartbeats 4000000 in
set_option maxRecDepth 100000 in
theorem mX0_drop_t2 (l : Launch) (hfl : l.stackTraces = false) (D : va_G) (cy : ClassId) (h : Nat) (a : Nat → Nat) (R : Nat → Nat → Int32) (nd n dr : Nat) (fl : Int32) (d : Int32) (hnd : nd < 1000000) (hn : n < 1000000) (hdr : dr < 1000000) (hout : openX R nd d = 2) (sz : Nat) : ThX l yX0_drop wsX0_drop 6 82 [.ref h, .int d] D cy (cC h a cy R nd n dr fl) sz xISE := by
  refine vx_ofW (cc := cX0_drop) (maxL := 2) (ret := (some .int)) (by decide) rfl ?_
  intro p e s m args below meth c s₁ B hml hno hv
  obtain ⟨rfl, ⟨hsz, hP, hK, hD0⟩, hX⟩ := hv
  have hx := B.exec
  have hb := B.bytes
  have hr := B.returns
  have hts := atoms_spec (ws := wsX0_drop) B.pre
  have hown : s.vm.findClass RX0 = some m.cls := findClass_of_methodNamed B.named
  have hlocks := B.notSynchronized
  subst hsz
  have hD := hD0.self (sz := s.heap.size)
  generalize hAe : va_A (cC h a cy R nd n dr fl) s.heap.size = A at hD hX ⊢
  have hA : ∀ q : Nat, s.heap.size ≤ q → A q := fun q h => by rw [← hAe]; exact Or.inr h
  have hS : va_S A s.heap s.heap [] := va_S.rf
  have hl := lv_entry ([.ref h, .int d]) (n := 2) (Nat.le_of_ble_eq_true rfl)
  rw [lg_entry_eq]
  generalize (lg_sl ([.ref h, .int d]) ++ List.replicate (2 - (lg_sl ([.ref h, .int d])).length) Slot.unset).toArray = ls at hl ⊢
  have hl : lv_has ls 2 [(0, .ref h), (1, .int d)] := hl
  refine lv_aload_n hx hb dX0_drop_0 rfl (lv_at hl 0 rfl) ?_
  refine lv_iload_n hx hb dX0_drop_1 rfl (lv_at hl 1 rfl) ?_
  refine rd_V (q := (RX0, TX0, 15)) (ci := 0) (q0 := 0) (As := [.int d]) (rest := []) ⟨hx, hb, hml, hown, hts⟩ (mX0_isDish l D cy h a R nd n dr fl d (by omega) (by omega) (by omega) ) (cwV 1 hts gX0_drop_X0_isDish rfl rfl rfl (by decide +kernel) ⟨Nat.le_of_ble_eq_true rfl, Nat.le_of_ble_eq_true rfl⟩) hP hK rfl rfl rfl hl.1 rfl (Nat.le_of_ble_eq_true rfl) dX0_drop_2 (Nat.zero_le _) (Nat.zero_le _) ?_
  refine lv_if_ne (tgt := 18) hx hb dX0_drop_5 (by decide) (fun c1 => ?_) (fun c1 => ?_)
  · refine lv_aload_n hx hb dX0_drop_18 rfl (lv_at hl 0 rfl) ?_
    refine lv_iload_n hx hb dX0_drop_19 rfl (lv_at hl 1 rfl) ?_
    refine rd_V (q := (RX0, TX0, 15)) (ci := 0) (q0 := 0) (As := [.int d]) (rest := []) ⟨hx, hb, hml, hown, hts⟩ (mX0_isOpen l D cy h a R nd n dr fl d (by omega) (by omega) (by omega) ) (cwV 1 hts gX0_drop_X0_isOpen rfl rfl rfl (by decide +kernel) ⟨Nat.le_of_ble_eq_true rfl, Nat.le_of_ble_eq_true rfl⟩) hP hK rfl rfl rfl hl.1 rfl (Nat.le_of_ble_eq_true rfl) dX0_drop_20 (Nat.zero_le _) (Nat.zero_le _) ?_
    refine lv_if_ne (tgt := 36) hx hb dX0_drop_23 (by decide) (fun c2 => ?_) (fun c2 => ?_)
    · exact absurd (show (2 : Int32) = 0 by rw [← hout, openX, if_neg c1, if_neg c2]) (by decide)
    · obtain ⟨sa, hsa⟩ := hX.2.2.2.2.2.2.2.2.2.1
      exact vx_throwS (A := A) (own := RX0) (cls := xISE) (text := "the dish is not open") (names := xNm) (ik := 53) (is := 94) (ic := 57) hx hb hfl hown (by decide +kernel) (by decide +kernel) (hts (.classLink RX0 53 xISE) (by decide +kernel)) (hts (.initialized xISE) (by decide +kernel)) hsa (vx_hat (L := vx_atS RX0 57 xISE xNm) (fun w h => hts w (inxX0_drop_xISE w h)) xn_ISE (vx_c (va_Nw.use rfl hX.2.2.1) (vx_c (va_Nw.use rfl hX.2.2.2.2.2.2.2.2.2.2.2.2.2.2.2.2.2.1) (vx_c (va_Nw.use rfl hX.2.2.2.2.2.2.2.2.2.2.2.2.2.2.2.2.2.2.1) (vx_c (va_Nw.use rfl hX.2.2.2.2.2.2.2.2.2.2.2.2.2.2.2.2.2.2.2) vx_n))))) (List.forall_mem_cons.mpr ⟨rfl, List.forall_mem_cons.mpr ⟨rfl, xg_ISE⟩⟩) hX.1 hX.2.1 hS (hl.1.trans hml.symm) dX0_drop_26 dX0_drop_29 dX0_drop_30 dX0_drop_32 dX0_drop_35 (fun x h => (hno x h).elim) (Nat.le_of_ble_eq_true rfl) (Nat.le_of_ble_eq_true rfl) (Nat.le_of_ble_eq_true rfl) (Nat.le_of_ble_eq_true rfl) hlocks (fun t hvm hz hk => ⟨(), trivial, ⟨rfl, P_ext hP hk⟩, F_ext hS hz hk⟩) hS.2.2 (Nat.le_of_ble_eq_true rfl) (Nat.le_of_ble_eq_true rfl)
  · exact absurd (show (2 : Int32) = 1 by rw [← hout, openX, if_pos c1]) (by decide)

theorem inxX0_shelve_xIOB : ∀ w ∈ (vx_atS RX0 85 xIOB xNm).filter goodWord, w ∈ wsX0_shelve := fun _ h => List.mem_cons_of_mem _ (List.mem_append_right _ h)

set_option maxRecDepth 100000 in
theorem inX0_shelve_0 : ∀ w ∈ wsX00, w ∈ wsX0_shelve := by decide +kernel

set_option maxHeartbeats 4000000 in
set_option maxRecDepth 100000 in
theorem mX0_shelve_ok (l : Launch) (D : va_G) (cy : ClassId) (h : Nat) (a : Nat → Nat) (R : Nat → Nat → Int32) (nd n dr : Nat) (fl : Int32) (u : Int32) (hnd : nd < 1000000) (hn : n < 1000000) (hdr : dr < 1000000) (hout : potX u = 0) (sz : Nat) : WrI l yX0_shelve wsX0_shelve 3 64 [.ref h, .int u] D cy (cC h a cy R nd n dr fl) (cC h a cy (stepR (stepR R 1 8 u (atS 8 (R 0) u)) 2 8 u (lastS (R 6) u n)) nd n (dryN dr (lastN1 (R 6) u n)) fl) sz (nI (dryN dr (lastN1 (R 6) u n)) - nI dr) := by
  refine Met.ofW (cc := cX0_shelve) (maxL := 4) (ret := (some .int)) (by decide) rfl ?_
  intro p e s m args below meth c s₁ B hml hv
  obtain ⟨rfl, hsz, hP, hK, hD0⟩ := hv
  have hx := B.exec
  have hb := B.bytes
  have hr := B.returns
  have hts := atoms_spec (ws := wsX0_shelve) B.pre
  have hown : s.vm.findClass RX0 = some m.cls := findClass_of_methodNamed B.named
  have hlocks := B.notSynchronized
  subst hsz
  have hD := hD0.self (sz := s.heap.size)
  generalize hAe : va_A (cC h a cy R nd n dr fl) s.heap.size = A at hD ⊢
  have hA : ∀ q : Nat, s.heap.size ≤ q → A q := fun q h => by rw [← hAe]; exact Or.inr h
  have hS : va_S A s.heap s.heap [] := va_S.rf
  have hl := lv_entry ([.ref h, .int u]) (n := 4) (Nat.le_of_ble_eq_true rfl)
  rw [lg_entry_eq]
  generalize (lg_sl ([.ref h, .int u]) ++ List.replicate (4 - (lg_sl ([.ref h, .int u])).length) Slot.unset).toArray = ls at hl ⊢
  have hl : lv_has ls 4 [(0, .ref h), (1, .int u)] := hl
  refine lv_iload_n hx hb dX0_shelve_0 rfl (lv_at hl 1 rfl) ?_
  refine rd_S (As := [.int u]) (rest := []) ⟨hx, hb, hml, hown, hts⟩ (mX0_isPot l D cy u) (va_cwS 1 hts gX0_shelve_X0_isPot rfl rfl rfl (by decide +kernel) ⟨Nat.le_of_ble_eq_true rfl, Nat.le_of_ble_eq_true rfl⟩) (hP.sub (ws' := []) [] rfl) hK rfl hl.1 rfl (Nat.le_of_ble_eq_true rfl) dX0_shelve_1 (Nat.zero_le _) (Nat.zero_le _) ?_
  refine lv_if_ne (tgt := 17) hx hb dX0_shelve_4 (by decide) (fun c1 => ?_) (fun c1 => ?_)
  · refine lv_aload_n hx hb dX0_shelve_17 rfl (lv_at hl 0 rfl) ?_
    refine lv_iload_n hx hb dX0_shelve_18 rfl (lv_at hl 1 rfl) ?_
    refine rd_V (q := (RX0, TX0, 15)) (ci := 0) (q0 := 0) (As := [.int u]) (rest := []) ⟨hx, hb, hml, hown, hts⟩ (mX0_latestLineOf l D cy h a R nd n dr fl u (by omega) (by omega) (by omega) ) (cwV 1 hts gX0_shelve_X0_latestLineOf rfl rfl rfl (by decide +kernel) ⟨Nat.le_of_ble_eq_true rfl, Nat.le_of_ble_eq_true rfl⟩) hP hK rfl rfl rfl hl.1 rfl (Nat.le_of_ble_eq_true rfl) dX0_shelve_19 (Nat.zero_le _) (Nat.zero_le _) ?_
    refine lv_istore_n (lv' := [(2, .int (lastS (R 6) u n)), (0, .ref h), (1, .int u)]) hx hb dX0_shelve_22 rfl hl (by decide) rfl (fun ls hl => ?_)
    refine lv_aload_n hx hb dX0_shelve_23 rfl (lv_at hl 1 rfl) ?_
    refine lv_iload_n hx hb dX0_shelve_24 rfl (lv_at hl 0 rfl) ?_
    refine lv_iconst (v := 1) hx hb dX0_shelve_25 (by decide) ?_
    refine lv_iadd hx hb dX0_shelve_26 ?_
    rw [lastN1_eq (R 6) u n]
    have hlat := lastN1_le (R 6) u n
    refine wr_VI (q := (RX0, TX0, 15)) (ci := 0) (q0 := 0) (ws0' := cC h a cy R nd n (dryN dr (lastN1 (R 6) u n)) fl) (As := [.int (nI (lastN1 (R 6) u n))]) (rest := []) ⟨hx, hb, hml, hown, hts⟩ (fun sz => mX0_dryUpTo l D cy h a R nd n dr fl (lastN1 (R 6) u n) (by omega) (by omega) (by omega) (by omega) sz) (cwV 1 hts gX0_shelve_X0_dryUpTo rfl rfl rfl (by decide +kernel) ⟨Nat.le_of_ble_eq_true rfl, Nat.le_of_ble_eq_true rfl⟩) hP hK hD hS hA [0, 1, 2, 3, 4, 5, 6, 7, 8, 9, 10, 11] [] [0, 1, 2, 3, 4, 5, 6, 7, 8, 9, 10, 11] rfl rfl rfl (by decide) rfl rfl rfl rfl rfl rfl rfl hl.1 rfl (Nat.le_of_ble_eq_true rfl) dX0_shelve_27 (Nat.zero_le _) (Nat.zero_le _) (fun H locs hP hD hS => ?_)
    refine lv_istore_n (lv' := [(3, .int (nI (dryN dr (lastN1 (R 6) u n)) - nI dr)), (2, .int (lastS (R 6) u n)), (0, .ref h), (1, .int u)]) hx hb dX0_shelve_30 rfl hl (by decide) rfl (fun ls hl => ?_)
    refine lv_aload_n hx hb dX0_shelve_31 rfl (lv_at hl 2 rfl) ?_
    refine va_get (D := D) (ci := 0) (v := .ref (a 1)) (C := RX0) (T := TX0) (N := 15) hx hb hts inX0_shelve_0 hown hK.1 hP 0 rfl rfl 1 (by decide) (hts (.fieldLink RX0 13 "ChalkSlate" "shelf" "[I") (by decide +kernel)) (fun _ h9 => h9) rfl dX0_shelve_32 ?_
    refine lv_iload_n hx hb dX0_shelve_35 rfl (lv_at hl 3 rfl) ?_
    refine lv_aload_n hx hb dX0_shelve_36 rfl (lv_at hl 2 rfl) ?_
    refine va_get (D := D) (ci := 0) (v := .ref (a 0)) (C := RX0) (T := TX0) (N := 15) hx hb hts inX0_shelve_0 hown hK.1 hP 0 rfl rfl 0 (by decide) (hts (.fieldLink RX0 9 "ChalkSlate" "stove" "[I") (by decide +kernel)) (fun _ h9 => h9) rfl dX0_shelve_37 ?_
    refine lv_iload_n hx hb dX0_shelve_40 rfl (lv_at hl 3 rfl) ?_
    refine rd_S (As := [.ref (a 0), .int u]) (rest := [.int u, .ref (a 1)]) ⟨hx, hb, hml, hown, hts⟩ (mX0_at l D cy (a 0) 8 (R 0) u (Nat.le_of_ble_eq_true rfl)) (va_cwS 2 hts gX0_shelve_X0_at rfl rfl rfl (by decide +kernel) ⟨Nat.le_of_ble_eq_true rfl, Nat.le_of_ble_eq_true rfl⟩) (hP.sub (ws' := [(a 0, .inl (cy, 8, .inl (R 0)))]) [1] rfl) hK rfl hl.1 rfl (Nat.le_of_ble_eq_true rfl) dX0_shelve_41 (Nat.zero_le _) (Nat.zero_le _) ?_
    refine put_1 (rest := []) ⟨hx, hb, hml, hown, hts⟩ (va_cwS 3 hts gX0_shelve_X0_put rfl rfl rfl (by decide +kernel) ⟨Nat.le_of_ble_eq_true rfl, Nat.le_of_ble_eq_true rfl⟩) hP hK hD hS hA hl.1 rfl (Nat.le_of_ble_eq_true rfl) dX0_shelve_44 (Nat.zero_le _) (Nat.zero_le _) (fun H locs hP hD hS => ?_)
    refine lv_aload_n hx hb dX0_shelve_47 rfl (lv_at hl 2 rfl) ?_
    refine va_get (D := D) (ci := 0) (v := .ref (a 2)) (C := RX0) (T := TX0) (N := 15) hx hb hts inX0_shelve_0 hown hK.1 hP 0 rfl rfl 2 (by decide) (hts (.fieldLink RX0 16 "ChalkSlate" "stamp" "[I") (by decide +kernel)) (fun _ h9 => h9) rfl dX0_shelve_48 ?_
    refine lv_iload_n hx hb dX0_shelve_51 rfl (lv_at hl 3 rfl) ?_
    refine lv_iload_n hx hb dX0_shelve_52 rfl (lv_at hl 1 rfl) ?_
    refine put_2 (rest := []) ⟨hx, hb, hml, hown, hts⟩ (va_cwS 3 hts gX0_shelve_X0_put rfl rfl rfl (by decide +kernel) ⟨Nat.le_of_ble_eq_true rfl, Nat.le_of_ble_eq_true rfl⟩) hP hK hD hS hA hl.1 rfl (Nat.le_of_ble_eq_true rfl) dX0_shelve_53 (Nat.zero_le _) (Nat.zero_le _) (fun H locs hP hD hS => ?_)
    refine lv_iload_n hx hb dX0_shelve_56 rfl (lv_at hl 0 rfl) ?_
    exact W.iret (v := nI (dryN dr (lastN1 (R 6) u n)) - nI dr) hx hb hr (fun t ht hW => ⟨⟨(nI (dryN dr (lastN1 (R 6) u n)) - nI dr), (), rfl, rfl, by show va_P D vwCl _ t.heap; rw [ht]; exact hP⟩, hS.F ht⟩) hS.2.2 dX0_shelve_57
  · exact absurd (show (0 : Int32) = 1 by rw [← hout, potX, if_pos c1]) (by decide)

set_option maxHeartbeats 4000000 in
set_option maxRecDepth 100000 in
theorem mX0_shelve_t1 (l : Launch) (hfl : l.stackTraces = false) (D : va_G) (cy : ClassId) (h : Nat) (a : Nat → Nat) (R : Nat → Nat → Int32) (nd n dr : Nat) (fl : Int32) (u : Int32) (hnd : nd < 1000000) (hn : n < 1000000) (hdr : dr < 1000000) (hout : potX u = 1) (sz : Nat) : ThX l yX0_shelve wsX0_shelve 6 82 [.ref h, .int u] D cy (cC h a cy R nd n dr fl) sz xIOB := by
  refine vx_ofW (cc := cX0_shelve) (maxL := 4) (ret := (some .int)) (by decide) rfl ?_
  intro p e s m args below meth c s₁ B hml hno hv
  obtain ⟨rfl, ⟨hsz, hP, hK, hD0⟩, hX⟩ := hv
  have hx := B.exec
  have hb := B.bytes
  have hr := B.returns
  have hts := atoms_spec (ws := wsX0_shelve) B.pre
  have hown : s.vm.findClass RX0 = some m.cls := findClass_of_methodNamed B.named
  have hlocks := B.notSynchronized
  subst hsz
  have hD := hD0.self (sz := s.heap.size)
  generalize hAe : va_A (cC h a cy R nd n dr fl) s.heap.size = A at hD hX ⊢
  have hA : ∀ q : Nat, s.heap.size ≤ q → A q := fun q h => by rw [← hAe]; exact Or.inr h
  have hS : va_S A s.heap s.heap [] := va_S.rf
  have hl := lv_entry ([.ref h, .int u]) (n := 4) (Nat.le_of_ble_eq_true rfl)
  rw [lg_entry_eq]
  generalize (lg_sl ([.ref h, .int u]) ++ List.replicate (4 - (lg_sl ([.ref h, .int u])).length) Slot.unset).toArray = ls at hl ⊢
  have hl : lv_has ls 4 [(0, .ref h), (1, .int u)] := hl
  refine lv_iload_n hx hb dX0_shelve_0 rfl (lv_at hl 1 rfl) ?_
  refine rd_S (As := [.int u]) (rest := []) ⟨hx, hb, hml, hown, hts⟩ (mX0_isPot l D cy u) (va_cwS 1 hts gX0_shelve_X0_isPot rfl rfl rfl (by decide +kernel) ⟨Nat.le_of_ble_eq_true rfl, Nat.le_of_ble_eq_true rfl⟩) (hP.sub (ws' := []) [] rfl) hK rfl hl.1 rfl (Nat.le_of_ble_eq_true rfl) dX0_shelve_1 (Nat.zero_le _) (Nat.zero_le _) ?_
  refine lv_if_ne (tgt := 17) hx hb dX0_shelve_4 (by decide) (fun c1 => ?_) (fun c1 => ?_)
  · exact absurd (show (1 : Int32) = 0 by rw [← hout, potX, if_neg c1]) (by decide)
  · obtain ⟨sa, hsa⟩ := hX.2.2.2.2.2.2.2.2.2.2.2.2.1
    exact vx_throwS (A := A) (own := RX0) (cls := xIOB) (text := "no such pot") (names := xNm) (ik := 81) (is := 121) (ic := 85) hx hb hfl hown (by decide +kernel) (by decide +kernel) (hts (.classLink RX0 81 xIOB) (by decide +kernel)) (hts (.initialized xIOB) (by decide +kernel)) hsa (vx_hat (L := vx_atS RX0 85 xIOB xNm) (fun w h => hts w (inxX0_shelve_xIOB w h)) xn_IOB (vx_c (va_Nw.use rfl hX.2.2.2.2.1) (vx_c (va_Nw.use rfl hX.2.2.2.2.2.2.2.2.2.2.2.2.2.2.2.2.2.1) (vx_c (va_Nw.use rfl hX.2.2.2.2.2.2.2.2.2.2.2.2.2.2.2.2.2.2.1) (vx_c (va_Nw.use rfl hX.2.2.2.2.2.2.2.2.2.2.2.2.2.2.2.2.2.2.2) vx_n))))) (List.forall_mem_cons.mpr ⟨rfl, List.forall_mem_cons.mpr ⟨rfl, xg_IOB⟩⟩) hX.1 hX.2.1 hS (hl.1.trans hml.symm) dX0_shelve_7 dX0_shelve_10 dX0_shelve_11 dX0_shelve_13 dX0_shelve_16 (fun x h => (hno x h).elim) (Nat.le_of_ble_eq_true rfl) (Nat.le_of_ble_eq_true rfl) (Nat.le_of_ble_eq_true rfl) (Nat.le_of_ble_eq_true rfl) hlocks (fun t hvm hz hk => ⟨(), trivial, ⟨rfl, P_ext hP hk⟩, F_ext hS hz hk⟩) hS.2.2 (Nat.le_of_ble_eq_true rfl) (Nat.le_of_ble_eq_true rfl)

theorem inxX0_pot_xIOB : ∀ w ∈ (vx_atS RX0 85 xIOB xNm).filter goodWord, w ∈ wsX0_pot := fun _ h => List.mem_cons_of_mem _ (List.mem_append_right _ h)

set_option maxRecDepth 100000 in
theorem inX0_pot_0 : ∀ w ∈ wsX00, w ∈ wsX0_pot := by decide +kernel

set_option maxHeartbeats 4000000 in
set_option maxRecDepth 100000 in
theorem mX0_pot_ok (l : Launch) (D : va_G) (cy : ClassId) (h : Nat) (a : Nat → Nat) (R : Nat → Nat → Int32) (nd n dr : Nat) (fl : Int32) (u w : Int32) (hnd : nd < 1000000) (hn : n < 1000000) (hdr : dr < 1000000) (hout : potqX u w = 0) : RdI l yX0_pot wsX0_pot 5 108 [.ref h, .int u, .int w] D cy (cC h a cy R nd n dr fl) (potAnsS R n u w) := by
  refine Met.ofW (cc := cX0_pot) (maxL := 3) (ret := (some .int)) (by decide) rfl ?_
  intro p e s m args below meth c s₁ B hml hv
  obtain ⟨rfl, hP, hK⟩ := hv
  have hx := B.exec
  have hb := B.bytes
  have hr := B.returns
  have hts := atoms_spec (ws := wsX0_pot) B.pre
  have hown : s.vm.findClass RX0 = some m.cls := findClass_of_methodNamed B.named
  have hlocks := B.notSynchronized
  have hl := lv_entry ([.ref h, .int u, .int w]) (n := 3) (Nat.le_of_ble_eq_true rfl)
  rw [lg_entry_eq]
  generalize (lg_sl ([.ref h, .int u, .int w]) ++ List.replicate (3 - (lg_sl ([.ref h, .int u, .int w])).length) Slot.unset).toArray = ls at hl ⊢
  have hl : lv_has ls 3 [(0, .ref h), (1, .int u), (2, .int w)] := hl
  refine lv_iload_n hx hb dX0_pot_0 rfl (lv_at hl 1 rfl) ?_
  refine rd_S (As := [.int u]) (rest := []) ⟨hx, hb, hml, hown, hts⟩ (mX0_isPot l D cy u) (va_cwS 1 hts gX0_pot_X0_isPot rfl rfl rfl (by decide +kernel) ⟨Nat.le_of_ble_eq_true rfl, Nat.le_of_ble_eq_true rfl⟩) (hP.sub (ws' := []) [] rfl) hK rfl hl.1 rfl (Nat.le_of_ble_eq_true rfl) dX0_pot_1 (Nat.zero_le _) (Nat.zero_le _) ?_
  refine lv_if_eq (tgt := 15) hx hb dX0_pot_4 (by decide) (fun c1 => ?_) (fun c1 => ?_)
  · exact absurd (show (0 : Int32) = 1 by rw [← hout, potqX, if_pos c1]) (by decide)
  · refine lv_iload_n hx hb dX0_pot_7 rfl (lv_at hl 2 rfl) ?_
    refine lv_iconst (v := 5) hx hb dX0_pot_8 (by decide) ?_
    refine rd_S (As := [.int w, .int 5]) (rest := []) ⟨hx, hb, hml, hown, hts⟩ (mX0_isBelow l D cy w 5) (va_cwS 2 hts gX0_pot_X0_isBelow rfl rfl rfl (by decide +kernel) ⟨Nat.le_of_ble_eq_true rfl, Nat.le_of_ble_eq_true rfl⟩) (hP.sub (ws' := []) [] rfl) hK rfl hl.1 rfl (Nat.le_of_ble_eq_true rfl) dX0_pot_9 (Nat.zero_le _) (Nat.zero_le _) ?_
    refine lv_if_ne (tgt := 25) hx hb dX0_pot_12 (by decide) (fun c2 => ?_) (fun c2 => ?_)
    · refine lv_aload_n hx hb dX0_pot_25 rfl (lv_at hl 0 rfl) ?_
      refine lv_iload_n hx hb dX0_pot_26 rfl (lv_at hl 1 rfl) ?_
      refine lv_iload_n hx hb dX0_pot_27 rfl (lv_at hl 2 rfl) ?_
      refine rd_V (q := (RX0, TX0, 15)) (ci := 0) (q0 := 0) (As := [.int u, .int w]) (rest := []) ⟨hx, hb, hml, hown, hts⟩ (mX0_potAnswer l D cy h a R nd n dr fl u w (by omega) (by omega) (by omega) ) (cwV 2 hts gX0_pot_X0_potAnswer rfl rfl rfl (by decide +kernel) ⟨Nat.le_of_ble_eq_true rfl, Nat.le_of_ble_eq_true rfl⟩) hP hK rfl rfl rfl hl.1 rfl (Nat.le_of_ble_eq_true rfl) dX0_pot_28 (Nat.zero_le _) (Nat.zero_le _) ?_
      exact W.iret (v := potAnsS R n u w) hx hb hr (fun t ht hW => ⟨(potAnsS R n u w), rfl, rfl, ht⟩) (fun q hq => absurd hq List.not_mem_nil) dX0_pot_31
    · exact absurd (show (0 : Int32) = 1 by rw [← hout, potqX, if_neg c1, if_pos c2]) (by decide)

set_option maxHeartbeats 4000000 in
set_option maxRecDepth 100000 in
theorem mX0_pot_t1 (l : Launch) (hfl : l.stackTraces = false) (D : va_G) (cy : ClassId) (h : Nat) (a : Nat → Nat) (R : Nat → Nat → Int32) (nd n dr : Nat) (fl : Int32) (u w : Int32) (hnd : nd < 1000000) (hn : n < 1000000) (hdr : dr < 1000000) (hout : potqX u w = 1) (sz : Nat) : ThX l yX0_pot wsX0_pot 6 82 [.ref h, .int u, .int w] D cy (cC h a cy R nd n dr fl) sz xIOB := by
  refine vx_ofW (cc := cX0_pot) (maxL := 3) (ret := (some .int)) (by decide) rfl ?_
  intro p e s m args below meth c s₁ B hml hno hv
  obtain ⟨rfl, ⟨hsz, hP, hK, hD0⟩, hX⟩ := hv
  have hx := B.exec
  have hb := B.bytes
  have hr := B.returns
  have hts := atoms_spec (ws := wsX0_pot) B.pre
  have hown : s.vm.findClass RX0 = some m.cls := findClass_of_methodNamed B.named
  have hlocks := B.notSynchronized
  subst hsz
  have hD := hD0.self (sz := s.heap.size)
  generalize hAe : va_A (cC h a cy R nd n dr fl) s.heap.size = A at hD hX ⊢
  have hA : ∀ q : Nat, s.heap.size ≤ q → A q := fun q h => by rw [← hAe]; exact Or.inr h
  have hS : va_S A s.heap s.heap [] := va_S.rf
  have hl := lv_entry ([.ref h, .int u, .int w]) (n := 3) (Nat.le_of_ble_eq_true rfl)
  rw [lg_entry_eq]
  generalize (lg_sl ([.ref h, .int u, .int w]) ++ List.replicate (3 - (lg_sl ([.ref h, .int u, .int w])).length) Slot.unset).toArray = ls at hl ⊢
  have hl : lv_has ls 3 [(0, .ref h), (1, .int u), (2, .int w)] := hl
  refine lv_iload_n hx hb dX0_pot_0 rfl (lv_at hl 1 rfl) ?_
  refine rd_S (As := [.int u]) (rest := []) ⟨hx, hb, hml, hown, hts⟩ (mX0_isPot l D cy u) (va_cwS 1 hts gX0_pot_X0_isPot rfl rfl rfl (by decide +kernel) ⟨Nat.le_of_ble_eq_true rfl, Nat.le_of_ble_eq_true rfl⟩) (hP.sub (ws' := []) [] rfl) hK rfl hl.1 rfl (Nat.le_of_ble_eq_true rfl) dX0_pot_1 (Nat.zero_le _) (Nat.zero_le _) ?_
  refine lv_if_eq (tgt := 15) hx hb dX0_pot_4 (by decide) (fun c1 => ?_) (fun c1 => ?_)
  · obtain ⟨sa, hsa⟩ := hX.2.2.2.2.2.2.2.2.2.2.2.2.2.1
    exact vx_throwS (A := A) (own := RX0) (cls := xIOB) (text := "no such pot or answer") (names := xNm) (ik := 81) (is := 145) (ic := 85) hx hb hfl hown (by decide +kernel) (by decide +kernel) (hts (.classLink RX0 81 xIOB) (by decide +kernel)) (hts (.initialized xIOB) (by decide +kernel)) hsa (vx_hat (L := vx_atS RX0 85 xIOB xNm) (fun w h => hts w (inxX0_pot_xIOB w h)) xn_IOB (vx_c (va_Nw.use rfl hX.2.2.2.2.1) (vx_c (va_Nw.use rfl hX.2.2.2.2.2.2.2.2.2.2.2.2.2.2.2.2.2.1) (vx_c (va_Nw.use rfl hX.2.2.2.2.2.2.2.2.2.2.2.2.2.2.2.2.2.2.1) (vx_c (va_Nw.use rfl hX.2.2.2.2.2.2.2.2.2.2.2.2.2.2.2.2.2.2.2) vx_n))))) (List.forall_mem_cons.mpr ⟨rfl, List.forall_mem_cons.mpr ⟨rfl, xg_IOB⟩⟩) hX.1 hX.2.1 hS (hl.1.trans hml.symm) dX0_pot_15 dX0_pot_18 dX0_pot_19 dX0_pot_21 dX0_pot_24 (fun x h => (hno x h).elim) (Nat.le_of_ble_eq_true rfl) (Nat.le_of_ble_eq_true rfl) (Nat.le_of_ble_eq_true rfl) (Nat.le_of_ble_eq_true rfl) hlocks (fun t hvm hz hk => ⟨(), trivial, ⟨rfl, P_ext hP hk⟩, F_ext hS hz hk⟩) hS.2.2 (Nat.le_of_ble_eq_true rfl) (Nat.le_of_ble_eq_true rfl)
  · refine lv_iload_n hx hb dX0_pot_7 rfl (lv_at hl 2 rfl) ?_
    refine lv_iconst (v := 5) hx hb dX0_pot_8 (by decide) ?_
    refine rd_S (As := [.int w, .int 5]) (rest := []) ⟨hx, hb, hml, hown, hts⟩ (mX0_isBelow l D cy w 5) (va_cwS 2 hts gX0_pot_X0_isBelow rfl rfl rfl (by decide +kernel) ⟨Nat.le_of_ble_eq_true rfl, Nat.le_of_ble_eq_true rfl⟩) (hP.sub (ws' := []) [] rfl) hK rfl hl.1 rfl (Nat.le_of_ble_eq_true rfl) dX0_pot_9 (Nat.zero_le _) (Nat.zero_le _) ?_
    refine lv_if_ne (tgt := 25) hx hb dX0_pot_12 (by decide) (fun c2 => ?_) (fun c2 => ?_)
    · exact absurd (show (1 : Int32) = 0 by rw [← hout, potqX, if_neg c1, if_neg c2]) (by decide)
    · obtain ⟨sa, hsa⟩ := hX.2.2.2.2.2.2.2.2.2.2.2.2.2.1
      exact vx_throwS (A := A) (own := RX0) (cls := xIOB) (text := "no such pot or answer") (names := xNm) (ik := 81) (is := 145) (ic := 85) hx hb hfl hown (by decide +kernel) (by decide +kernel) (hts (.classLink RX0 81 xIOB) (by decide +kernel)) (hts (.initialized xIOB) (by decide +kernel)) hsa (vx_hat (L := vx_atS RX0 85 xIOB xNm) (fun w h => hts w (inxX0_pot_xIOB w h)) xn_IOB (vx_c (va_Nw.use rfl hX.2.2.2.2.1) (vx_c (va_Nw.use rfl hX.2.2.2.2.2.2.2.2.2.2.2.2.2.2.2.2.2.1) (vx_c (va_Nw.use rfl hX.2.2.2.2.2.2.2.2.2.2.2.2.2.2.2.2.2.2.1) (vx_c (va_Nw.use rfl hX.2.2.2.2.2.2.2.2.2.2.2.2.2.2.2.2.2.2.2) vx_n))))) (List.forall_mem_cons.mpr ⟨rfl, List.forall_mem_cons.mpr ⟨rfl, xg_IOB⟩⟩) hX.1 hX.2.1 hS (hl.1.trans hml.symm) dX0_pot_15 dX0_pot_18 dX0_pot_19 dX0_pot_21 dX0_pot_24 (fun x h => (hno x h).elim) (Nat.le_of_ble_eq_true rfl) (Nat.le_of_ble_eq_true rfl) (Nat.le_of_ble_eq_true rfl) (Nat.le_of_ble_eq_true rfl) hlocks (fun t hvm hz hk => ⟨(), trivial, ⟨rfl, P_ext hP hk⟩, F_ext hS hz hk⟩) hS.2.2 (Nat.le_of_ble_eq_true rfl) (Nat.le_of_ble_eq_true rfl)

theorem inxX0_dish_xIOB : ∀ w ∈ (vx_atS RX0 85 xIOB xNm).filter goodWord, w ∈ wsX0_dish := fun _ h => List.mem_cons_of_mem _ (List.mem_append_right _ h)

set_option maxRecDepth 100000 in
theorem inX0_dish_0 : ∀ w ∈ wsX00, w ∈ wsX0_dish := by decide +kernel

set_option maxHeartbeats 4000000 in
set_option maxRecDepth 100000 in
theorem mX0_dish_ok (l : Launch) (D : va_G) (cy : ClassId) (h : Nat) (a : Nat → Nat) (R : Nat → Nat → Int32) (nd n dr : Nat) (fl : Int32) (d w : Int32) (hnd : nd < 1000000) (hn : n < 1000000) (hdr : dr < 1000000) (hout : dishqX nd d w = 0) : RdI l yX0_dish wsX0_dish 6 131 [.ref h, .int d, .int w] D cy (cC h a cy R nd n dr fl) (dishAnsS R n d w) := by
  refine Met.ofW (cc := cX0_dish) (maxL := 3) (ret := (some .int)) (by decide) rfl ?_
  intro p e s m args below meth c s₁ B hml hv
  obtain ⟨rfl, hP, hK⟩ := hv
  have hx := B.exec
  have hb := B.bytes
  have hr := B.returns
  have hts := atoms_spec (ws := wsX0_dish) B.pre
  have hown : s.vm.findClass RX0 = some m.cls := findClass_of_methodNamed B.named
  have hlocks := B.notSynchronized
  have hl := lv_entry ([.ref h, .int d, .int w]) (n := 3) (Nat.le_of_ble_eq_true rfl)
  rw [lg_entry_eq]
  generalize (lg_sl ([.ref h, .int d, .int w]) ++ List.replicate (3 - (lg_sl ([.ref h, .int d, .int w])).length) Slot.unset).toArray = ls at hl ⊢
  have hl : lv_has ls 3 [(0, .ref h), (1, .int d), (2, .int w)] := hl
  refine lv_aload_n hx hb dX0_dish_0 rfl (lv_at hl 0 rfl) ?_
  refine lv_iload_n hx hb dX0_dish_1 rfl (lv_at hl 1 rfl) ?_
  refine rd_V (q := (RX0, TX0, 15)) (ci := 0) (q0 := 0) (As := [.int d]) (rest := []) ⟨hx, hb, hml, hown, hts⟩ (mX0_isDish l D cy h a R nd n dr fl d (by omega) (by omega) (by omega) ) (cwV 1 hts gX0_dish_X0_isDish rfl rfl rfl (by decide +kernel) ⟨Nat.le_of_ble_eq_true rfl, Nat.le_of_ble_eq_true rfl⟩) hP hK rfl rfl rfl hl.1 rfl (Nat.le_of_ble_eq_true rfl) dX0_dish_2 (Nat.zero_le _) (Nat.zero_le _) ?_
  refine lv_if_eq (tgt := 16) hx hb dX0_dish_5 (by decide) (fun c1 => ?_) (fun c1 => ?_)
  · exact absurd (show (0 : Int32) = 1 by rw [← hout, dishqX, if_pos c1]) (by decide)
  · refine lv_iload_n hx hb dX0_dish_8 rfl (lv_at hl 2 rfl) ?_
    refine lv_iconst (v := 5) hx hb dX0_dish_9 (by decide) ?_
    refine rd_S (As := [.int w, .int 5]) (rest := []) ⟨hx, hb, hml, hown, hts⟩ (mX0_isBelow l D cy w 5) (va_cwS 2 hts gX0_dish_X0_isBelow rfl rfl rfl (by decide +kernel) ⟨Nat.le_of_ble_eq_true rfl, Nat.le_of_ble_eq_true rfl⟩) (hP.sub (ws' := []) [] rfl) hK rfl hl.1 rfl (Nat.le_of_ble_eq_true rfl) dX0_dish_10 (Nat.zero_le _) (Nat.zero_le _) ?_
    refine lv_if_ne (tgt := 26) hx hb dX0_dish_13 (by decide) (fun c2 => ?_) (fun c2 => ?_)
    · refine lv_aload_n hx hb dX0_dish_26 rfl (lv_at hl 0 rfl) ?_
      refine lv_iload_n hx hb dX0_dish_27 rfl (lv_at hl 1 rfl) ?_
      refine lv_iload_n hx hb dX0_dish_28 rfl (lv_at hl 2 rfl) ?_
      refine rd_V (q := (RX0, TX0, 15)) (ci := 0) (q0 := 0) (As := [.int d, .int w]) (rest := []) ⟨hx, hb, hml, hown, hts⟩ (mX0_dishAnswer l D cy h a R nd n dr fl d w (by omega) (by omega) (by omega) ) (cwV 2 hts gX0_dish_X0_dishAnswer rfl rfl rfl (by decide +kernel) ⟨Nat.le_of_ble_eq_true rfl, Nat.le_of_ble_eq_true rfl⟩) hP hK rfl rfl rfl hl.1 rfl (Nat.le_of_ble_eq_true rfl) dX0_dish_29 (Nat.zero_le _) (Nat.zero_le _) ?_
      exact W.iret (v := dishAnsS R n d w) hx hb hr (fun t ht hW => ⟨(dishAnsS R n d w), rfl, rfl, ht⟩) (fun q hq => absurd hq List.not_mem_nil) dX0_dish_32
    · exact absurd (show (0 : Int32) = 1 by rw [← hout, dishqX, if_neg c1, if_pos c2]) (by decide)

set_option maxHeartbeats 4000000 in
set_option maxRecDepth 100000 in
theorem mX0_dish_t1 (l : Launch) (hfl : l.stackTraces = false) (D : va_G) (cy : ClassId) (h : Nat) (a : Nat → Nat) (R : Nat → Nat → Int32) (nd n dr : Nat) (fl : Int32) (d w : Int32) (hnd : nd < 1000000) (hn : n < 1000000) (hdr : dr < 1000000) (hout : dishqX nd d w = 1) (sz : Nat) : ThX l yX0_dish wsX0_dish 6 82 [.ref h, .int d, .int w] D cy (cC h a cy R nd n dr fl) sz xIOB := by
  refine vx_ofW (cc := cX0_dish) (maxL := 3) (ret := (some .int)) (by decide) rfl ?_
  intro p e s m args below meth c s₁ B hml hno hv
  obtain ⟨rfl, ⟨hsz, hP, hK, hD0⟩, hX⟩ := hv
  have hx := B.exec
  have hb := B.bytes
  have hr := B.returns
  have hts := atoms_spec (ws := wsX0_dish) B.pre
  have hown : s.vm.findClass RX0 = some m.cls := findClass_of_methodNamed B.named
  have hlocks := B.notSynchronized
  subst hsz
  have hD := hD0.self (sz := s.heap.size)
  generalize hAe : va_A (cC h a cy R nd n dr fl) s.heap.size = A at hD hX ⊢
  have hA : ∀ q : Nat, s.heap.size ≤ q → A q := fun q h => by rw [← hAe]; exact Or.inr h
  have hS : va_S A s.heap s.heap [] := va_S.rf
  have hl := lv_entry ([.ref h, .int d, .int w]) (n := 3) (Nat.le_of_ble_eq_true rfl)
  rw [lg_entry_eq]
  generalize (lg_sl ([.ref h, .int d, .int w]) ++ List.replicate (3 - (lg_sl ([.ref h, .int d, .int w])).length) Slot.unset).toArray = ls at hl ⊢
  have hl : lv_has ls 3 [(0, .ref h), (1, .int d), (2, .int w)] := hl
  refine lv_aload_n hx hb dX0_dish_0 rfl (lv_at hl 0 rfl) ?_
  refine lv_iload_n hx hb dX0_dish_1 rfl (lv_at hl 1 rfl) ?_
  refine rd_V (q := (RX0, TX0, 15)) (ci := 0) (q0 := 0) (As := [.int d]) (rest := []) ⟨hx, hb, hml, hown, hts⟩ (mX0_isDish l D cy h a R nd n dr fl d (by omega) (by omega) (by omega) ) (cwV 1 hts gX0_dish_X0_isDish rfl rfl rfl (by decide +kernel) ⟨Nat.le_of_ble_eq_true rfl, Nat.le_of_ble_eq_true rfl⟩) hP hK rfl rfl rfl hl.1 rfl (Nat.le_of_ble_eq_true rfl) dX0_dish_2 (Nat.zero_le _) (Nat.zero_le _) ?_
  refine lv_if_eq (tgt := 16) hx hb dX0_dish_5 (by decide) (fun c1 => ?_) (fun c1 => ?_)
  · obtain ⟨sa, hsa⟩ := hX.2.2.2.2.2.2.2.2.2.2.2.2.2.2.1
    exact vx_throwS (A := A) (own := RX0) (cls := xIOB) (text := "no such dish or answer") (names := xNm) (ik := 81) (is := 151) (ic := 85) hx hb hfl hown (by decide +kernel) (by decide +kernel) (hts (.classLink RX0 81 xIOB) (by decide +kernel)) (hts (.initialized xIOB) (by decide +kernel)) hsa (vx_hat (L := vx_atS RX0 85 xIOB xNm) (fun w h => hts w (inxX0_dish_xIOB w h)) xn_IOB (vx_c (va_Nw.use rfl hX.2.2.2.2.1) (vx_c (va_Nw.use rfl hX.2.2.2.2.2.2.2.2.2.2.2.2.2.2.2.2.2.1) (vx_c (va_Nw.use rfl hX.2.2.2.2.2.2.2.2.2.2.2.2.2.2.2.2.2.2.1) (vx_c (va_Nw.use rfl hX.2.2.2.2.2.2.2.2.2.2.2.2.2.2.2.2.2.2.2) vx_n))))) (List.forall_mem_cons.mpr ⟨rfl, List.forall_mem_cons.mpr ⟨rfl, xg_IOB⟩⟩) hX.1 hX.2.1 hS (hl.1.trans hml.symm) dX0_dish_16 dX0_dish_19 dX0_dish_20 dX0_dish_22 dX0_dish_25 (fun x h => (hno x h).elim) (Nat.le_of_ble_eq_true rfl) (Nat.le_of_ble_eq_true rfl) (Nat.le_of_ble_eq_true rfl) (Nat.le_of_ble_eq_true rfl) hlocks (fun t hvm hz hk => ⟨(), trivial, ⟨rfl, P_ext hP hk⟩, F_ext hS hz hk⟩) hS.2.2 (Nat.le_of_ble_eq_true rfl) (Nat.le_of_ble_eq_true rfl)
  · refine lv_iload_n hx hb dX0_dish_8 rfl (lv_at hl 2 rfl) ?_
    refine lv_iconst (v := 5) hx hb dX0_dish_9 (by decide) ?_
    refine rd_S (As := [.int w, .int 5]) (rest := []) ⟨hx, hb, hml, hown, hts⟩ (mX0_isBelow l D cy w 5) (va_cwS 2 hts gX0_dish_X0_isBelow rfl rfl rfl (by decide +kernel) ⟨Nat.le_of_ble_eq_true rfl, Nat.le_of_ble_eq_true rfl⟩) (hP.sub (ws' := []) [] rfl) hK rfl hl.1 rfl (Nat.le_of_ble_eq_true rfl) dX0_dish_10 (Nat.zero_le _) (Nat.zero_le _) ?_
    refine lv_if_ne (tgt := 26) hx hb dX0_dish_13 (by decide) (fun c2 => ?_) (fun c2 => ?_)
    · exact absurd (show (1 : Int32) = 0 by rw [← hout, dishqX, if_neg c1, if_neg c2]) (by decide)
    · obtain ⟨sa, hsa⟩ := hX.2.2.2.2.2.2.2.2.2.2.2.2.2.2.1
      exact vx_throwS (A := A) (own := RX0) (cls := xIOB) (text := "no such dish or answer") (names := xNm) (ik := 81) (is := 151) (ic := 85) hx hb hfl hown (by decide +kernel) (by decide +kernel) (hts (.classLink RX0 81 xIOB) (by decide +kernel)) (hts (.initialized xIOB) (by decide +kernel)) hsa (vx_hat (L := vx_atS RX0 85 xIOB xNm) (fun w h => hts w (inxX0_dish_xIOB w h)) xn_IOB (vx_c (va_Nw.use rfl hX.2.2.2.2.1) (vx_c (va_Nw.use rfl hX.2.2.2.2.2.2.2.2.2.2.2.2.2.2.2.2.2.1) (vx_c (va_Nw.use rfl hX.2.2.2.2.2.2.2.2.2.2.2.2.2.2.2.2.2.2.1) (vx_c (va_Nw.use rfl hX.2.2.2.2.2.2.2.2.2.2.2.2.2.2.2.2.2.2.2) vx_n))))) (List.forall_mem_cons.mpr ⟨rfl, List.forall_mem_cons.mpr ⟨rfl, xg_IOB⟩⟩) hX.1 hX.2.1 hS (hl.1.trans hml.symm) dX0_dish_16 dX0_dish_19 dX0_dish_20 dX0_dish_22 dX0_dish_25 (fun x h => (hno x h).elim) (Nat.le_of_ble_eq_true rfl) (Nat.le_of_ble_eq_true rfl) (Nat.le_of_ble_eq_true rfl) (Nat.le_of_ble_eq_true rfl) hlocks (fun t hvm hz hk => ⟨(), trivial, ⟨rfl, P_ext hP hk⟩, F_ext hS hz hk⟩) hS.2.2 (Nat.le_of_ble_eq_true rfl) (Nat.le_of_ble_eq_true rfl)

theorem inxX0_line_xIOB : ∀ w ∈ (vx_atS RX0 85 xIOB xNm).filter goodWord, w ∈ wsX0_line := fun _ h => List.mem_cons_of_mem _ (List.mem_append_right _ h)

set_option maxRecDepth 100000 in
theorem inX0_line_0 : ∀ w ∈ wsX00, w ∈ wsX0_line := by decide +kernel

set_option maxHeartbeats 4000000 in
set_option maxRecDepth 100000 in
theorem mX0_line_ok (l : Launch) (D : va_G) (cy : ClassId) (h : Nat) (a : Nat → Nat) (R : Nat → Nat → Int32) (nd n dr : Nat) (fl : Int32) (u w : Int32) (hnd : nd < 1000000) (hn : n < 1000000) (hdr : dr < 1000000) (hout : lineqX n u w = 0) : RdI l yX0_line wsX0_line 3 64 [.ref h, .int u, .int w] D cy (cC h a cy R nd n dr fl) (lineAnsS R dr u w) := by
  refine Met.ofW (cc := cX0_line) (maxL := 3) (ret := (some .int)) (by decide) rfl ?_
  intro p e s m args below meth c s₁ B hml hv
  obtain ⟨rfl, hP, hK⟩ := hv
  have hx := B.exec
  have hb := B.bytes
  have hr := B.returns
  have hts := atoms_spec (ws := wsX0_line) B.pre
  have hown : s.vm.findClass RX0 = some m.cls := findClass_of_methodNamed B.named
  have hlocks := B.notSynchronized
  have hl := lv_entry ([.ref h, .int u, .int w]) (n := 3) (Nat.le_of_ble_eq_true rfl)
  rw [lg_entry_eq]
  generalize (lg_sl ([.ref h, .int u, .int w]) ++ List.replicate (3 - (lg_sl ([.ref h, .int u, .int w])).length) Slot.unset).toArray = ls at hl ⊢
  have hl : lv_has ls 3 [(0, .ref h), (1, .int u), (2, .int w)] := hl
  refine lv_iload_n hx hb dX0_line_0 rfl (lv_at hl 1 rfl) ?_
  refine lv_aload_n hx hb dX0_line_1 rfl (lv_at hl 0 rfl) ?_
  refine va_get (D := D) (ci := 0) (v := .int (nI n)) (C := RX0) (T := TX0) (N := 15) hx hb hts inX0_line_0 hown hK.1 hP 0 rfl rfl 12 (by decide) (hts (.fieldLink RX0 112 "ChalkSlate" "lines" "I") (by decide +kernel)) (fun _ h9 => h9) rfl dX0_line_2 ?_
  refine rd_S (As := [.int u, .int (nI n)]) (rest := []) ⟨hx, hb, hml, hown, hts⟩ (mX0_isBelow l D cy u (nI n)) (va_cwS 2 hts gX0_line_X0_isBelow rfl rfl rfl (by decide +kernel) ⟨Nat.le_of_ble_eq_true rfl, Nat.le_of_ble_eq_true rfl⟩) (hP.sub (ws' := []) [] rfl) hK rfl hl.1 rfl (Nat.le_of_ble_eq_true rfl) dX0_line_5 (Nat.zero_le _) (Nat.zero_le _) ?_
  refine lv_if_eq (tgt := 20) hx hb dX0_line_8 (by decide) (fun c1 => ?_) (fun c1 => ?_)
  · exact absurd (show (0 : Int32) = 1 by rw [← hout, lineqX, if_pos c1]) (by decide)
  · refine lv_iload_n hx hb dX0_line_11 rfl (lv_at hl 2 rfl) ?_
    refine lv_bipush (v := 7) hx hb dX0_line_12 (by decide) ?_
    refine rd_S (As := [.int w, .int 7]) (rest := []) ⟨hx, hb, hml, hown, hts⟩ (mX0_isBelow l D cy w 7) (va_cwS 2 hts gX0_line_X0_isBelow rfl rfl rfl (by decide +kernel) ⟨Nat.le_of_ble_eq_true rfl, Nat.le_of_ble_eq_true rfl⟩) (hP.sub (ws' := []) [] rfl) hK rfl hl.1 rfl (Nat.le_of_ble_eq_true rfl) dX0_line_14 (Nat.zero_le _) (Nat.zero_le _) ?_
    refine lv_if_ne (tgt := 30) hx hb dX0_line_17 (by decide) (fun c2 => ?_) (fun c2 => ?_)
    · refine lv_aload_n hx hb dX0_line_30 rfl (lv_at hl 0 rfl) ?_
      refine lv_iload_n hx hb dX0_line_31 rfl (lv_at hl 1 rfl) ?_
      refine lv_iload_n hx hb dX0_line_32 rfl (lv_at hl 2 rfl) ?_
      refine rd_V (q := (RX0, TX0, 15)) (ci := 0) (q0 := 0) (As := [.int u, .int w]) (rest := []) ⟨hx, hb, hml, hown, hts⟩ (mX0_lineAnswer l D cy h a R nd n dr fl u w (by omega) (by omega) (by omega) ) (cwV 2 hts gX0_line_X0_lineAnswer rfl rfl rfl (by decide +kernel) ⟨Nat.le_of_ble_eq_true rfl, Nat.le_of_ble_eq_true rfl⟩) hP hK rfl rfl rfl hl.1 rfl (Nat.le_of_ble_eq_true rfl) dX0_line_33 (Nat.zero_le _) (Nat.zero_le _) ?_
      exact W.iret (v := lineAnsS R dr u w) hx hb hr (fun t ht hW => ⟨(lineAnsS R dr u w), rfl, rfl, ht⟩) (fun q hq => absurd hq List.not_mem_nil) dX0_line_36
    · exact absurd (show (0 : Int32) = 1 by rw [← hout, lineqX, if_neg c1, if_pos c2]) (by decide)

set_option maxHeartbeats 4000000 in
set_option maxRecDepth 100000 in
theorem mX0_line_t1 (l : Launch) (hfl : l.stackTraces = false) (D : va_G) (cy : ClassId) (h : Nat) (a : Nat → Nat) (R : Nat → Nat → Int32) (nd n dr : Nat) (fl : Int32) (u w : Int32) (hnd : nd < 1000000) (hn : n < 1000000) (hdr : dr < 1000000) (hout : lineqX n u w = 1) (sz : Nat) : ThX l yX0_line wsX0_line 6 82 [.ref h, .int u, .int w] D cy (cC h a cy R nd n dr fl) sz xIOB := by
  refine vx_ofW (cc := cX0_line) (maxL := 3) (ret := (some .int)) (by decide) rfl ?_
  intro p e s m args below meth c s₁ B hml hno hv
  obtain ⟨rfl, ⟨hsz, hP, hK, hD0⟩, hX⟩ := hv
  have hx := B.exec
  have hb := B.bytes
  have hr := B.returns
  have hts := atoms_spec (ws := wsX0_line) B.pre
  have hown : s.vm.findClass RX0 = some m.cls := findClass_of_methodNamed B.named
  have hlocks := B.notSynchronized
  subst hsz
  have hD := hD0.self (sz := s.heap.size)
  generalize hAe : va_A (cC h a cy R nd n dr fl) s.heap.size = A at hD hX ⊢
  have hA : ∀ q : Nat, s.heap.size ≤ q → A q := fun q h => by rw [← hAe]; exact Or.inr h
  have hS : va_S A s.heap s.heap [] := va_S.rf
  have hl := lv_entry ([.ref h, .int u, .int w]) (n := 3) (Nat.le_of_ble_eq_true rfl)
  rw [lg_entry_eq]
  generalize (lg_sl ([.ref h, .int u, .int w]) ++ List.replicate (3 - (lg_sl ([.ref h, .int u, .int w])).length) Slot.unset).toArray = ls at hl ⊢
  have hl : lv_has ls 3 [(0, .ref h), (1, .int u), (2, .int w)] := hl
  refine lv_iload_n hx hb dX0_line_0 rfl (lv_at hl 1 rfl) ?_
  refine lv_aload_n hx hb dX0_line_1 rfl (lv_at hl 0 rfl) ?_
  refine va_get (D := D) (ci := 0) (v := .int (nI n)) (C := RX0) (T := TX0) (N := 15) hx hb hts inX0_line_0 hown hK.1 hP 0 rfl rfl 12 (by decide) (hts (.fieldLink RX0 112 "ChalkSlate" "lines" "I") (by decide +kernel)) (fun _ h9 => h9) rfl dX0_line_2 ?_
  refine rd_S (As := [.int u, .int (nI n)]) (rest := []) ⟨hx, hb, hml, hown, hts⟩ (mX0_isBelow l D cy u (nI n)) (va_cwS 2 hts gX0_line_X0_isBelow rfl rfl rfl (by decide +kernel) ⟨Nat.le_of_ble_eq_true rfl, Nat.le_of_ble_eq_true rfl⟩) (hP.sub (ws' := []) [] rfl) hK rfl hl.1 rfl (Nat.le_of_ble_eq_true rfl) dX0_line_5 (Nat.zero_le _) (Nat.zero_le _) ?_
  refine lv_if_eq (tgt := 20) hx hb dX0_line_8 (by decide) (fun c1 => ?_) (fun c1 => ?_)
  · obtain ⟨sa, hsa⟩ := hX.2.2.2.2.2.2.2.2.2.2.2.2.2.2.2.1
    exact vx_throwS (A := A) (own := RX0) (cls := xIOB) (text := "no such line or answer") (names := xNm) (ik := 81) (is := 156) (ic := 85) hx hb hfl hown (by decide +kernel) (by decide +kernel) (hts (.classLink RX0 81 xIOB) (by decide +kernel)) (hts (.initialized xIOB) (by decide +kernel)) hsa (vx_hat (L := vx_atS RX0 85 xIOB xNm) (fun w h => hts w (inxX0_line_xIOB w h)) xn_IOB (vx_c (va_Nw.use rfl hX.2.2.2.2.1) (vx_c (va_Nw.use rfl hX.2.2.2.2.2.2.2.2.2.2.2.2.2.2.2.2.2.1) (vx_c (va_Nw.use rfl hX.2.2.2.2.2.2.2.2.2.2.2.2.2.2.2.2.2.2.1) (vx_c (va_Nw.use rfl hX.2.2.2.2.2.2.2.2.2.2.2.2.2.2.2.2.2.2.2) vx_n))))) (List.forall_mem_cons.mpr ⟨rfl, List.forall_mem_cons.mpr ⟨rfl, xg_IOB⟩⟩) hX.1 hX.2.1 hS (hl.1.trans hml.symm) dX0_line_20 dX0_line_23 dX0_line_24 dX0_line_26 dX0_line_29 (fun x h => (hno x h).elim) (Nat.le_of_ble_eq_true rfl) (Nat.le_of_ble_eq_true rfl) (Nat.le_of_ble_eq_true rfl) (Nat.le_of_ble_eq_true rfl) hlocks (fun t hvm hz hk => ⟨(), trivial, ⟨rfl, P_ext hP hk⟩, F_ext hS hz hk⟩) hS.2.2 (Nat.le_of_ble_eq_true rfl) (Nat.le_of_ble_eq_true rfl)
  · refine lv_iload_n hx hb dX0_line_11 rfl (lv_at hl 2 rfl) ?_
    refine lv_bipush (v := 7) hx hb dX0_line_12 (by decide) ?_
    refine rd_S (As := [.int w, .int 7]) (rest := []) ⟨hx, hb, hml, hown, hts⟩ (mX0_isBelow l D cy w 7) (va_cwS 2 hts gX0_line_X0_isBelow rfl rfl rfl (by decide +kernel) ⟨Nat.le_of_ble_eq_true rfl, Nat.le_of_ble_eq_true rfl⟩) (hP.sub (ws' := []) [] rfl) hK rfl hl.1 rfl (Nat.le_of_ble_eq_true rfl) dX0_line_14 (Nat.zero_le _) (Nat.zero_le _) ?_
    refine lv_if_ne (tgt := 30) hx hb dX0_line_17 (by decide) (fun c2 => ?_) (fun c2 => ?_)
    · exact absurd (show (1 : Int32) = 0 by rw [← hout, lineqX, if_neg c1, if_neg c2]) (by decide)
    · obtain ⟨sa, hsa⟩ := hX.2.2.2.2.2.2.2.2.2.2.2.2.2.2.2.1
      exact vx_throwS (A := A) (own := RX0) (cls := xIOB) (text := "no such line or answer") (names := xNm) (ik := 81) (is := 156) (ic := 85) hx hb hfl hown (by decide +kernel) (by decide +kernel) (hts (.classLink RX0 81 xIOB) (by decide +kernel)) (hts (.initialized xIOB) (by decide +kernel)) hsa (vx_hat (L := vx_atS RX0 85 xIOB xNm) (fun w h => hts w (inxX0_line_xIOB w h)) xn_IOB (vx_c (va_Nw.use rfl hX.2.2.2.2.1) (vx_c (va_Nw.use rfl hX.2.2.2.2.2.2.2.2.2.2.2.2.2.2.2.2.2.1) (vx_c (va_Nw.use rfl hX.2.2.2.2.2.2.2.2.2.2.2.2.2.2.2.2.2.2.1) (vx_c (va_Nw.use rfl hX.2.2.2.2.2.2.2.2.2.2.2.2.2.2.2.2.2.2.2) vx_n))))) (List.forall_mem_cons.mpr ⟨rfl, List.forall_mem_cons.mpr ⟨rfl, xg_IOB⟩⟩) hX.1 hX.2.1 hS (hl.1.trans hml.symm) dX0_line_20 dX0_line_23 dX0_line_24 dX0_line_26 dX0_line_29 (fun x h => (hno x h).elim) (Nat.le_of_ble_eq_true rfl) (Nat.le_of_ble_eq_true rfl) (Nat.le_of_ble_eq_true rfl) (Nat.le_of_ble_eq_true rfl) hlocks (fun t hvm hz hk => ⟨(), trivial, ⟨rfl, P_ext hP hk⟩, F_ext hS hz hk⟩) hS.2.2 (Nat.le_of_ble_eq_true rfl) (Nat.le_of_ble_eq_true rfl)

theorem inxX0_count_xIOB : ∀ w ∈ (vx_atS RX0 85 xIOB xNm).filter goodWord, w ∈ wsX0_count := fun _ h => List.mem_cons_of_mem _ (List.mem_append_right _ h)

set_option maxRecDepth 100000 in
theorem inX0_count_0 : ∀ w ∈ wsX00, w ∈ wsX0_count := by decide +kernel

set_option maxHeartbeats 4000000 in
set_option maxRecDepth 100000 in
theorem mX0_count_ok (l : Launch) (D : va_G) (cy : ClassId) (h : Nat) (a : Nat → Nat) (R : Nat → Nat → Int32) (nd n dr : Nat) (fl : Int32) (w : Int32) (hnd : nd < 1000000) (hn : n < 1000000) (hdr : dr < 1000000) (hout : countqX w = 0) : RdI l yX0_count wsX0_count 6 132 [.ref h, .int w] D cy (cC h a cy R nd n dr fl) (countAnsS R nd n dr fl w) := by
  refine Met.ofW (cc := cX0_count) (maxL := 2) (ret := (some .int)) (by decide) rfl ?_
  intro p e s m args below meth c s₁ B hml hv
  obtain ⟨rfl, hP, hK⟩ := hv
  have hx := B.exec
  have hb := B.bytes
  have hr := B.returns
  have hts := atoms_spec (ws := wsX0_count) B.pre
  have hown : s.vm.findClass RX0 = some m.cls := findClass_of_methodNamed B.named
  have hlocks := B.notSynchronized
  have hl := lv_entry ([.ref h, .int w]) (n := 2) (Nat.le_of_ble_eq_true rfl)
  rw [lg_entry_eq]
  generalize (lg_sl ([.ref h, .int w]) ++ List.replicate (2 - (lg_sl ([.ref h, .int w])).length) Slot.unset).toArray = ls at hl ⊢
  have hl : lv_has ls 2 [(0, .ref h), (1, .int w)] := hl
  refine lv_iload_n hx hb dX0_count_0 rfl (lv_at hl 1 rfl) ?_
  refine lv_bipush (v := 11) hx hb dX0_count_1 (by decide) ?_
  refine rd_S (As := [.int w, .int 11]) (rest := []) ⟨hx, hb, hml, hown, hts⟩ (mX0_isBelow l D cy w 11) (va_cwS 2 hts gX0_count_X0_isBelow rfl rfl rfl (by decide +kernel) ⟨Nat.le_of_ble_eq_true rfl, Nat.le_of_ble_eq_true rfl⟩) (hP.sub (ws' := []) [] rfl) hK rfl hl.1 rfl (Nat.le_of_ble_eq_true rfl) dX0_count_3 (Nat.zero_le _) (Nat.zero_le _) ?_
  refine lv_if_ne (tgt := 19) hx hb dX0_count_6 (by decide) (fun c1 => ?_) (fun c1 => ?_)
  · refine lv_aload_n hx hb dX0_count_19 rfl (lv_at hl 0 rfl) ?_
    refine lv_iload_n hx hb dX0_count_20 rfl (lv_at hl 1 rfl) ?_
    refine rd_V (q := (RX0, TX0, 15)) (ci := 0) (q0 := 0) (As := [.int w]) (rest := []) ⟨hx, hb, hml, hown, hts⟩ (mX0_countAnswer l D cy h a R nd n dr fl w (by omega) (by omega) (by omega) ) (cwV 1 hts gX0_count_X0_countAnswer rfl rfl rfl (by decide +kernel) ⟨Nat.le_of_ble_eq_true rfl, Nat.le_of_ble_eq_true rfl⟩) hP hK rfl rfl rfl hl.1 rfl (Nat.le_of_ble_eq_true rfl) dX0_count_21 (Nat.zero_le _) (Nat.zero_le _) ?_
    exact W.iret (v := countAnsS R nd n dr fl w) hx hb hr (fun t ht hW => ⟨(countAnsS R nd n dr fl w), rfl, rfl, ht⟩) (fun q hq => absurd hq List.not_mem_nil) dX0_count_24
  · exact absurd (show (0 : Int32) = 1 by rw [← hout, countqX, if_pos c1]) (by decide)

set_option maxHeartbeats 4000000 in
set_option maxRecDepth 100000 in
theorem mX0_count_t1 (l : Launch) (hfl : l.stackTraces = false) (D : va_G) (cy : ClassId) (h : Nat) (a : Nat → Nat) (R : Nat → Nat → Int32) (nd n dr : Nat) (fl : Int32) (w : Int32) (hnd : nd < 1000000) (hn : n < 1000000) (hdr : dr < 1000000) (hout : countqX w = 1) (sz : Nat) : ThX l yX0_count wsX0_count 6 82 [.ref h, .int w] D cy (cC h a cy R nd n dr fl) sz xIOB := by
  refine vx_ofW (cc := cX0_count) (maxL := 2) (ret := (some .int)) (by decide) rfl ?_
  intro p e s m args below meth c s₁ B hml hno hv
  obtain ⟨rfl, ⟨hsz, hP, hK, hD0⟩, hX⟩ := hv
  have hx := B.exec
  have hb := B.bytes
  have hr := B.returns
  have hts := atoms_spec (ws := wsX0_count) B.pre
  have hown : s.vm.findClass RX0 = some m.cls := findClass_of_methodNamed B.named
  have hlocks := B.notSynchronized
  subst hsz
  have hD := hD0.self (sz := s.heap.size)
  generalize hAe : va_A (cC h a cy R nd n dr fl) s.heap.size = A at hD hX ⊢
  have hA : ∀ q : Nat, s.heap.size ≤ q → A q := fun q h => by rw [← hAe]; exact Or.inr h
  have hS : va_S A s.heap s.heap [] := va_S.rf
  have hl := lv_entry ([.ref h, .int w]) (n := 2) (Nat.le_of_ble_eq_true rfl)
  rw [lg_entry_eq]
  generalize (lg_sl ([.ref h, .int w]) ++ List.replicate (2 - (lg_sl ([.ref h, .int w])).length) Slot.unset).toArray = ls at hl ⊢
  have hl : lv_has ls 2 [(0, .ref h), (1, .int w)] := hl
  refine lv_iload_n hx hb dX0_count_0 rfl (lv_at hl 1 rfl) ?_
  refine lv_bipush (v := 11) hx hb dX0_count_1 (by decide) ?_
  refine rd_S (As := [.int w, .int 11]) (rest := []) ⟨hx, hb, hml, hown, hts⟩ (mX0_isBelow l D cy w 11) (va_cwS 2 hts gX0_count_X0_isBelow rfl rfl rfl (by decide +kernel) ⟨Nat.le_of_ble_eq_true rfl, Nat.le_of_ble_eq_true rfl⟩) (hP.sub (ws' := []) [] rfl) hK rfl hl.1 rfl (Nat.le_of_ble_eq_true rfl) dX0_count_3 (Nat.zero_le _) (Nat.zero_le _) ?_
  refine lv_if_ne (tgt := 19) hx hb dX0_count_6 (by decide) (fun c1 => ?_) (fun c1 => ?_)
  · exact absurd (show (1 : Int32) = 0 by rw [← hout, countqX, if_neg c1]) (by decide)
  · obtain ⟨sa, hsa⟩ := hX.2.2.2.2.2.2.2.2.2.2.2.2.2.2.2.2.1
    exact vx_throwS (A := A) (own := RX0) (cls := xIOB) (text := "no such answer") (names := xNm) (ik := 81) (is := 161) (ic := 85) hx hb hfl hown (by decide +kernel) (by decide +kernel) (hts (.classLink RX0 81 xIOB) (by decide +kernel)) (hts (.initialized xIOB) (by decide +kernel)) hsa (vx_hat (L := vx_atS RX0 85 xIOB xNm) (fun w h => hts w (inxX0_count_xIOB w h)) xn_IOB (vx_c (va_Nw.use rfl hX.2.2.2.2.1) (vx_c (va_Nw.use rfl hX.2.2.2.2.2.2.2.2.2.2.2.2.2.2.2.2.2.1) (vx_c (va_Nw.use rfl hX.2.2.2.2.2.2.2.2.2.2.2.2.2.2.2.2.2.2.1) (vx_c (va_Nw.use rfl hX.2.2.2.2.2.2.2.2.2.2.2.2.2.2.2.2.2.2.2) vx_n))))) (List.forall_mem_cons.mpr ⟨rfl, List.forall_mem_cons.mpr ⟨rfl, xg_IOB⟩⟩) hX.1 hX.2.1 hS (hl.1.trans hml.symm) dX0_count_9 dX0_count_12 dX0_count_13 dX0_count_15 dX0_count_18 (fun x h => (hno x h).elim) (Nat.le_of_ble_eq_true rfl) (Nat.le_of_ble_eq_true rfl) (Nat.le_of_ble_eq_true rfl) (Nat.le_of_ble_eq_true rfl) hlocks (fun t hvm hz hk => ⟨(), trivial, ⟨rfl, P_ext hP hk⟩, F_ext hS hz hk⟩) hS.2.2 (Nat.le_of_ble_eq_true rfl) (Nat.le_of_ble_eq_true rfl)

theorem inxX0_would_xIOB : ∀ w ∈ (vx_atS RX0 85 xIOB xNm).filter goodWord, w ∈ wsX0_would := fun _ h => List.mem_cons_of_mem _ (List.mem_append_right _ h)

set_option maxRecDepth 100000 in
theorem inX0_would_0 : ∀ w ∈ wsX00, w ∈ wsX0_would := by decide +kernel

set_option maxHeartbeats 4000000 in
set_option maxRecDepth 100000 in
theorem mX0_would_ok (l : Launch) (D : va_G) (cy : ClassId) (h : Nat) (a : Nat → Nat) (R : Nat → Nat → Int32) (nd n dr : Nat) (fl : Int32) (w : Int32) (hnd : nd < 1000000) (hn : n < 1000000) (hdr : dr < 1000000) (hout : wouldX w = 0) : RdI l yX0_would wsX0_would 5 111 [.ref h, .int w] D cy (cC h a cy R nd n dr fl) (wouldAnsS R nd n dr w) := by
  refine Met.ofW (cc := cX0_would) (maxL := 2) (ret := (some .int)) (by decide) rfl ?_
  intro p e s m args below meth c s₁ B hml hv
  obtain ⟨rfl, hP, hK⟩ := hv
  have hx := B.exec
  have hb := B.bytes
  have hr := B.returns
  have hts := atoms_spec (ws := wsX0_would) B.pre
  have hown : s.vm.findClass RX0 = some m.cls := findClass_of_methodNamed B.named
  have hlocks := B.notSynchronized
  have hl := lv_entry ([.ref h, .int w]) (n := 2) (Nat.le_of_ble_eq_true rfl)
  rw [lg_entry_eq]
  generalize (lg_sl ([.ref h, .int w]) ++ List.replicate (2 - (lg_sl ([.ref h, .int w])).length) Slot.unset).toArray = ls at hl ⊢
  have hl : lv_has ls 2 [(0, .ref h), (1, .int w)] := hl
  refine lv_iload_n hx hb dX0_would_0 rfl (lv_at hl 1 rfl) ?_
  refine lv_iconst (v := 5) hx hb dX0_would_1 (by decide) ?_
  refine rd_S (As := [.int w, .int 5]) (rest := []) ⟨hx, hb, hml, hown, hts⟩ (mX0_isBelow l D cy w 5) (va_cwS 2 hts gX0_would_X0_isBelow rfl rfl rfl (by decide +kernel) ⟨Nat.le_of_ble_eq_true rfl, Nat.le_of_ble_eq_true rfl⟩) (hP.sub (ws' := []) [] rfl) hK rfl hl.1 rfl (Nat.le_of_ble_eq_true rfl) dX0_would_2 (Nat.zero_le _) (Nat.zero_le _) ?_
  refine lv_if_ne (tgt := 18) hx hb dX0_would_5 (by decide) (fun c1 => ?_) (fun c1 => ?_)
  · refine lv_iload_n hx hb dX0_would_18 rfl (lv_at hl 1 rfl) ?_
    by_cases hsw : w.toInt < 0 ∨ 3 < w.toInt
    · refine lv_tableOut (tgt := 73) hx hb dX0_would_19 hsw (by decide) ?_
      refine lv_aload_n hx hb dX0_would_73 rfl (lv_at hl 0 rfl) ?_
      refine rd_V (q := (RX0, TX0, 15)) (ci := 0) (q0 := 0) (As := []) (rest := []) ⟨hx, hb, hml, hown, hts⟩ (mX0_dishesToForget l D cy h a R nd n dr fl  (by omega) (by omega) (by omega) ) (cwV 0 hts gX0_would_X0_dishesToForget rfl rfl rfl (by decide +kernel) ⟨Nat.le_of_ble_eq_true rfl, Nat.le_of_ble_eq_true rfl⟩) hP hK rfl rfl rfl hl.1 rfl (Nat.le_of_ble_eq_true rfl) dX0_would_74 (Nat.zero_le _) (Nat.zero_le _) ?_
      exact W.iret (v := toForgetS R dr nd) hx hb hr (fun t ht hW => ⟨(toForgetS R dr nd), rfl, by rw [wouldAnsS, if_neg (sw_ne hsw (by decide)), if_neg (sw_ne hsw (by decide)), if_neg (sw_ne hsw (by decide)), if_neg (sw_ne hsw (by decide))], ht⟩) (fun q hq => absurd hq List.not_mem_nil) dX0_would_77
    · obtain ⟨hsw1, hsw2⟩ := not_or.mp hsw
      have hsw3 : w = 0 ∨ w = 1 ∨ w = 2 ∨ w = 3 := sw_3 hsw1 hsw2
      rcases hsw3 with hsw3 | hsw3 | hsw3 | hsw3
      · refine lv_tableIn (off := 29) (tgt := 48) hx hb dX0_would_19 hsw1 hsw2 (by rw [hsw3]; rfl) (by decide) ?_
        refine lv_aload_n hx hb dX0_would_48 rfl (lv_at hl 0 rfl) ?_
        refine va_get (D := D) (ci := 0) (v := .int (nI n)) (C := RX0) (T := TX0) (N := 15) hx hb hts inX0_would_0 hown hK.1 hP 0 rfl rfl 12 (by decide) (hts (.fieldLink RX0 112 "ChalkSlate" "lines" "I") (by decide +kernel)) (fun _ h9 => h9) rfl dX0_would_49 ?_
        refine lv_aload_n hx hb dX0_would_52 rfl (lv_at hl 0 rfl) ?_
        refine va_get (D := D) (ci := 0) (v := .int (nI dr)) (C := RX0) (T := TX0) (N := 15) hx hb hts inX0_would_0 hown hK.1 hP 0 rfl rfl 13 (by decide) (hts (.fieldLink RX0 166 "ChalkSlate" "dryLines" "I") (by decide +kernel)) (fun _ h9 => h9) rfl dX0_would_53 ?_
        refine lv_isub hx hb dX0_would_56 ?_
        exact W.iret (v := (nI n) - (nI dr)) hx hb hr (fun t ht hW => ⟨((nI n) - (nI dr)), rfl, by rw [wouldAnsS, hsw3]; rfl, ht⟩) (fun q hq => absurd hq List.not_mem_nil) dX0_would_57
      · refine lv_tableIn (off := 39) (tgt := 58) hx hb dX0_would_19 hsw1 hsw2 (by rw [hsw3]; rfl) (by decide) ?_
        refine lv_aload_n hx hb dX0_would_58 rfl (lv_at hl 0 rfl) ?_
        refine rd_V (q := (RX0, TX0, 15)) (ci := 0) (q0 := 0) (As := []) (rest := []) ⟨hx, hb, hml, hown, hts⟩ (mX0_linesToDoAnew l D cy h a R nd n dr fl  (by omega) (by omega) (by omega) ) (cwV 0 hts gX0_would_X0_linesToDoAnew rfl rfl rfl (by decide +kernel) ⟨Nat.le_of_ble_eq_true rfl, Nat.le_of_ble_eq_true rfl⟩) hP hK rfl rfl rfl hl.1 rfl (Nat.le_of_ble_eq_true rfl) dX0_would_59 (Nat.zero_le _) (Nat.zero_le _) ?_
        exact W.iret (v := toDoS R dr) hx hb hr (fun t ht hW => ⟨(toDoS R dr), rfl, by rw [wouldAnsS, hsw3]; rfl, ht⟩) (fun q hq => absurd hq List.not_mem_nil) dX0_would_62
      · refine lv_tableIn (off := 44) (tgt := 63) hx hb dX0_would_19 hsw1 hsw2 (by rw [hsw3]; rfl) (by decide) ?_
        refine lv_aload_n hx hb dX0_would_63 rfl (lv_at hl 0 rfl) ?_
        refine rd_V (q := (RX0, TX0, 15)) (ci := 0) (q0 := 0) (As := []) (rest := []) ⟨hx, hb, hml, hown, hts⟩ (mX0_linesToTakeBack l D cy h a R nd n dr fl  (by omega) (by omega) (by omega) ) (cwV 0 hts gX0_would_X0_linesToTakeBack rfl rfl rfl (by decide +kernel) ⟨Nat.le_of_ble_eq_true rfl, Nat.le_of_ble_eq_true rfl⟩) hP hK rfl rfl rfl hl.1 rfl (Nat.le_of_ble_eq_true rfl) dX0_would_64 (Nat.zero_le _) (Nat.zero_le _) ?_
        exact W.iret (v := toTakeS R dr nd) hx hb hr (fun t ht hW => ⟨(toTakeS R dr nd), rfl, by rw [wouldAnsS, hsw3]; rfl, ht⟩) (fun q hq => absurd hq List.not_mem_nil) dX0_would_67
      · refine lv_tableIn (off := 49) (tgt := 68) hx hb dX0_would_19 hsw1 hsw2 (by rw [hsw3]; rfl) (by decide) ?_
        refine lv_aload_n hx hb dX0_would_68 rfl (lv_at hl 0 rfl) ?_
        refine rd_V (q := (RX0, TX0, 15)) (ci := 0) (q0 := 0) (As := []) (rest := []) ⟨hx, hb, hml, hown, hts⟩ (mX0_firstLineToDoAnew l D cy h a R nd n dr fl  (by omega) (by omega) (by omega) ) (cwV 0 hts gX0_would_X0_firstLineToDoAnew rfl rfl rfl (by decide +kernel) ⟨Nat.le_of_ble_eq_true rfl, Nat.le_of_ble_eq_true rfl⟩) hP hK rfl rfl rfl hl.1 rfl (Nat.le_of_ble_eq_true rfl) dX0_would_69 (Nat.zero_le _) (Nat.zero_le _) ?_
        exact W.iret (v := firstToDoS R dr 0) hx hb hr (fun t ht hW => ⟨(firstToDoS R dr 0), rfl, by rw [wouldAnsS, hsw3]; rfl, ht⟩) (fun q hq => absurd hq List.not_mem_nil) dX0_would_72
  · exact absurd (show (0 : Int32) = 1 by rw [← hout, wouldX, if_pos c1]) (by decide)

set_option maxHeartbeats 4000000 in
set_option maxRecDepth 100000 in
theorem mX0_would_t1 (l : Launch) (hfl : l.stackTraces = false) (D : va_G) (cy : ClassId) (h : Nat) (a : Nat → Nat) (R : Nat → Nat → Int32) (nd n dr : Nat) (fl : Int32) (w : Int32) (hnd : nd < 1000000) (hn : n < 1000000) (hdr : dr < 1000000) (hout : wouldX w = 1) (sz : Nat) : ThX l yX0_would wsX0_would 6 82 [.ref h, .int w] D cy (cC h a cy R nd n dr fl) sz xIOB := by
  refine vx_ofW (cc := cX0_would) (maxL := 2) (ret := (some .int)) (by decide) rfl ?_
  intro p e s m args below meth c s₁ B hml hno hv
  obtain ⟨rfl, ⟨hsz, hP, hK, hD0⟩, hX⟩ := hv
  have hx := B.exec
  have hb := B.bytes
  have hr := B.returns
  have hts := atoms_spec (ws := wsX0_would) B.pre
  have hown : s.vm.findClass RX0 = some m.cls := findClass_of_methodNamed B.named
  have hlocks := B.notSynchronized
  subst hsz
  have hD := hD0.self (sz := s.heap.size)
  generalize hAe : va_A (cC h a cy R nd n dr fl) s.heap.size = A at hD hX ⊢
  have hA : ∀ q : Nat, s.heap.size ≤ q → A q := fun q h => by rw [← hAe]; exact Or.inr h
  have hS : va_S A s.heap s.heap [] := va_S.rf
  have hl := lv_entry ([.ref h, .int w]) (n := 2) (Nat.le_of_ble_eq_true rfl)
  rw [lg_entry_eq]
  generalize (lg_sl ([.ref h, .int w]) ++ List.replicate (2 - (lg_sl ([.ref h, .int w])).length) Slot.unset).toArray = ls at hl ⊢
  have hl : lv_has ls 2 [(0, .ref h), (1, .int w)] := hl
  refine lv_iload_n hx hb dX0_would_0 rfl (lv_at hl 1 rfl) ?_
  refine lv_iconst (v := 5) hx hb dX0_would_1 (by decide) ?_
  refine rd_S (As := [.int w, .int 5]) (rest := []) ⟨hx, hb, hml, hown, hts⟩ (mX0_isBelow l D cy w 5) (va_cwS 2 hts gX0_would_X0_isBelow rfl rfl rfl (by decide +kernel) ⟨Nat.le_of_ble_eq_true rfl, Nat.le_of_ble_eq_true rfl⟩) (hP.sub (ws' := []) [] rfl) hK rfl hl.1 rfl (Nat.le_of_ble_eq_true rfl) dX0_would_2 (Nat.zero_le _) (Nat.zero_le _) ?_
  refine lv_if_ne (tgt := 18) hx hb dX0_would_5 (by decide) (fun c1 => ?_) (fun c1 => ?_)
  · exact absurd (show (1 : Int32) = 0 by rw [← hout, wouldX, if_neg c1]) (by decide)
  · obtain ⟨sa, hsa⟩ := hX.2.2.2.2.2.2.2.2.2.2.2.2.2.2.2.2.1
    exact vx_throwS (A := A) (own := RX0) (cls := xIOB) (text := "no such answer") (names := xNm) (ik := 81) (is := 161) (ic := 85) hx hb hfl hown (by decide +kernel) (by decide +kernel) (hts (.classLink RX0 81 xIOB) (by decide +kernel)) (hts (.initialized xIOB) (by decide +kernel)) hsa (vx_hat (L := vx_atS RX0 85 xIOB xNm) (fun w h => hts w (inxX0_would_xIOB w h)) xn_IOB (vx_c (va_Nw.use rfl hX.2.2.2.2.1) (vx_c (va_Nw.use rfl hX.2.2.2.2.2.2.2.2.2.2.2.2.2.2.2.2.2.1) (vx_c (va_Nw.use rfl hX.2.2.2.2.2.2.2.2.2.2.2.2.2.2.2.2.2.2.1) (vx_c (va_Nw.use rfl hX.2.2.2.2.2.2.2.2.2.2.2.2.2.2.2.2.2.2.2) vx_n))))) (List.forall_mem_cons.mpr ⟨rfl, List.forall_mem_cons.mpr ⟨rfl, xg_IOB⟩⟩) hX.1 hX.2.1 hS (hl.1.trans hml.symm) dX0_would_8 dX0_would_11 dX0_would_12 dX0_would_14 dX0_would_17 (fun x h => (hno x h).elim) (Nat.le_of_ble_eq_true rfl) (Nat.le_of_ble_eq_true rfl) (Nat.le_of_ble_eq_true rfl) (Nat.le_of_ble_eq_true rfl) hlocks (fun t hvm hz hk => ⟨(), trivial, ⟨rfl, P_ext hP hk⟩, F_ext hS hz hk⟩) hS.2.2 (Nat.le_of_ble_eq_true rfl) (Nat.le_of_ble_eq_true rfl)

theorem inxX0_left_xIOB : ∀ w ∈ (vx_atS RX0 85 xIOB xNm).filter goodWord, w ∈ wsX0_left := fun _ h => List.mem_cons_of_mem _ (List.mem_append_right _ h)

set_option maxRecDepth 100000 in
theorem inX0_left_0 : ∀ w ∈ wsX00, w ∈ wsX0_left := by decide +kernel

set_option maxHeartbeats 4000000 in
set_option maxRecDepth 100000 in
theorem mX0_left_ok (l : Launch) (D : va_G) (cy : ClassId) (h : Nat) (a : Nat → Nat) (R : Nat → Nat → Int32) (nd n dr : Nat) (fl : Int32) (u : Int32) (hnd : nd < 1000000) (hn : n < 1000000) (hdr : dr < 1000000) (hout : potX u = 0) : RdI l yX0_left wsX0_left 4 90 [.ref h, .int u] D cy (cC h a cy R nd n dr fl) (leftAnsS R nd dr u) := by
  refine Met.ofW (cc := cX0_left) (maxL := 4) (ret := (some .int)) (by decide) rfl ?_
  intro p e s m args below meth c s₁ B hml hv
  obtain ⟨rfl, hP, hK⟩ := hv
  have hx := B.exec
  have hb := B.bytes
  have hr := B.returns
  have hts := atoms_spec (ws := wsX0_left) B.pre
  have hown : s.vm.findClass RX0 = some m.cls := findClass_of_methodNamed B.named
  have hlocks := B.notSynchronized
  have hl := lv_entry ([.ref h, .int u]) (n := 4) (Nat.le_of_ble_eq_true rfl)
  rw [lg_entry_eq]
  generalize (lg_sl ([.ref h, .int u]) ++ List.replicate (4 - (lg_sl ([.ref h, .int u])).length) Slot.unset).toArray = ls at hl ⊢
  have hl : lv_has ls 4 [(0, .ref h), (1, .int u)] := hl
  refine lv_iload_n hx hb dX0_left_0 rfl (lv_at hl 1 rfl) ?_
  refine rd_S (As := [.int u]) (rest := []) ⟨hx, hb, hml, hown, hts⟩ (mX0_isPot l D cy u) (va_cwS 1 hts gX0_left_X0_isPot rfl rfl rfl (by decide +kernel) ⟨Nat.le_of_ble_eq_true rfl, Nat.le_of_ble_eq_true rfl⟩) (hP.sub (ws' := []) [] rfl) hK rfl hl.1 rfl (Nat.le_of_ble_eq_true rfl) dX0_left_1 (Nat.zero_le _) (Nat.zero_le _) ?_
  refine lv_if_ne (tgt := 17) hx hb dX0_left_4 (by decide) (fun c1 => ?_) (fun c1 => ?_)
  · refine lv_aload_n hx hb dX0_left_17 rfl (lv_at hl 0 rfl) ?_
    refine va_get (D := D) (ci := 0) (v := .ref (a 1)) (C := RX0) (T := TX0) (N := 15) hx hb hts inX0_left_0 hown hK.1 hP 0 rfl rfl 1 (by decide) (hts (.fieldLink RX0 13 "ChalkSlate" "shelf" "[I") (by decide +kernel)) (fun _ h9 => h9) rfl dX0_left_18 ?_
    refine lv_iload_n hx hb dX0_left_21 rfl (lv_at hl 1 rfl) ?_
    refine rd_S (As := [.ref (a 1), .int u]) (rest := []) ⟨hx, hb, hml, hown, hts⟩ (mX0_at l D cy (a 1) 8 (R 1) u (Nat.le_of_ble_eq_true rfl)) (va_cwS 2 hts gX0_left_X0_at rfl rfl rfl (by decide +kernel) ⟨Nat.le_of_ble_eq_true rfl, Nat.le_of_ble_eq_true rfl⟩) (hP.sub (ws' := [(a 1, .inl (cy, 8, .inl (R 1)))]) [2] rfl) hK rfl hl.1 rfl (Nat.le_of_ble_eq_true rfl) dX0_left_22 (Nat.zero_le _) (Nat.zero_le _) ?_
    refine lv_istore_n (lv' := [(2, .int (atS 8 (R 1) u)), (0, .ref h), (1, .int u)]) hx hb dX0_left_25 rfl hl (by decide) rfl (fun ls hl => ?_)
    refine lv_iconst (v := 0) hx hb dX0_left_26 (by decide) ?_
    refine lv_istore_n (lv' := [(3, .int 0), (2, .int (atS 8 (R 1) u)), (0, .ref h), (1, .int u)]) hx hb dX0_left_27 rfl hl (by decide) rfl (fun ls hl => ?_)
    have loop1 : ∀ (k1 i1 : Nat) (acc : Int32), i1 + k1 = dr → acc = left1S R u i1 → ∀ ls : Array Slot, lv_has ls 4 [(0, .ref h), (1, .int u), (2, .int acc), (3, .int (nI i1))] → W p l e (headSpec wsX0_left { frames := 4, cells := 0, slots := 0, locals := 90 }).room s m ([.ref h, .int u] : List Value).toArray below meth c s.heap [] 0 0 (MQ below (vp_Si (fun r => r = leftAnsS R nd dr u)) ([.ref h, .int u] : List Value).toArray s 0 0 (fun _ => False)) (F0 m 28 ls []) := by
      intro k1
      induction k1 with
      | zero =>
        intro i1 acc hik1 ha1 ls hl
        have hin1 : i1 = dr := by omega
        refine lv_iload_n hx hb dX0_left_28 rfl (lv_at hl 3 rfl) ?_
        refine lv_aload_n hx hb dX0_left_29 rfl (lv_at hl 0 rfl) ?_
        refine va_get (D := D) (ci := 0) (v := .int (nI dr)) (C := RX0) (T := TX0) (N := 15) hx hb hts inX0_left_0 hown hK.1 hP 0 rfl rfl 13 (by decide) (hts (.fieldLink RX0 166 "ChalkSlate" "dryLines" "I") (by decide +kernel)) (fun _ h9 => h9) rfl dX0_left_30 ?_
        refine lv_icmp_ge (tgt := 71) hx hb dX0_left_33 (by decide) (fun c2 => ?_) (fun c2 => absurd (nI_le (by omega) (by omega)) c2)
        refine lv_aload_n hx hb dX0_left_71 rfl (lv_at hl 0 rfl) ?_
        refine va_get (D := D) (ci := 0) (v := .int (nI nd)) (C := RX0) (T := TX0) (N := 15) hx hb hts inX0_left_0 hown hK.1 hP 0 rfl rfl 4 (by decide) (hts (.fieldLink RX0 49 "ChalkSlate" "dishes" "I") (by decide +kernel)) (fun _ h9 => h9) rfl dX0_left_72 ?_
        refine lv_iconst (v := 1) hx hb dX0_left_75 (by decide) ?_
        refine lv_isub hx hb dX0_left_76 ?_
        refine lv_istore_n (lv' := [(3, .int ((nI nd) - 1)), (0, .ref h), (1, .int u), (2, .int acc)]) hx hb dX0_left_77 rfl hl (by decide) rfl (fun ls hl => ?_)
        have loop2 : ∀ (i2 : Nat) (acd : Int32) (x2 : Int32), i2 ≤ nd → x2 = nI i2 - 1 → leftAnsS R nd dr u = left2S R dr u i2 acd → ∀ ls : Array Slot, lv_has ls 4 [(0, .ref h), (1, .int u), (2, .int acd), (3, .int x2)] → W p l e (headSpec wsX0_left { frames := 4, cells := 0, slots := 0, locals := 90 }).room s m ([.ref h, .int u] : List Value).toArray below meth c s.heap [] 0 0 (MQ below (vp_Si (fun r => r = leftAnsS R nd dr u)) ([.ref h, .int u] : List Value).toArray s 0 0 (fun _ => False)) (F0 m 78 ls []) := by
          intro i2
          induction i2 with
          | zero =>
            intro acd x2 hik2 hxx2 hrel ls hl
            have hx02 : x2 = -1 := by rw [hxx2]; rfl
            subst hx02
            refine lv_iload_n hx hb dX0_left_78 rfl (lv_at hl 3 rfl) ?_
            refine lv_if_lt (tgt := 108) hx hb dX0_left_79 (by decide) (fun c3 => ?_) (fun c3 => absurd (by decide) c3)
            refine lv_iload_n hx hb dX0_left_108 rfl (lv_at hl 2 rfl) ?_
            exact W.iret (v := acd) hx hb hr (fun t ht hW => ⟨acd, rfl, by rw [hrel, left2S], ht⟩) (fun q hq => absurd hq List.not_mem_nil) dX0_left_109
          | succ i2 ih2 =>
            intro acd x2 hik2 hxx2 hrel ls hl
            have hx12 : x2 = nI i2 := by rw [hxx2, nI_pred]
            subst hx12
            refine lv_iload_n hx hb dX0_left_78 rfl (lv_at hl 3 rfl) ?_
            refine lv_if_lt (tgt := 108) hx hb dX0_left_79 (by decide) (fun c4 => absurd c4 (nI_pos (by omega))) (fun c4 => ?_)
            refine lv_aload_n hx hb dX0_left_82 rfl (lv_at hl 0 rfl) ?_
            refine lv_iload_n hx hb dX0_left_83 rfl (lv_at hl 3 rfl) ?_
            refine lv_aload_n hx hb dX0_left_84 rfl (lv_at hl 0 rfl) ?_
            refine va_get (D := D) (ci := 0) (v := .int (nI dr)) (C := RX0) (T := TX0) (N := 15) hx hb hts inX0_left_0 hown hK.1 hP 0 rfl rfl 13 (by decide) (hts (.fieldLink RX0 166 "ChalkSlate" "dryLines" "I") (by decide +kernel)) (fun _ h9 => h9) rfl dX0_left_85 ?_
            refine rd_V (q := (RX0, TX0, 15)) (ci := 0) (q0 := 0) (As := [.int (nI i2), .int (nI dr)]) (rest := []) ⟨hx, hb, hml, hown, hts⟩ (mX0_stateByLines l D cy h a R nd n dr fl (nI i2) dr (by omega) (by omega) (by omega) (by omega)) (cwV 2 hts gX0_left_X0_stateByLines rfl rfl rfl (by decide +kernel) ⟨Nat.le_of_ble_eq_true rfl, Nat.le_of_ble_eq_true rfl⟩) hP hK rfl rfl rfl hl.1 rfl (Nat.le_of_ble_eq_true rfl) dX0_left_88 (Nat.zero_le _) (Nat.zero_le _) ?_
            refine lv_if_ne (tgt := 102) hx hb dX0_left_91 (by decide) (fun c5 => ?_) (fun c5 => ?_)
            · refine lv_iinc (v := (nI i2) + (-1)) (lv' := [(3, .int ((nI i2) + (-1))), (0, .ref h), (1, .int u), (2, .int acd)]) hx hb dX0_left_102 hl (k := 3) rfl (rfl) (by decide) rfl (fun ls hl => ?_)
              refine lv_goto (tgt := 78) hx hb dX0_left_105 (by decide) ?_
              exact ih2 acd _ (by omega) (add_m1 _) (by rw [hrel, left2S, if_neg c5]) ls (lv_sub hl [1, 2, 3, 0] rfl)
            · refine lv_aload_n hx hb dX0_left_94 rfl (lv_at hl 0 rfl) ?_
              refine lv_iload_n hx hb dX0_left_95 rfl (lv_at hl 3 rfl) ?_
              refine lv_iload_n hx hb dX0_left_96 rfl (lv_at hl 1 rfl) ?_
              refine lv_iload_n hx hb dX0_left_97 rfl (lv_at hl 2 rfl) ?_
              refine rd_V (q := (RX0, TX0, 15)) (ci := 0) (q0 := 0) (As := [.int (nI i2), .int u, .int acd]) (rest := []) ⟨hx, hb, hml, hown, hts⟩ (mX0_spoonsAfterUndoing l D cy h a R nd n dr fl (nI i2) u acd (by omega) (by omega) (by omega) ) (cwV 3 hts gX0_left_X0_spoonsAfterUndoing rfl rfl rfl (by decide +kernel) ⟨Nat.le_of_ble_eq_true rfl, Nat.le_of_ble_eq_true rfl⟩) hP hK rfl rfl rfl hl.1 rfl (Nat.le_of_ble_eq_true rfl) dX0_left_98 (Nat.zero_le _) (Nat.zero_le _) ?_
              refine lv_istore_n (lv' := [(2, .int (spoonsAfterS R dr (nI i2) u dr acd)), (0, .ref h), (1, .int u), (3, .int (nI i2))]) hx hb dX0_left_101 rfl hl (by decide) rfl (fun ls hl => ?_)
              refine lv_iinc (v := (nI i2) + (-1)) (lv' := [(3, .int ((nI i2) + (-1))), (2, .int (spoonsAfterS R dr (nI i2) u dr acd)), (0, .ref h), (1, .int u)]) hx hb dX0_left_102 hl (k := 3) rfl (rfl) (by decide) rfl (fun ls hl => ?_)
              refine lv_goto (tgt := 78) hx hb dX0_left_105 (by decide) ?_
              exact ih2 (spoonsAfterS R dr (nI i2) u dr acd) _ (by omega) (add_m1 _) (by rw [hrel, left2S, if_pos c5]) ls (lv_sub hl [2, 3, 1, 0] rfl)
        exact loop2 nd acc _ (Nat.le_refl _) rfl (by rw [leftAnsS, ha1, hin1]) ls (lv_sub hl [1, 2, 3, 0] rfl)
      | succ k1 ih1 =>
        intro i1 acc hik1 ha1 ls hl
        refine lv_iload_n hx hb dX0_left_28 rfl (lv_at hl 3 rfl) ?_
        refine lv_aload_n hx hb dX0_left_29 rfl (lv_at hl 0 rfl) ?_
        refine va_get (D := D) (ci := 0) (v := .int (nI dr)) (C := RX0) (T := TX0) (N := 15) hx hb hts inX0_left_0 hown hK.1 hP 0 rfl rfl 13 (by decide) (hts (.fieldLink RX0 166 "ChalkSlate" "dryLines" "I") (by decide +kernel)) (fun _ h9 => h9) rfl dX0_left_30 ?_
        refine lv_icmp_ge (tgt := 71) hx hb dX0_left_33 (by decide) (fun c6 => absurd c6 (nI_ge (by omega) (by omega))) (fun c6 => ?_)
        refine lv_aload_n hx hb dX0_left_36 rfl (lv_at hl 0 rfl) ?_
        refine va_get (D := D) (ci := 0) (v := .ref (a 6)) (C := RX0) (T := TX0) (N := 15) hx hb hts inX0_left_0 hown hK.1 hP 0 rfl rfl 7 (by decide) (hts (.fieldLink RX0 28 "ChalkSlate" "linePot" "[I") (by decide +kernel)) (fun _ h9 => h9) rfl dX0_left_37 ?_
        refine lv_iload_n hx hb dX0_left_40 rfl (lv_at hl 3 rfl) ?_
        refine rd_S (As := [.ref (a 6), .int (nI i1)]) (rest := []) ⟨hx, hb, hml, hown, hts⟩ (mX0_at l D cy (a 6) 120 (R 6) (nI i1) (Nat.le_of_ble_eq_true rfl)) (va_cwS 2 hts gX0_left_X0_at rfl rfl rfl (by decide +kernel) ⟨Nat.le_of_ble_eq_true rfl, Nat.le_of_ble_eq_true rfl⟩) (hP.sub (ws' := [(a 6, .inl (cy, 120, .inl (R 6)))]) [7] rfl) hK rfl hl.1 rfl (Nat.le_of_ble_eq_true rfl) dX0_left_41 (Nat.zero_le _) (Nat.zero_le _) ?_
        refine lv_iload_n hx hb dX0_left_44 rfl (lv_at hl 1 rfl) ?_
        refine lv_icmp_ne (tgt := 65) hx hb dX0_left_45 (by decide) (fun c7 => ?_) (fun c7 => ?_)
        · refine lv_iinc (v := nI (i1 + 1)) (lv' := [(3, .int (nI (i1 + 1))), (0, .ref h), (1, .int u), (2, .int acc)]) hx hb dX0_left_65 hl (k := 3) rfl ((nI_succ i1).symm) (by decide) rfl (fun ls hl => ?_)
          refine lv_goto (tgt := 28) hx hb dX0_left_68 (by decide) ?_
          exact ih1 (i1 + 1) acc (by omega) (by rw [left1S, if_neg c7, ← ha1]) ls (lv_sub hl [1, 2, 3, 0] rfl)
        · refine lv_aload_n hx hb dX0_left_48 rfl (lv_at hl 0 rfl) ?_
          refine lv_iload_n hx hb dX0_left_49 rfl (lv_at hl 3 rfl) ?_
          refine rd_V (q := (RX0, TX0, 15)) (ci := 0) (q0 := 0) (As := [.int (nI i1)]) (rest := []) ⟨hx, hb, hml, hown, hts⟩ (mX0_isToDoAnew l D cy h a R nd n dr fl (nI i1) (by omega) (by omega) (by omega) ) (cwV 1 hts gX0_left_X0_isToDoAnew rfl rfl rfl (by decide +kernel) ⟨Nat.le_of_ble_eq_true rfl, Nat.le_of_ble_eq_true rfl⟩) hP hK rfl rfl rfl hl.1 rfl (Nat.le_of_ble_eq_true rfl) dX0_left_50 (Nat.zero_le _) (Nat.zero_le _) ?_
          refine lv_if_eq (tgt := 65) hx hb dX0_left_53 (by decide) (fun c8 => ?_) (fun c8 => ?_)
          · refine lv_iinc (v := nI (i1 + 1)) (lv' := [(3, .int (nI (i1 + 1))), (0, .ref h), (1, .int u), (2, .int acc)]) hx hb dX0_left_65 hl (k := 3) rfl ((nI_succ i1).symm) (by decide) rfl (fun ls hl => ?_)
            refine lv_goto (tgt := 28) hx hb dX0_left_68 (by decide) ?_
            exact ih1 (i1 + 1) acc (by omega) (by rw [left1S, if_pos c7, if_pos c8, ← ha1]) ls (lv_sub hl [1, 2, 3, 0] rfl)
          · refine lv_aload_n hx hb dX0_left_56 rfl (lv_at hl 0 rfl) ?_
            refine va_get (D := D) (ci := 0) (v := .ref (a 8)) (C := RX0) (T := TX0) (N := 15) hx hb hts inX0_left_0 hown hK.1 hP 0 rfl rfl 9 (by decide) (hts (.fieldLink RX0 34 "ChalkSlate" "lineBehind" "[I") (by decide +kernel)) (fun _ h9 => h9) rfl dX0_left_57 ?_
            refine lv_iload_n hx hb dX0_left_60 rfl (lv_at hl 3 rfl) ?_
            refine rd_S (As := [.ref (a 8), .int (nI i1)]) (rest := []) ⟨hx, hb, hml, hown, hts⟩ (mX0_at l D cy (a 8) 120 (R 8) (nI i1) (Nat.le_of_ble_eq_true rfl)) (va_cwS 2 hts gX0_left_X0_at rfl rfl rfl (by decide +kernel) ⟨Nat.le_of_ble_eq_true rfl, Nat.le_of_ble_eq_true rfl⟩) (hP.sub (ws' := [(a 8, .inl (cy, 120, .inl (R 8)))]) [9] rfl) hK rfl hl.1 rfl (Nat.le_of_ble_eq_true rfl) dX0_left_61 (Nat.zero_le _) (Nat.zero_le _) ?_
            refine lv_istore_n (lv' := [(2, .int (atS 120 (R 8) (nI i1))), (0, .ref h), (1, .int u), (3, .int (nI i1))]) hx hb dX0_left_64 rfl hl (by decide) rfl (fun ls hl => ?_)
            refine lv_iinc (v := nI (i1 + 1)) (lv' := [(3, .int (nI (i1 + 1))), (2, .int (atS 120 (R 8) (nI i1))), (0, .ref h), (1, .int u)]) hx hb dX0_left_65 hl (k := 3) rfl ((nI_succ i1).symm) (by decide) rfl (fun ls hl => ?_)
            refine lv_goto (tgt := 28) hx hb dX0_left_68 (by decide) ?_
            exact ih1 (i1 + 1) (atS 120 (R 8) (nI i1)) (by omega) (by rw [left1S, if_pos c7, if_neg c8]) ls (lv_sub hl [2, 3, 1, 0] rfl)
    exact loop1 dr 0 (atS 8 (R 1) u) (Nat.zero_add _) (rfl) ls (lv_sub hl [2, 3, 1, 0] rfl)
  · exact absurd (show (0 : Int32) = 1 by rw [← hout, potX, if_pos c1]) (by decide)

set_option maxHeartbeats 4000000 in
set_option maxRecDepth 100000 in
theorem mX0_left_t1 (l : Launch) (hfl : l.stackTraces = false) (D : va_G) (cy : ClassId) (h : Nat) (a : Nat → Nat) (R : Nat → Nat → Int32) (nd n dr : Nat) (fl : Int32) (u : Int32) (hnd : nd < 1000000) (hn : n < 1000000) (hdr : dr < 1000000) (hout : potX u = 1) (sz : Nat) : ThX l yX0_left wsX0_left 6 82 [.ref h, .int u] D cy (cC h a cy R nd n dr fl) sz xIOB := by
  refine vx_ofW (cc := cX0_left) (maxL := 4) (ret := (some .int)) (by decide) rfl ?_
  intro p e s m args below meth c s₁ B hml hno hv
  obtain ⟨rfl, ⟨hsz, hP, hK, hD0⟩, hX⟩ := hv
  have hx := B.exec
  have hb := B.bytes
  have hr := B.returns
  have hts := atoms_spec (ws := wsX0_left) B.pre
  have hown : s.vm.findClass RX0 = some m.cls := findClass_of_methodNamed B.named
  have hlocks := B.notSynchronized
  subst hsz
  have hD := hD0.self (sz := s.heap.size)
  generalize hAe : va_A (cC h a cy R nd n dr fl) s.heap.size = A at hD hX ⊢
  have hA : ∀ q : Nat, s.heap.size ≤ q → A q := fun q h => by rw [← hAe]; exact Or.inr h
  have hS : va_S A s.heap s.heap [] := va_S.rf
  have hl := lv_entry ([.ref h, .int u]) (n := 4) (Nat.le_of_ble_eq_true rfl)
  rw [lg_entry_eq]
  generalize (lg_sl ([.ref h, .int u]) ++ List.replicate (4 - (lg_sl ([.ref h, .int u])).length) Slot.unset).toArray = ls at hl ⊢
  have hl : lv_has ls 4 [(0, .ref h), (1, .int u)] := hl
  refine lv_iload_n hx hb dX0_left_0 rfl (lv_at hl 1 rfl) ?_
  refine rd_S (As := [.int u]) (rest := []) ⟨hx, hb, hml, hown, hts⟩ (mX0_isPot l D cy u) (va_cwS 1 hts gX0_left_X0_isPot rfl rfl rfl (by decide +kernel) ⟨Nat.le_of_ble_eq_true rfl, Nat.le_of_ble_eq_true rfl⟩) (hP.sub (ws' := []) [] rfl) hK rfl hl.1 rfl (Nat.le_of_ble_eq_true rfl) dX0_left_1 (Nat.zero_le _) (Nat.zero_le _) ?_
  refine lv_if_ne (tgt := 17) hx hb dX0_left_4 (by decide) (fun c1 => ?_) (fun c1 => ?_)
  · exact absurd (show (1 : Int32) = 0 by rw [← hout, potX, if_neg c1]) (by decide)
  · obtain ⟨sa, hsa⟩ := hX.2.2.2.2.2.2.2.2.2.2.2.2.1
    exact vx_throwS (A := A) (own := RX0) (cls := xIOB) (text := "no such pot") (names := xNm) (ik := 81) (is := 121) (ic := 85) hx hb hfl hown (by decide +kernel) (by decide +kernel) (hts (.classLink RX0 81 xIOB) (by decide +kernel)) (hts (.initialized xIOB) (by decide +kernel)) hsa (vx_hat (L := vx_atS RX0 85 xIOB xNm) (fun w h => hts w (inxX0_left_xIOB w h)) xn_IOB (vx_c (va_Nw.use rfl hX.2.2.2.2.1) (vx_c (va_Nw.use rfl hX.2.2.2.2.2.2.2.2.2.2.2.2.2.2.2.2.2.1) (vx_c (va_Nw.use rfl hX.2.2.2.2.2.2.2.2.2.2.2.2.2.2.2.2.2.2.1) (vx_c (va_Nw.use rfl hX.2.2.2.2.2.2.2.2.2.2.2.2.2.2.2.2.2.2.2) vx_n))))) (List.forall_mem_cons.mpr ⟨rfl, List.forall_mem_cons.mpr ⟨rfl, xg_IOB⟩⟩) hX.1 hX.2.1 hS (hl.1.trans hml.symm) dX0_left_7 dX0_left_10 dX0_left_11 dX0_left_13 dX0_left_16 (fun x h => (hno x h).elim) (Nat.le_of_ble_eq_true rfl) (Nat.le_of_ble_eq_true rfl) (Nat.le_of_ble_eq_true rfl) (Nat.le_of_ble_eq_true rfl) hlocks (fun t hvm hz hk => ⟨(), trivial, ⟨rfl, P_ext hP hk⟩, F_ext hS hz hk⟩) hS.2.2 (Nat.le_of_ble_eq_true rfl) (Nat.le_of_ble_eq_true rfl)
