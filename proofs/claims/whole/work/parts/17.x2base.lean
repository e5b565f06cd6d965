set_option maxHeartbeats 4000000 in
set_option maxRecDepth 100000 in
theorem mX2_isIn (l : Launch) (D : va_G) (cy : ClassId) (x y z : Int32)  : RdI l yX2_isIn wsX2_isIn 0 0 [.int x, .int y, .int z] D cy (([] : va_W)) (isInS x y z) := by
  refine Met.ofW (cc := cX2_isIn) (maxL := 3) (ret := (some .boolean)) (by decide) rfl ?_
  intro p e s m args below meth c s₁ B hml hv
  obtain ⟨rfl, hP, hK⟩ := hv
  have hx := B.exec
  have hb := B.bytes
  have hr := B.returns
  have hts := atoms_spec (ws := wsX2_isIn) B.pre
  have hown : s.vm.findClass RX2 = some m.cls := findClass_of_methodNamed B.named
  have hlocks := B.notSynchronized
  have hl := lv_entry ([.int x, .int y, .int z]) (n := 3) (Nat.le_of_ble_eq_true rfl)
  rw [lg_entry_eq]
  generalize (lg_sl ([.int x, .int y, .int z]) ++ List.replicate (3 - (lg_sl ([.int x, .int y, .int z])).length) Slot.unset).toArray = ls at hl ⊢
  have hl : lv_has ls 3 [(0, .int x), (1, .int y), (2, .int z)] := hl
  refine lv_iload_n hx hb dX2_isIn_0 rfl (lv_at hl 0 rfl) ?_
  refine lv_iload_n hx hb dX2_isIn_1 rfl (lv_at hl 1 rfl) ?_
  refine lv_icmp_lt (tgt := 14) hx hb dX2_isIn_2 (by decide) (fun c1 => ?_) (fun c1 => ?_)
  · refine lv_iconst (v := 0) hx hb dX2_isIn_14 (by decide) ?_
    exact W.zret (v := 0) hx hb hr rfl (fun t ht hW => ⟨0, rfl, by rw [isInS, if_pos c1], ht⟩) (fun q hq => absurd hq List.not_mem_nil) dX2_isIn_15
  · refine lv_iload_n hx hb dX2_isIn_5 rfl (lv_at hl 0 rfl) ?_
    refine lv_iload_n hx hb dX2_isIn_6 rfl (lv_at hl 2 rfl) ?_
    refine lv_icmp_gt (tgt := 14) hx hb dX2_isIn_7 (by decide) (fun c2 => ?_) (fun c2 => ?_)
    · refine lv_iconst (v := 0) hx hb dX2_isIn_14 (by decide) ?_
      exact W.zret (v := 0) hx hb hr rfl (fun t ht hW => ⟨0, rfl, by rw [isInS, if_neg c1, if_pos c2], ht⟩) (fun q hq => absurd hq List.not_mem_nil) dX2_isIn_15
    · refine lv_iconst (v := 1) hx hb dX2_isIn_10 (by decide) ?_
      refine lv_goto (tgt := 15) hx hb dX2_isIn_11 (by decide) ?_
      exact W.zret (v := 1) hx hb hr rfl (fun t ht hW => ⟨1, rfl, by rw [isInS, if_neg c1, if_neg c2], ht⟩) (fun q hq => absurd hq List.not_mem_nil) dX2_isIn_15

set_option maxHeartbeats 4000000 in
set_option maxRecDepth 100000 in
theorem mX2_isPot (l : Launch) (D : va_G) (cy : ClassId) (x : Int32)  : RdI l yX2_isPot wsX2_isPot 1 22 [.int x] D cy (([] : va_W)) (isInS x 0 7) := by
  refine Met.ofW (cc := cX2_isPot) (maxL := 1) (ret := (some .boolean)) (by decide) rfl ?_
  intro p e s m args below meth c s₁ B hml hv
  obtain ⟨rfl, hP, hK⟩ := hv
  have hx := B.exec
  have hb := B.bytes
  have hr := B.returns
  have hts := atoms_spec (ws := wsX2_isPot) B.pre
  have hown : s.vm.findClass RX2 = some m.cls := findClass_of_methodNamed B.named
  have hlocks := B.notSynchronized
  have hl := lv_entry ([.int x]) (n := 1) (Nat.le_of_ble_eq_true rfl)
  rw [lg_entry_eq]
  generalize (lg_sl ([.int x]) ++ List.replicate (1 - (lg_sl ([.int x])).length) Slot.unset).toArray = ls at hl ⊢
  have hl : lv_has ls 1 [(0, .int x)] := hl
  refine lv_iload_n hx hb dX2_isPot_0 rfl (lv_at hl 0 rfl) ?_
  refine lv_iconst (v := 0) hx hb dX2_isPot_1 (by decide) ?_
  refine lv_bipush (v := 7) hx hb dX2_isPot_2 (by decide) ?_
  refine rd_S (As := [.int x, .int 0, .int 7]) (rest := []) ⟨hx, hb, hml, hown, hts⟩ (mX2_isIn l D cy x 0 7) (va_cwS 3 hts gX2_isPot_X2_isIn rfl rfl rfl (by decide +kernel) ⟨Nat.le_of_ble_eq_true rfl, Nat.le_of_ble_eq_true rfl⟩) hP hK rfl hl.1 rfl (Nat.le_of_ble_eq_true rfl) dX2_isPot_4 (Nat.zero_le _) (Nat.zero_le _) ?_
  exact W.zret (v := isInS x 0 7) hx hb hr (nar_isIn _ _ _) (fun t ht hW => ⟨(isInS x 0 7), rfl, rfl, ht⟩) (fun q hq => absurd hq List.not_mem_nil) dX2_isPot_7

set_option maxRecDepth 100000 in
theorem inX2_isDish_2 : ∀ w ∈ wsX20, w ∈ wsX2_isDish := by decide +kernel

set_option maxHeartbeats 4000000 in
set_option maxRecDepth 100000 in
theorem mX2_isDish (l : Launch) (D : va_G) (cy : ClassId) (q : Nat) (b : Nat → Nat) (M : Nat → Nat → Int32) (n dr : Nat) (an fi ba : Int32) (mo : Nat) (th : Int32) (nd : Nat) (fl : Int32) (tq : Nat) (d : Int32) (hnd : nd < 1000000) (hn : n ≤ 120) (hdr : dr ≤ 120) : RdI l yX2_isDish wsX2_isDish 1 22 [.ref mo, .int d] D cy (cSM q b cy M n dr an fi ba mo th nd fl q tq) (isInS d 0 (nI nd - 1)) := by
  refine Met.ofW (cc := cX2_isDish) (maxL := 2) (ret := (some .boolean)) (by decide) rfl ?_
  intro p e s m args below meth c s₁ B hml hv
  obtain ⟨rfl, hP, hK⟩ := hv
  have hx := B.exec
  have hb := B.bytes
  have hr := B.returns
  have hts := atoms_spec (ws := wsX2_isDish) B.pre
  have hown : s.vm.findClass RX2 = some m.cls := findClass_of_methodNamed B.named
  have hlocks := B.notSynchronized
  have hl := lv_entry ([.ref mo, .int d]) (n := 2) (Nat.le_of_ble_eq_true rfl)
  rw [lg_entry_eq]
  generalize (lg_sl ([.ref mo, .int d]) ++ List.replicate (2 - (lg_sl ([.ref mo, .int d])).length) Slot.unset).toArray = ls at hl ⊢
  have hl : lv_has ls 2 [(0, .ref mo), (1, .int d)] := hl
  refine lv_iload_n hx hb dX2_isDish_0 rfl (lv_at hl 1 rfl) ?_
  refine lv_iconst (v := 0) hx hb dX2_isDish_1 (by decide) ?_
  refine lv_aload_n hx hb dX2_isDish_2 rfl (lv_at hl 0 rfl) ?_
  refine va_get (D := D) (ci := 2) (v := .int (nI nd)) (C := RX2) (T := TX2) (N := 5) hx hb hts inX2_isDish_2 hown hK.1 hP 10 rfl rfl 1 (by decide) (hts (.fieldLink RX2 29 "ChalkSlateModel" "dishes" "I") (by decide +kernel)) (fun _ h9 => h9) rfl dX2_isDish_3 ?_
  refine lv_iconst (v := 1) hx hb dX2_isDish_6 (by decide) ?_
  refine lv_isub hx hb dX2_isDish_7 ?_
  refine rd_S (As := [.int d, .int 0, .int ((nI nd) - 1)]) (rest := []) ⟨hx, hb, hml, hown, hts⟩ (mX2_isIn l D cy d 0 ((nI nd) - 1)) (va_cwS 3 hts gX2_isDish_X2_isIn rfl rfl rfl (by decide +kernel) ⟨Nat.le_of_ble_eq_true rfl, Nat.le_of_ble_eq_true rfl⟩) (hP.sub (ws' := []) [] rfl) hK rfl hl.1 rfl (Nat.le_of_ble_eq_true rfl) dX2_isDish_8 (Nat.zero_le _) (Nat.zero_le _) ?_
  exact W.zret (v := isInS d 0 ((nI nd) - 1)) hx hb hr (nar_isIn _ _ _) (fun t ht hW => ⟨(isInS d 0 ((nI nd) - 1)), rfl, rfl, ht⟩) (fun q hq => absurd hq List.not_mem_nil) dX2_isDish_11

set_option maxRecDepth 100000 in
theorem inX2_thrown_2 : ∀ w ∈ wsX20, w ∈ wsX2_thrown := by decide +kernel

set_option maxHeartbeats 4000000 in
set_option maxRecDepth 100000 in
theorem mX2_thrown (l : Launch) (D : va_G) (cy : ClassId) (q : Nat) (b : Nat → Nat) (M : Nat → Nat → Int32) (n dr : Nat) (an fi ba : Int32) (mo : Nat) (th : Int32) (nd : Nat) (fl : Int32) (tq : Nat)  (hnd : nd < 1000000) (hn : n ≤ 120) (hdr : dr ≤ 120) : RdI l yX2_thrown wsX2_thrown 0 0 [.ref mo] D cy (cSM q b cy M n dr an fi ba mo th nd fl q tq) (th) := by
  refine Met.ofW (cc := cX2_thrown) (maxL := 1) (ret := (some .int)) (by decide) rfl ?_
  intro p e s m args below meth c s₁ B hml hv
  obtain ⟨rfl, hP, hK⟩ := hv
  have hx := B.exec
  have hb := B.bytes
  have hr := B.returns
  have hts := atoms_spec (ws := wsX2_thrown) B.pre
  have hown : s.vm.findClass RX2 = some m.cls := findClass_of_methodNamed B.named
  have hlocks := B.notSynchronized
  have hl := lv_entry ([.ref mo]) (n := 1) (Nat.le_of_ble_eq_true rfl)
  rw [lg_entry_eq]
  generalize (lg_sl ([.ref mo]) ++ List.replicate (1 - (lg_sl ([.ref mo])).length) Slot.unset).toArray = ls at hl ⊢
  have hl : lv_has ls 1 [(0, .ref mo)] := hl
  refine lv_aload_n hx hb dX2_thrown_0 rfl (lv_at hl 0 rfl) ?_
  refine va_get (D := D) (ci := 2) (v := .int th) (C := RX2) (T := TX2) (N := 5) hx hb hts inX2_thrown_2 hown hK.1 hP 10 rfl rfl 0 (by decide) (hts (.fieldLink RX2 21 "ChalkSlateModel" "thrown" "I") (by decide +kernel)) (fun _ h9 => h9) rfl dX2_thrown_1 ?_
  exact W.iret (v := th) hx hb hr (fun t ht hW => ⟨th, rfl, rfl, ht⟩) (fun q hq => absurd hq List.not_mem_nil) dX2_thrown_4

set_option maxRecDepth 100000 in
theorem inX2_no_2 : ∀ w ∈ wsX20, w ∈ wsX2_no := by decide +kernel

set_option maxHeartbeats 4000000 in
set_option maxRecDepth 100000 in
theorem mX2_no (l : Launch) (D : va_G) (cy : ClassId) (q : Nat) (b : Nat → Nat) (M : Nat → Nat → Int32) (n dr : Nat) (an fi ba : Int32) (mo : Nat) (th : Int32) (nd : Nat) (fl : Int32) (tq : Nat) (k : Int32) (hnd : nd < 1000000) (hn : n ≤ 120) (hdr : dr ≤ 120) (sz : Nat) : WrI l yX2_no wsX2_no 0 0 [.ref mo, .int k] D cy (cSM q b cy M n dr an fi ba mo th nd fl q tq) (cSM q b cy M n dr an fi ba mo k nd fl q tq) sz (0) := by
  refine Met.ofW (cc := cX2_no) (maxL := 2) (ret := (some .int)) (by decide) rfl ?_
  intro p e s m args below meth c s₁ B hml hv
  obtain ⟨rfl, hsz, hP, hK, hD0⟩ := hv
  have hx := B.exec
  have hb := B.bytes
  have hr := B.returns
  have hts := atoms_spec (ws := wsX2_no) B.pre
  have hown : s.vm.findClass RX2 = some m.cls := findClass_of_methodNamed B.named
  have hlocks := B.notSynchronized
  subst hsz
  have hD := hD0.self (sz := s.heap.size)
  generalize hAe : va_A (cSM q b cy M n dr an fi ba mo th nd fl q tq) s.heap.size = A at hD ⊢
  have hA : ∀ q : Nat, s.heap.size ≤ q → A q := fun q h => by rw [← hAe]; exact Or.inr h
  have hS : va_S A s.heap s.heap [] := va_S.rf
  have hl := lv_entry ([.ref mo, .int k]) (n := 2) (Nat.le_of_ble_eq_true rfl)
  rw [lg_entry_eq]
  generalize (lg_sl ([.ref mo, .int k]) ++ List.replicate (2 - (lg_sl ([.ref mo, .int k])).length) Slot.unset).toArray = ls at hl ⊢
  have hl : lv_has ls 2 [(0, .ref mo), (1, .int k)] := hl
  refine lv_aload_n hx hb dX2_no_0 rfl (lv_at hl 0 rfl) ?_
  refine lv_iload_n hx hb dX2_no_1 rfl (lv_at hl 1 rfl) ?_
  refine va_put (D := D) (ci := 2) (v := .int k) (ty := .int) (C := RX2) (T := TX2) (N := 5) hx hb hts inX2_no_2 tyX2 tyX2_ok nmX2 hown hK.1 hP hD hS 10 rfl rfl 0 (by decide) (hts (.fieldLink RX2 21 "ChalkSlateModel" "thrown" "I") (by decide +kernel)) (fun _ h9 => h9) rfl (by decide +kernel) rfl rfl (Nat.le_of_ble_eq_true rfl) dX2_no_2 (fun H locs hP hD hS => ?_)
  have hP : va_P D vwCl (cSM q b cy M n dr an fi ba mo k nd fl q tq) H := hP
  have hD : va_D A (cSM q b cy M n dr an fi ba mo k nd fl q tq) := hD
  refine lv_iconst (v := 0) hx hb dX2_no_5 (by decide) ?_
  exact W.iret (v := 0) hx hb hr (fun t ht hW => ⟨⟨0, (), rfl, rfl, by show va_P D vwCl _ t.heap; rw [ht]; exact hP⟩, hS.F ht⟩) hS.2.2 dX2_no_6

set_option maxRecDepth 100000 in
theorem inX2_potTold_2 : ∀ w ∈ wsX20, w ∈ wsX2_potTold := by decide +kernel

set_option maxRecDepth 100000 in
theorem inX2_potTold_1 : ∀ w ∈ wsX10, w ∈ wsX2_potTold := by decide +kernel

set_option maxHeartbeats 4000000 in
set_option maxRecDepth 100000 in
theorem mX2_potTold (l : Launch) (D : va_G) (cy : ClassId) (q : Nat) (b : Nat → Nat) (M : Nat → Nat → Int32) (n dr : Nat) (an fi ba : Int32) (mo : Nat) (th : Int32) (nd : Nat) (fl : Int32) (tq : Nat) (u w : Int32) (hnd : nd < 1000000) (hn : n ≤ 120) (hdr : dr ≤ 120) (hu : vp_in u 8) (hw : vp_in w 5) (sz : Nat) : WnI l yX2_potTold wsX2_potTold 3 69 1 5 [.ref mo, .int u, .int w] D cy (cSM q b cy M n dr an fi ba mo th nd fl q tq) (cSM q b cy M n dr an fi ba mo th nd fl q tq) sz (potTM M n nd u w) := by
  refine Met.ofW (cc := cX2_potTold) (maxL := 4) (ret := (some .int)) (by decide) rfl ?_
  intro p e s m args below meth c s₁ B hml hv
  obtain ⟨rfl, hsz, hP, hK, hD0⟩ := hv
  have hx := B.exec
  have hb := B.bytes
  have hr := B.returns
  have hts := atoms_spec (ws := wsX2_potTold) B.pre
  have hown : s.vm.findClass RX2 = some m.cls := findClass_of_methodNamed B.named
  have hlocks := B.notSynchronized
  subst hsz
  have hD := hD0.self (sz := s.heap.size)
  generalize hAe : va_A (cSM q b cy M n dr an fi ba mo th nd fl q tq) s.heap.size = A at hD ⊢
  have hA : ∀ q : Nat, s.heap.size ≤ q → A q := fun q h => by rw [← hAe]; exact Or.inr h
  have hS : va_S A s.heap s.heap [] := va_S.rf
  have hl := lv_entry ([.ref mo, .int u, .int w]) (n := 4) (Nat.le_of_ble_eq_true rfl)
  rw [lg_entry_eq]
  generalize (lg_sl ([.ref mo, .int u, .int w]) ++ List.replicate (4 - (lg_sl ([.ref mo, .int u, .int w])).length) Slot.unset).toArray = ls at hl ⊢
  have hl : lv_has ls 4 [(0, .ref mo), (1, .int u), (2, .int w)] := hl
  refine lv_iconst (v := 5) hx hb dX2_potTold_0 (by decide) ?_
  refine va_newa (atype := .int) (N' := 5) (a0 := (5, .inl (fun _ => 0))) hx hb (hts (.arrayClass .int) (by decide +kernel)) rfl hK.1 hP hD hS hA (fun _ => rfl) (by decide) (by decide) (by decide) (Nat.le_of_ble_eq_true rfl) (Nat.le_of_ble_eq_true rfl) dX2_potTold_1 (fun q9 cA H hK9 hP hD hS => ?_)
  have hP : va_P D vwCl (cSM q b cy M n dr an fi ba mo th nd fl q tq ++ [(q9, .inl (cA, 5, .inl (fun _ => 0)))]) H := hP
  have hD : va_D A (cSM q b cy M n dr an fi ba mo th nd fl q tq ++ [(q9, .inl (cA, 5, .inl (fun _ => 0)))]) := hD
  refine lv_dup hx hb dX2_potTold_3 rfl ?_
  refine lv_iconst (v := 0) hx hb dX2_potTold_4 (by decide) ?_
  refine lv_aload_n hx hb dX2_potTold_5 rfl (lv_at hl 0 rfl) ?_
  refine va_get (D := D) (ci := 2) (v := .ref q) (C := RX2) (T := TX2) (N := 5) hx hb hts inX2_potTold_2 hown hK.1 hP 10 rfl rfl 3 (by decide) (hts (.fieldLink RX2 12 "ChalkSlateModel" "s" "LChalkSlateModel$State;") (by decide +kernel)) (fun _ h9 => h9) rfl dX2_potTold_6 ?_
  refine va_getN (D := D) (ci := 1) (v := .ref (b 0)) (C := RX1) (T := TX1) (N := 15) hx hb hts inX2_potTold_1 hown hK.1 hP 0 rfl rfl 2 (by decide) (va_Nw.use rfl hK.2.2.2.1) (fun _ h9 => h9) rfl dX2_potTold_9 ?_
  refine lv_iload_n hx hb dX2_potTold_12 rfl (lv_at hl 1 rfl) ?_
  refine va_iald hx hb hK.1 hP 1 0 rfl rfl hu dX2_potTold_13 ?_
  refine va_iast hx hb hK9 hP hD hS 11 1 rfl rfl (vp_in_nI (n := 0) (by omega) (by omega)) dX2_potTold_14 (fun H locs hP hD hS => ?_)
  have hP : va_P D vwCl (cSM q b cy M n dr an fi ba mo th nd fl q tq ++ [(q9, .inl (cA, 5, .inl (upd (fun _ => 0) 0 ((M 0) u.toNatClampNeg))))]) H := hP
  have hD : va_D A (cSM q b cy M n dr an fi ba mo th nd fl q tq ++ [(q9, .inl (cA, 5, .inl (upd (fun _ => 0) 0 ((M 0) u.toNatClampNeg))))]) := hD
  refine lv_dup hx hb dX2_potTold_15 rfl ?_
  refine lv_iconst (v := 1) hx hb dX2_potTold_16 (by decide) ?_
  refine lv_aload_n hx hb dX2_potTold_17 rfl (lv_at hl 0 rfl) ?_
  refine va_get (D := D) (ci := 2) (v := .ref q) (C := RX2) (T := TX2) (N := 5) hx hb hts inX2_potTold_2 hown hK.1 hP 10 rfl rfl 3 (by decide) (hts (.fieldLink RX2 12 "ChalkSlateModel" "s" "LChalkSlateModel$State;") (by decide +kernel)) (fun _ h9 => h9) rfl dX2_potTold_18 ?_
  refine va_getN (D := D) (ci := 1) (v := .ref (b 1)) (C := RX1) (T := TX1) (N := 15) hx hb hts inX2_potTold_1 hown hK.1 hP 0 rfl rfl 3 (by decide) (va_Nw.use rfl hK.2.2.2.2.1) (fun _ h9 => h9) rfl dX2_potTold_21 ?_
  refine lv_iload_n hx hb dX2_potTold_24 rfl (lv_at hl 1 rfl) ?_
  refine va_iald hx hb hK.1 hP 2 0 rfl rfl hu dX2_potTold_25 ?_
  refine va_iast hx hb hK9 hP hD hS 11 1 rfl rfl (vp_in_nI (n := 1) (by omega) (by omega)) dX2_potTold_26 (fun H locs hP hD hS => ?_)
  have hP : va_P D vwCl (cSM q b cy M n dr an fi ba mo th nd fl q tq ++ [(q9, .inl (cA, 5, .inl (upd (upd (fun _ => 0) 0 ((M 0) u.toNatClampNeg)) 1 ((M 1) u.toNatClampNeg))))]) H := hP
  have hD : va_D A (cSM q b cy M n dr an fi ba mo th nd fl q tq ++ [(q9, .inl (cA, 5, .inl (upd (upd (fun _ => 0) 0 ((M 0) u.toNatClampNeg)) 1 ((M 1) u.toNatClampNeg))))]) := hD
  refine lv_dup hx hb dX2_potTold_27 rfl ?_
  refine lv_iconst (v := 2) hx hb dX2_potTold_28 (by decide) ?_
  refine lv_aload_n hx hb dX2_potTold_29 rfl (lv_at hl 0 rfl) ?_
  refine va_get (D := D) (ci := 2) (v := .ref q) (C := RX2) (T := TX2) (N := 5) hx hb hts inX2_potTold_2 hown hK.1 hP 10 rfl rfl 3 (by decide) (hts (.fieldLink RX2 12 "ChalkSlateModel" "s" "LChalkSlateModel$State;") (by decide +kernel)) (fun _ h9 => h9) rfl dX2_potTold_30 ?_
  refine va_getN (D := D) (ci := 1) (v := .ref (b 2)) (C := RX1) (T := TX1) (N := 15) hx hb hts inX2_potTold_1 hown hK.1 hP 0 rfl rfl 4 (by decide) (va_Nw.use rfl hK.2.2.2.2.2.1) (fun _ h9 => h9) rfl dX2_potTold_33 ?_
  refine lv_iload_n hx hb dX2_potTold_36 rfl (lv_at hl 1 rfl) ?_
  refine va_iald hx hb hK.1 hP 3 0 rfl rfl hu dX2_potTold_37 ?_
  refine va_iast hx hb hK9 hP hD hS 11 1 rfl rfl (vp_in_nI (n := 2) (by omega) (by omega)) dX2_potTold_38 (fun H locs hP hD hS => ?_)
  have hP : va_P D vwCl (cSM q b cy M n dr an fi ba mo th nd fl q tq ++ [(q9, .inl (cA, 5, .inl (upd (upd (upd (fun _ => 0) 0 ((M 0) u.toNatClampNeg)) 1 ((M 1) u.toNatClampNeg)) 2 ((M 2) u.toNatClampNeg))))]) H := hP
  have hD : va_D A (cSM q b cy M n dr an fi ba mo th nd fl q tq ++ [(q9, .inl (cA, 5, .inl (upd (upd (upd (fun _ => 0) 0 ((M 0) u.toNatClampNeg)) 1 ((M 1) u.toNatClampNeg)) 2 ((M 2) u.toNatClampNeg))))]) := hD
  refine lv_dup hx hb dX2_potTold_39 rfl ?_
  refine lv_iconst (v := 3) hx hb dX2_potTold_40 (by decide) ?_
  refine lv_aload_n hx hb dX2_potTold_41 rfl (lv_at hl 0 rfl) ?_
  refine va_get (D := D) (ci := 2) (v := .ref q) (C := RX2) (T := TX2) (N := 5) hx hb hts inX2_potTold_2 hown hK.1 hP 10 rfl rfl 3 (by decide) (hts (.fieldLink RX2 12 "ChalkSlateModel" "s" "LChalkSlateModel$State;") (by decide +kernel)) (fun _ h9 => h9) rfl dX2_potTold_42 ?_
  refine lv_iload_n hx hb dX2_potTold_45 rfl (lv_at hl 1 rfl) ?_
  refine rd_V (q := (RX1, TX1, 15)) (ci := 1) (q0 := 0) (As := [.int u]) (rest := [.int 3, .ref q9, .ref q9]) ⟨hx, hb, hml, hown, hts⟩ (mX1_holder l D cy q b M n dr an fi ba mo th nd fl q tq u (by omega) (by omega) (by omega) ) (cwV 1 hts gX2_potTold_X1_holder rfl rfl rfl (by decide +kernel) ⟨Nat.le_of_ble_eq_true rfl, Nat.le_of_ble_eq_true rfl⟩) (hP.sub (ws' := cSM q b cy M n dr an fi ba mo th nd fl q tq) [0, 1, 2, 3, 4, 5, 6, 7, 8, 9, 10] rfl) hK rfl rfl rfl hl.1 rfl (Nat.le_of_ble_eq_true rfl) dX2_potTold_46 (Nat.le_of_ble_eq_true rfl) (Nat.le_of_ble_eq_true rfl) ?_
  refine va_iast hx hb hK9 hP hD hS 11 1 rfl rfl (vp_in_nI (n := 3) (by omega) (by omega)) dX2_potTold_49 (fun H locs hP hD hS => ?_)
  have hP : va_P D vwCl (cSM q b cy M n dr an fi ba mo th nd fl q tq ++ [(q9, .inl (cA, 5, .inl (upd (upd (upd (upd (fun _ => 0) 0 ((M 0) u.toNatClampNeg)) 1 ((M 1) u.toNatClampNeg)) 2 ((M 2) u.toNatClampNeg)) 3 (holderM M n u nd 0))))]) H := hP
  have hD : va_D A (cSM q b cy M n dr an fi ba mo th nd fl q tq ++ [(q9, .inl (cA, 5, .inl (upd (upd (upd (upd (fun _ => 0) 0 ((M 0) u.toNatClampNeg)) 1 ((M 1) u.toNatClampNeg)) 2 ((M 2) u.toNatClampNeg)) 3 (holderM M n u nd 0))))]) := hD
  refine lv_dup hx hb dX2_potTold_50 rfl ?_
  refine lv_iconst (v := 4) hx hb dX2_potTold_51 (by decide) ?_
  refine lv_aload_n hx hb dX2_potTold_52 rfl (lv_at hl 0 rfl) ?_
  refine va_get (D := D) (ci := 2) (v := .ref q) (C := RX2) (T := TX2) (N := 5) hx hb hts inX2_potTold_2 hown hK.1 hP 10 rfl rfl 3 (by decide) (hts (.fieldLink RX2 12 "ChalkSlateModel" "s" "LChalkSlateModel$State;") (by decide +kernel)) (fun _ h9 => h9) rfl dX2_potTold_53 ?_
  refine lv_iload_n hx hb dX2_potTold_56 rfl (lv_at hl 1 rfl) ?_
  refine rd_V (q := (RX1, TX1, 15)) (ci := 1) (q0 := 0) (As := [.int u]) (rest := [.int 4, .ref q9, .ref q9]) ⟨hx, hb, hml, hown, hts⟩ (mX1_latest l D cy q b M n dr an fi ba mo th nd fl q tq u (by omega) (by omega) (by omega) ) (cwV 1 hts gX2_potTold_X1_latest rfl rfl rfl (by decide +kernel) ⟨Nat.le_of_ble_eq_true rfl, Nat.le_of_ble_eq_true rfl⟩) (hP.sub (ws' := cSM q b cy M n dr an fi ba mo th nd fl q tq) [0, 1, 2, 3, 4, 5, 6, 7, 8, 9, 10] rfl) hK rfl rfl rfl hl.1 rfl (Nat.le_of_ble_eq_true rfl) dX2_potTold_57 (Nat.le_of_ble_eq_true rfl) (Nat.le_of_ble_eq_true rfl) ?_
  refine va_iast hx hb hK9 hP hD hS 11 1 rfl rfl (vp_in_nI (n := 4) (by omega) (by omega)) dX2_potTold_60 (fun H locs hP hD hS => ?_)
  have hP : va_P D vwCl (cSM q b cy M n dr an fi ba mo th nd fl q tq ++ [(q9, .inl (cA, 5, .inl (upd (upd (upd (upd (upd (fun _ => 0) 0 ((M 0) u.toNatClampNeg)) 1 ((M 1) u.toNatClampNeg)) 2 ((M 2) u.toNatClampNeg)) 3 (holderM M n u nd 0)) 4 (latestM M u n))))]) H := hP
  have hD : va_D A (cSM q b cy M n dr an fi ba mo th nd fl q tq ++ [(q9, .inl (cA, 5, .inl (upd (upd (upd (upd (upd (fun _ => 0) 0 ((M 0) u.toNatClampNeg)) 1 ((M 1) u.toNatClampNeg)) 2 ((M 2) u.toNatClampNeg)) 3 (holderM M n u nd 0)) 4 (latestM M u n))))]) := hD
  refine lv_astore_n (lv' := [(3, .ref q9), (0, .ref mo), (1, .int u), (2, .int w)]) hx hb dX2_potTold_61 rfl hl (by decide) rfl (fun ls hl => ?_)
  refine lv_aload_n hx hb dX2_potTold_62 rfl (lv_at hl 0 rfl) ?_
  refine lv_iload_n hx hb dX2_potTold_63 rfl (lv_at hl 3 rfl) ?_
  refine va_iald hx hb hK9 hP 11 1 rfl rfl hw dX2_potTold_64 ?_
  have hP : va_P D vwCl (cSM q b cy M n dr an fi ba mo th nd fl q tq) H := hP.sub (ws' := cSM q b cy M n dr an fi ba mo th nd fl q tq) [0, 1, 2, 3, 4, 5, 6, 7, 8, 9, 10] rfl
  exact W.iret (v := (upd (upd (upd (upd (upd (fun _ => 0) 0 ((M 0) u.toNatClampNeg)) 1 ((M 1) u.toNatClampNeg)) 2 ((M 2) u.toNatClampNeg)) 3 (holderM M n u nd 0)) 4 (latestM M u n)) w.toNatClampNeg) hx hb hr (fun t ht hW => ⟨⟨((upd (upd (upd (upd (upd (fun _ => 0) 0 ((M 0) u.toNatClampNeg)) 1 ((M 1) u.toNatClampNeg)) 2 ((M 2) u.toNatClampNeg)) 3 (holderM M n u nd 0)) 4 (latestM M u n)) w.toNatClampNeg), (), rfl, rfl, by show va_P D vwCl _ t.heap; rw [ht]; exact hP⟩, hS.F ht⟩) hS.2.2 dX2_potTold_65

set_option maxRecDepth 100000 in
theorem inX2_lineTold_2 : ∀ w ∈ wsX20, w ∈ wsX2_lineTold := by decide +kernel

set_option maxRecDepth 100000 in
theorem inX2_lineTold_1 : ∀ w ∈ wsX10, w ∈ wsX2_lineTold := by decide +kernel

set_option maxHeartbeats 4000000 in
set_option maxRecDepth 100000 in
theorem mX2_lineTold (l : Launch) (D : va_G) (cy : ClassId) (q : Nat) (b : Nat → Nat) (M : Nat → Nat → Int32) (n dr : Nat) (an fi ba : Int32) (mo : Nat) (th : Int32) (nd : Nat) (fl : Int32) (tq : Nat) (u w : Int32) (hnd : nd < 1000000) (hn : n ≤ 120) (hdr : dr ≤ 120) (hu : vp_in u 120) (hw : vp_in w 7) (sz : Nat) : WnI l yX2_lineTold wsX2_lineTold 0 0 1 7 [.ref mo, .int u, .int w] D cy (cSM q b cy M n dr an fi ba mo th nd fl q tq) (cSM q b cy M n dr an fi ba mo th nd fl q tq) sz (lineTM M dr u w) := by
  refine Met.ofW (cc := cX2_lineTold) (maxL := 4) (ret := (some .int)) (by decide) rfl ?_
  intro p e s m args below meth c s₁ B hml hv
  obtain ⟨rfl, hsz, hP, hK, hD0⟩ := hv
  have hx := B.exec
  have hb := B.bytes
  have hr := B.returns
  have hts := atoms_spec (ws := wsX2_lineTold) B.pre
  have hown : s.vm.findClass RX2 = some m.cls := findClass_of_methodNamed B.named
  have hlocks := B.notSynchronized
  subst hsz
  have hD := hD0.self (sz := s.heap.size)
  generalize hAe : va_A (cSM q b cy M n dr an fi ba mo th nd fl q tq) s.heap.size = A at hD ⊢
  have hA : ∀ q : Nat, s.heap.size ≤ q → A q := fun q h => by rw [← hAe]; exact Or.inr h
  have hS : va_S A s.heap s.heap [] := va_S.rf
  have hl := lv_entry ([.ref mo, .int u, .int w]) (n := 4) (Nat.le_of_ble_eq_true rfl)
  rw [lg_entry_eq]
  generalize (lg_sl ([.ref mo, .int u, .int w]) ++ List.replicate (4 - (lg_sl ([.ref mo, .int u, .int w])).length) Slot.unset).toArray = ls at hl ⊢
  have hl : lv_has ls 4 [(0, .ref mo), (1, .int u), (2, .int w)] := hl
  refine lv_bipush (v := 7) hx hb dX2_lineTold_0 (by decide) ?_
  refine va_newa (atype := .int) (N' := 7) (a0 := (7, .inl (fun _ => 0))) hx hb (hts (.arrayClass .int) (by decide +kernel)) rfl hK.1 hP hD hS hA (fun _ => rfl) (by decide) (by decide) (by decide) (Nat.le_of_ble_eq_true rfl) (Nat.le_of_ble_eq_true rfl) dX2_lineTold_2 (fun q9 cA H hK9 hP hD hS => ?_)
  have hP : va_P D vwCl (cSM q b cy M n dr an fi ba mo th nd fl q tq ++ [(q9, .inl (cA, 7, .inl (fun _ => 0)))]) H := hP
  have hD : va_D A (cSM q b cy M n dr an fi ba mo th nd fl q tq ++ [(q9, .inl (cA, 7, .inl (fun _ => 0)))]) := hD
  refine lv_dup hx hb dX2_lineTold_4 rfl ?_
  refine lv_iconst (v := 0) hx hb dX2_lineTold_5 (by decide) ?_
  refine lv_aload_n hx hb dX2_lineTold_6 rfl (lv_at hl 0 rfl) ?_
  refine va_get (D := D) (ci := 2) (v := .ref q) (C := RX2) (T := TX2) (N := 5) hx hb hts inX2_lineTold_2 hown hK.1 hP 10 rfl rfl 3 (by decide) (hts (.fieldLink RX2 12 "ChalkSlateModel" "s" "LChalkSlateModel$State;") (by decide +kernel)) (fun _ h9 => h9) rfl dX2_lineTold_7 ?_
  refine va_getN (D := D) (ci := 1) (v := .ref (b 4)) (C := RX1) (T := TX1) (N := 15) hx hb hts inX2_lineTold_1 hown hK.1 hP 0 rfl rfl 5 (by decide) (va_Nw.use rfl hK.2.2.2.2.2.2.1) (fun _ h9 => h9) rfl dX2_lineTold_10 ?_
  refine lv_iload_n hx hb dX2_lineTold_13 rfl (lv_at hl 1 rfl) ?_
  refine va_iald hx hb hK.1 hP 4 0 rfl rfl hu dX2_lineTold_14 ?_
  refine va_iast hx hb hK9 hP hD hS 11 1 rfl rfl (vp_in_nI (n := 0) (by omega) (by omega)) dX2_lineTold_15 (fun H locs hP hD hS => ?_)
  have hP : va_P D vwCl (cSM q b cy M n dr an fi ba mo th nd fl q tq ++ [(q9, .inl (cA, 7, .inl (upd (fun _ => 0) 0 ((M 4) u.toNatClampNeg))))]) H := hP
  have hD : va_D A (cSM q b cy M n dr an fi ba mo th nd fl q tq ++ [(q9, .inl (cA, 7, .inl (upd (fun _ => 0) 0 ((M 4) u.toNatClampNeg))))]) := hD
  refine lv_dup hx hb dX2_lineTold_16 rfl ?_
  refine lv_iconst (v := 1) hx hb dX2_lineTold_17 (by decide) ?_
  refine lv_aload_n hx hb dX2_lineTold_18 rfl (lv_at hl 0 rfl) ?_
  refine va_get (D := D) (ci := 2) (v := .ref q) (C := RX2) (T := TX2) (N := 5) hx hb hts inX2_lineTold_2 hown hK.1 hP 10 rfl rfl 3 (by decide) (hts (.fieldLink RX2 12 "ChalkSlateModel" "s" "LChalkSlateModel$State;") (by decide +kernel)) (fun _ h9 => h9) rfl dX2_lineTold_19 ?_
  refine va_getN (D := D) (ci := 1) (v := .ref (b 5)) (C := RX1) (T := TX1) (N := 15) hx hb hts inX2_lineTold_1 hown hK.1 hP 0 rfl rfl 6 (by decide) (va_Nw.use rfl hK.2.2.2.2.2.2.2.1) (fun _ h9 => h9) rfl dX2_lineTold_22 ?_
  refine lv_iload_n hx hb dX2_lineTold_25 rfl (lv_at hl 1 rfl) ?_
  refine va_iald hx hb hK.1 hP 5 0 rfl rfl hu dX2_lineTold_26 ?_
  refine va_iast hx hb hK9 hP hD hS 11 1 rfl rfl (vp_in_nI (n := 1) (by omega) (by omega)) dX2_lineTold_27 (fun H locs hP hD hS => ?_)
  have hP : va_P D vwCl (cSM q b cy M n dr an fi ba mo th nd fl q tq ++ [(q9, .inl (cA, 7, .inl (upd (upd (fun _ => 0) 0 ((M 4) u.toNatClampNeg)) 1 ((M 5) u.toNatClampNeg))))]) H := hP
  have hD : va_D A (cSM q b cy M n dr an fi ba mo th nd fl q tq ++ [(q9, .inl (cA, 7, .inl (upd (upd (fun _ => 0) 0 ((M 4) u.toNatClampNeg)) 1 ((M 5) u.toNatClampNeg))))]) := hD
  refine lv_dup hx hb dX2_lineTold_28 rfl ?_
  refine lv_iconst (v := 2) hx hb dX2_lineTold_29 (by decide) ?_
  refine lv_aload_n hx hb dX2_lineTold_30 rfl (lv_at hl 0 rfl) ?_
  refine va_get (D := D) (ci := 2) (v := .ref q) (C := RX2) (T := TX2) (N := 5) hx hb hts inX2_lineTold_2 hown hK.1 hP 10 rfl rfl 3 (by decide) (hts (.fieldLink RX2 12 "ChalkSlateModel" "s" "LChalkSlateModel$State;") (by decide +kernel)) (fun _ h9 => h9) rfl dX2_lineTold_31 ?_
  refine va_getN (D := D) (ci := 1) (v := .ref (b 6)) (C := RX1) (T := TX1) (N := 15) hx hb hts inX2_lineTold_1 hown hK.1 hP 0 rfl rfl 7 (by decide) (va_Nw.use rfl hK.2.2.2.2.2.2.2.2.1) (fun _ h9 => h9) rfl dX2_lineTold_34 ?_
  refine lv_iload_n hx hb dX2_lineTold_37 rfl (lv_at hl 1 rfl) ?_
  refine va_iald hx hb hK.1 hP 6 0 rfl rfl hu dX2_lineTold_38 ?_
  refine va_iast hx hb hK9 hP hD hS 11 1 rfl rfl (vp_in_nI (n := 2) (by omega) (by omega)) dX2_lineTold_39 (fun H locs hP hD hS => ?_)
  have hP : va_P D vwCl (cSM q b cy M n dr an fi ba mo th nd fl q tq ++ [(q9, .inl (cA, 7, .inl (upd (upd (upd (fun _ => 0) 0 ((M 4) u.toNatClampNeg)) 1 ((M 5) u.toNatClampNeg)) 2 ((M 6) u.toNatClampNeg))))]) H := hP
  have hD : va_D A (cSM q b cy M n dr an fi ba mo th nd fl q tq ++ [(q9, .inl (cA, 7, .inl (upd (upd (upd (fun _ => 0) 0 ((M 4) u.toNatClampNeg)) 1 ((M 5) u.toNatClampNeg)) 2 ((M 6) u.toNatClampNeg))))]) := hD
  refine lv_dup hx hb dX2_lineTold_40 rfl ?_
  refine lv_iconst (v := 3) hx hb dX2_lineTold_41 (by decide) ?_
  refine lv_aload_n hx hb dX2_lineTold_42 rfl (lv_at hl 0 rfl) ?_
  refine va_get (D := D) (ci := 2) (v := .ref q) (C := RX2) (T := TX2) (N := 5) hx hb hts inX2_lineTold_2 hown hK.1 hP 10 rfl rfl 3 (by decide) (hts (.fieldLink RX2 12 "ChalkSlateModel" "s" "LChalkSlateModel$State;") (by decide +kernel)) (fun _ h9 => h9) rfl dX2_lineTold_43 ?_
  refine va_getN (D := D) (ci := 1) (v := .ref (b 7)) (C := RX1) (T := TX1) (N := 15) hx hb hts inX2_lineTold_1 hown hK.1 hP 0 rfl rfl 8 (by decide) (va_Nw.use rfl hK.2.2.2.2.2.2.2.2.2.1) (fun _ h9 => h9) rfl dX2_lineTold_46 ?_
  refine lv_iload_n hx hb dX2_lineTold_49 rfl (lv_at hl 1 rfl) ?_
  refine va_iald hx hb hK.1 hP 7 0 rfl rfl hu dX2_lineTold_50 ?_
  refine va_iast hx hb hK9 hP hD hS 11 1 rfl rfl (vp_in_nI (n := 3) (by omega) (by omega)) dX2_lineTold_51 (fun H locs hP hD hS => ?_)
  have hP : va_P D vwCl (cSM q b cy M n dr an fi ba mo th nd fl q tq ++ [(q9, .inl (cA, 7, .inl (upd (upd (upd (upd (fun _ => 0) 0 ((M 4) u.toNatClampNeg)) 1 ((M 5) u.toNatClampNeg)) 2 ((M 6) u.toNatClampNeg)) 3 ((M 7) u.toNatClampNeg))))]) H := hP
  have hD : va_D A (cSM q b cy M n dr an fi ba mo th nd fl q tq ++ [(q9, .inl (cA, 7, .inl (upd (upd (upd (upd (fun _ => 0) 0 ((M 4) u.toNatClampNeg)) 1 ((M 5) u.toNatClampNeg)) 2 ((M 6) u.toNatClampNeg)) 3 ((M 7) u.toNatClampNeg))))]) := hD
  refine lv_dup hx hb dX2_lineTold_52 rfl ?_
  refine lv_iconst (v := 4) hx hb dX2_lineTold_53 (by decide) ?_
  refine lv_aload_n hx hb dX2_lineTold_54 rfl (lv_at hl 0 rfl) ?_
  refine va_get (D := D) (ci := 2) (v := .ref q) (C := RX2) (T := TX2) (N := 5) hx hb hts inX2_lineTold_2 hown hK.1 hP 10 rfl rfl 3 (by decide) (hts (.fieldLink RX2 12 "ChalkSlateModel" "s" "LChalkSlateModel$State;") (by decide +kernel)) (fun _ h9 => h9) rfl dX2_lineTold_55 ?_
  refine va_getN (D := D) (ci := 1) (v := .ref (b 8)) (C := RX1) (T := TX1) (N := 15) hx hb hts inX2_lineTold_1 hown hK.1 hP 0 rfl rfl 9 (by decide) (va_Nw.use rfl hK.2.2.2.2.2.2.2.2.2.2.1) (fun _ h9 => h9) rfl dX2_lineTold_58 ?_
  refine lv_iload_n hx hb dX2_lineTold_61 rfl (lv_at hl 1 rfl) ?_
  refine va_iald hx hb hK.1 hP 8 0 rfl rfl hu dX2_lineTold_62 ?_
  refine va_iast hx hb hK9 hP hD hS 11 1 rfl rfl (vp_in_nI (n := 4) (by omega) (by omega)) dX2_lineTold_63 (fun H locs hP hD hS => ?_)
  have hP : va_P D vwCl (cSM q b cy M n dr an fi ba mo th nd fl q tq ++ [(q9, .inl (cA, 7, .inl (upd (upd (upd (upd (upd (fun _ => 0) 0 ((M 4) u.toNatClampNeg)) 1 ((M 5) u.toNatClampNeg)) 2 ((M 6) u.toNatClampNeg)) 3 ((M 7) u.toNatClampNeg)) 4 ((M 8) u.toNatClampNeg))))]) H := hP
  have hD : va_D A (cSM q b cy M n dr an fi ba mo th nd fl q tq ++ [(q9, .inl (cA, 7, .inl (upd (upd (upd (upd (upd (fun _ => 0) 0 ((M 4) u.toNatClampNeg)) 1 ((M 5) u.toNatClampNeg)) 2 ((M 6) u.toNatClampNeg)) 3 ((M 7) u.toNatClampNeg)) 4 ((M 8) u.toNatClampNeg))))]) := hD
  refine lv_dup hx hb dX2_lineTold_64 rfl ?_
  refine lv_iconst (v := 5) hx hb dX2_lineTold_65 (by decide) ?_
  refine lv_aload_n hx hb dX2_lineTold_66 rfl (lv_at hl 0 rfl) ?_
  refine va_get (D := D) (ci := 2) (v := .ref q) (C := RX2) (T := TX2) (N := 5) hx hb hts inX2_lineTold_2 hown hK.1 hP 10 rfl rfl 3 (by decide) (hts (.fieldLink RX2 12 "ChalkSlateModel" "s" "LChalkSlateModel$State;") (by decide +kernel)) (fun _ h9 => h9) rfl dX2_lineTold_67 ?_
  refine va_getN (D := D) (ci := 1) (v := .ref (b 9)) (C := RX1) (T := TX1) (N := 15) hx hb hts inX2_lineTold_1 hown hK.1 hP 0 rfl rfl 10 (by decide) (va_Nw.use rfl hK.2.2.2.2.2.2.2.2.2.2.2.1) (fun _ h9 => h9) rfl dX2_lineTold_70 ?_
  refine lv_iload_n hx hb dX2_lineTold_73 rfl (lv_at hl 1 rfl) ?_
  refine va_iald hx hb hK.1 hP 9 0 rfl rfl hu dX2_lineTold_74 ?_
  refine va_iast hx hb hK9 hP hD hS 11 1 rfl rfl (vp_in_nI (n := 5) (by omega) (by omega)) dX2_lineTold_75 (fun H locs hP hD hS => ?_)
  have hP : va_P D vwCl (cSM q b cy M n dr an fi ba mo th nd fl q tq ++ [(q9, .inl (cA, 7, .inl (upd (upd (upd (upd (upd (upd (fun _ => 0) 0 ((M 4) u.toNatClampNeg)) 1 ((M 5) u.toNatClampNeg)) 2 ((M 6) u.toNatClampNeg)) 3 ((M 7) u.toNatClampNeg)) 4 ((M 8) u.toNatClampNeg)) 5 ((M 9) u.toNatClampNeg))))]) H := hP
  have hD : va_D A (cSM q b cy M n dr an fi ba mo th nd fl q tq ++ [(q9, .inl (cA, 7, .inl (upd (upd (upd (upd (upd (upd (fun _ => 0) 0 ((M 4) u.toNatClampNeg)) 1 ((M 5) u.toNatClampNeg)) 2 ((M 6) u.toNatClampNeg)) 3 ((M 7) u.toNatClampNeg)) 4 ((M 8) u.toNatClampNeg)) 5 ((M 9) u.toNatClampNeg))))]) := hD
  refine lv_dup hx hb dX2_lineTold_76 rfl ?_
  refine lv_bipush (v := 6) hx hb dX2_lineTold_77 (by decide) ?_
  refine lv_iload_n hx hb dX2_lineTold_79 rfl (lv_at hl 1 rfl) ?_
  refine lv_aload_n hx hb dX2_lineTold_80 rfl (lv_at hl 0 rfl) ?_
  refine va_get (D := D) (ci := 2) (v := .ref q) (C := RX2) (T := TX2) (N := 5) hx hb hts inX2_lineTold_2 hown hK.1 hP 10 rfl rfl 3 (by decide) (hts (.fieldLink RX2 12 "ChalkSlateModel" "s" "LChalkSlateModel$State;") (by decide +kernel)) (fun _ h9 => h9) rfl dX2_lineTold_81 ?_
  refine va_getN (D := D) (ci := 1) (v := .int (nI dr)) (C := RX1) (T := TX1) (N := 15) hx hb hts inX2_lineTold_1 hown hK.1 hP 0 rfl rfl 1 (by decide) (va_Nw.use rfl hK.2.2.1) (fun _ h9 => h9) rfl dX2_lineTold_84 ?_
  refine lv_icmp_ge (tgt := 94) hx hb dX2_lineTold_87 (by decide) (fun c1 => ?_) (fun c1 => ?_)
  · refine lv_iconst (v := 0) hx hb dX2_lineTold_94 (by decide) ?_
    refine va_iast hx hb hK9 hP hD hS 11 1 rfl rfl (vp_in_nI (n := 6) (by omega) (by omega)) dX2_lineTold_95 (fun H locs hP hD hS => ?_)
    have hP : va_P D vwCl (cSM q b cy M n dr an fi ba mo th nd fl q tq ++ [(q9, .inl (cA, 7, .inl (upd (upd (upd (upd (upd (upd (upd (fun _ => 0) 0 ((M 4) u.toNatClampNeg)) 1 ((M 5) u.toNatClampNeg)) 2 ((M 6) u.toNatClampNeg)) 3 ((M 7) u.toNatClampNeg)) 4 ((M 8) u.toNatClampNeg)) 5 ((M 9) u.toNatClampNeg)) 6 0)))]) H := hP
    have hD : va_D A (cSM q b cy M n dr an fi ba mo th nd fl q tq ++ [(q9, .inl (cA, 7, .inl (upd (upd (upd (upd (upd (upd (upd (fun _ => 0) 0 ((M 4) u.toNatClampNeg)) 1 ((M 5) u.toNatClampNeg)) 2 ((M 6) u.toNatClampNeg)) 3 ((M 7) u.toNatClampNeg)) 4 ((M 8) u.toNatClampNeg)) 5 ((M 9) u.toNatClampNeg)) 6 0)))]) := hD
    refine lv_astore_n (lv' := [(3, .ref q9), (0, .ref mo), (1, .int u), (2, .int w)]) hx hb dX2_lineTold_96 rfl hl (by decide) rfl (fun ls hl => ?_)
    refine lv_aload_n hx hb dX2_lineTold_97 rfl (lv_at hl 0 rfl) ?_
    refine lv_iload_n hx hb dX2_lineTold_98 rfl (lv_at hl 3 rfl) ?_
    refine va_iald hx hb hK9 hP 11 1 rfl rfl hw dX2_lineTold_99 ?_
    have hP : va_P D vwCl (cSM q b cy M n dr an fi ba mo th nd fl q tq) H := hP.sub (ws' := cSM q b cy M n dr an fi ba mo th nd fl q tq) [0, 1, 2, 3, 4, 5, 6, 7, 8, 9, 10] rfl
    exact W.iret (v := (upd (upd (upd (upd (upd (upd (upd (fun _ => 0) 0 ((M 4) u.toNatClampNeg)) 1 ((M 5) u.toNatClampNeg)) 2 ((M 6) u.toNatClampNeg)) 3 ((M 7) u.toNatClampNeg)) 4 ((M 8) u.toNatClampNeg)) 5 ((M 9) u.toNatClampNeg)) 6 0) w.toNatClampNeg) hx hb hr (fun t ht hW => ⟨⟨((upd (upd (upd (upd (upd (upd (upd (fun _ => 0) 0 ((M 4) u.toNatClampNeg)) 1 ((M 5) u.toNatClampNeg)) 2 ((M 6) u.toNatClampNeg)) 3 ((M 7) u.toNatClampNeg)) 4 ((M 8) u.toNatClampNeg)) 5 ((M 9) u.toNatClampNeg)) 6 0) w.toNatClampNeg), (), rfl, by rw [lineTM, if_pos c1], by show va_P D vwCl _ t.heap; rw [ht]; exact hP⟩, hS.F ht⟩) hS.2.2 dX2_lineTold_100
  · refine lv_iconst (v := 1) hx hb dX2_lineTold_90 (by decide) ?_
    refine lv_goto (tgt := 95) hx hb dX2_lineTold_91 (by decide) ?_
    refine va_iast hx hb hK9 hP hD hS 11 1 rfl rfl (vp_in_nI (n := 6) (by omega) (by omega)) dX2_lineTold_95 (fun H locs hP hD hS => ?_)
    have hP : va_P D vwCl (cSM q b cy M n dr an fi ba mo th nd fl q tq ++ [(q9, .inl (cA, 7, .inl (upd (upd (upd (upd (upd (upd (upd (fun _ => 0) 0 ((M 4) u.toNatClampNeg)) 1 ((M 5) u.toNatClampNeg)) 2 ((M 6) u.toNatClampNeg)) 3 ((M 7) u.toNatClampNeg)) 4 ((M 8) u.toNatClampNeg)) 5 ((M 9) u.toNatClampNeg)) 6 1)))]) H := hP
    have hD : va_D A (cSM q b cy M n dr an fi ba mo th nd fl q tq ++ [(q9, .inl (cA, 7, .inl (upd (upd (upd (upd (upd (upd (upd (fun _ => 0) 0 ((M 4) u.toNatClampNeg)) 1 ((M 5) u.toNatClampNeg)) 2 ((M 6) u.toNatClampNeg)) 3 ((M 7) u.toNatClampNeg)) 4 ((M 8) u.toNatClampNeg)) 5 ((M 9) u.toNatClampNeg)) 6 1)))]) := hD
    refine lv_astore_n (lv' := [(3, .ref q9), (0, .ref mo), (1, .int u), (2, .int w)]) hx hb dX2_lineTold_96 rfl hl (by decide) rfl (fun ls hl => ?_)
    refine lv_aload_n hx hb dX2_lineTold_97 rfl (lv_at hl 0 rfl) ?_
    refine lv_iload_n hx hb dX2_lineTold_98 rfl (lv_at hl 3 rfl) ?_
    refine va_iald hx hb hK9 hP 11 1 rfl rfl hw dX2_lineTold_99 ?_
    have hP : va_P D vwCl (cSM q b cy M n dr an fi ba mo th nd fl q tq) H := hP.sub (ws' := cSM q b cy M n dr an fi ba mo th nd fl q tq) [0, 1, 2, 3, 4, 5, 6, 7, 8, 9, 10] rfl
    exact W.iret (v := (upd (upd (upd (upd (upd (upd (upd (fun _ => 0) 0 ((M 4) u.toNatClampNeg)) 1 ((M 5) u.toNatClampNeg)) 2 ((M 6) u.toNatClampNeg)) 3 ((M 7) u.toNatClampNeg)) 4 ((M 8) u.toNatClampNeg)) 5 ((M 9) u.toNatClampNeg)) 6 1) w.toNatClampNeg) hx hb hr (fun t ht hW => ⟨⟨((upd (upd (upd (upd (upd (upd (upd (fun _ => 0) 0 ((M 4) u.toNatClampNeg)) 1 ((M 5) u.toNatClampNeg)) 2 ((M 6) u.toNatClampNeg)) 3 ((M 7) u.toNatClampNeg)) 4 ((M 8) u.toNatClampNeg)) 5 ((M 9) u.toNatClampNeg)) 6 1) w.toNatClampNeg), (), rfl, by rw [lineTM, if_neg c1], by show va_P D vwCl _ t.heap; rw [ht]; exact hP⟩, hS.F ht⟩) hS.2.2 dX2_lineTold_100

set_option maxRecDepth 100000 in
theorem inX2_dishTold_2 : ∀ w ∈ wsX20, w ∈ wsX2_dishTold := by decide +kernel

set_option maxRecDepth 100000 in
theorem inX2_dishTold_1 : ∀ w ∈ wsX10, w ∈ wsX2_dishTold := by decide +kernel

set_option maxHeartbeats 4000000 in
set_option maxRecDepth 100000 in
theorem mX2_dishTold (l : Launch) (D : va_G) (cy : ClassId) (q : Nat) (b : Nat → Nat) (M : Nat → Nat → Int32) (n dr : Nat) (an fi ba : Int32) (mo : Nat) (th : Int32) (nd : Nat) (fl : Int32) (tq : Nat) (u w : Int32) (hnd : nd < 1000000) (hn : n ≤ 120) (hdr : dr ≤ 120) (hw : vp_in w 5) (sz : Nat) : WnI l yX2_dishTold wsX2_dishTold 3 67 1 5 [.ref mo, .int u, .int w] D cy (cSM q b cy M n dr an fi ba mo th nd fl q tq) (cSM q b cy M n dr an fi ba mo th nd fl q tq) sz (dishTM M n u w) := by
  refine Met.ofW (cc := cX2_dishTold) (maxL := 7) (ret := (some .int)) (by decide) rfl ?_
  intro p e s m args below meth c s₁ B hml hv
  obtain ⟨rfl, hsz, hP, hK, hD0⟩ := hv
  have hx := B.exec
  have hb := B.bytes
  have hr := B.returns
  have hts := atoms_spec (ws := wsX2_dishTold) B.pre
  have hown : s.vm.findClass RX2 = some m.cls := findClass_of_methodNamed B.named
  have hlocks := B.notSynchronized
  subst hsz
  have hD := hD0.self (sz := s.heap.size)
  generalize hAe : va_A (cSM q b cy M n dr an fi ba mo th nd fl q tq) s.heap.size = A at hD ⊢
  have hA : ∀ q : Nat, s.heap.size ≤ q → A q := fun q h => by rw [← hAe]; exact Or.inr h
  have hS : va_S A s.heap s.heap [] := va_S.rf
  have hl := lv_entry ([.ref mo, .int u, .int w]) (n := 7) (Nat.le_of_ble_eq_true rfl)
  rw [lg_entry_eq]
  generalize (lg_sl ([.ref mo, .int u, .int w]) ++ List.replicate (7 - (lg_sl ([.ref mo, .int u, .int w])).length) Slot.unset).toArray = ls at hl ⊢
  have hl : lv_has ls 7 [(0, .ref mo), (1, .int u), (2, .int w)] := hl
  refine lv_iconst (v := 0) hx hb dX2_dishTold_0 (by decide) ?_
  refine lv_istore_n (lv' := [(3, .int 0), (0, .ref mo), (1, .int u), (2, .int w)]) hx hb dX2_dishTold_1 rfl hl (by decide) rfl (fun ls hl => ?_)
  refine lv_iconst (v := (-1)) hx hb dX2_dishTold_2 (by decide) ?_
  refine lv_istore (lv' := [(4, .int (-1)), (3, .int 0), (0, .ref mo), (1, .int u), (2, .int w)]) hx hb dX2_dishTold_3 hl (by decide) rfl (fun ls hl => ?_)
  refine lv_iconst (v := 0) hx hb dX2_dishTold_5 (by decide) ?_
  refine lv_istore (lv' := [(5, .int 0), (4, .int (-1)), (3, .int 0), (0, .ref mo), (1, .int u), (2, .int w)]) hx hb dX2_dishTold_6 hl (by decide) rfl (fun ls hl => ?_)
  refine lv_iconst (v := 0) hx hb dX2_dishTold_8 (by decide) ?_
  refine lv_istore (lv' := [(6, .int 0), (5, .int 0), (4, .int (-1)), (3, .int 0), (0, .ref mo), (1, .int u), (2, .int w)]) hx hb dX2_dishTold_9 hl (by decide) rfl (fun ls hl => ?_)
  have loop1 : ∀ (k1 i1 : Nat) (acc : Int32) (acd : Int32), i1 + k1 = n → acc = manyM M u i1 → acd = lastM M u i1 → ∀ (H : Heap) (locs : List Loc), va_P D vwCl (cSM q b cy M n dr an fi ba mo th nd fl q tq) H → va_D A (cSM q b cy M n dr an fi ba mo th nd fl q tq) → va_S A s.heap H locs → ∀ ls : Array Slot, lv_has ls 7 [(0, .ref mo), (1, .int u), (2, .int w), (3, .int acc), (4, .int acd), (5, .int 0), (6, .int (nI i1))] → W p l e (headSpec wsX2_dishTold { frames := 3, cells := 1, slots := 5, locals := 67 }).room s m ([.ref mo, .int u, .int w] : List Value).toArray below meth c H locs 0 0 (MQ below (va_Qi (fun (r : Int32) (_ : Unit) => r = dishTM M n u w) (fun _ t => va_P D vwCl (cSM q b cy M n dr an fi ba mo th nd fl q tq) t.heap) A) ([.ref mo, .int u, .int w] : List Value).toArray s 1 5 A) (F0 m 11 ls []) := by
    intro k1
    induction k1 with
    | zero =>
      intro i1 acc acd hik1 ha1 ha2 H locs hP hD hS ls hl
      have hin1 : i1 = n := by omega
      refine lv_iload hx hb dX2_dishTold_11 (lv_at hl 6 rfl) ?_
      refine lv_aload_n hx hb dX2_dishTold_13 rfl (lv_at hl 0 rfl) ?_
      refine va_get (D := D) (ci := 2) (v := .ref q) (C := RX2) (T := TX2) (N := 5) hx hb hts inX2_dishTold_2 hown hK.1 hP 10 rfl rfl 3 (by decide) (hts (.fieldLink RX2 12 "ChalkSlateModel" "s" "LChalkSlateModel$State;") (by decide +kernel)) (fun _ h9 => h9) rfl dX2_dishTold_14 ?_
      refine va_getN (D := D) (ci := 1) (v := .int (nI n)) (C := RX1) (T := TX1) (N := 15) hx hb hts inX2_dishTold_1 hown hK.1 hP 0 rfl rfl 0 (by decide) (va_Nw.use rfl hK.2.1) (fun _ h9 => h9) rfl dX2_dishTold_17 ?_
      refine lv_icmp_ge (tgt := 53) hx hb dX2_dishTold_20 (by decide) (fun c1 => ?_) (fun c1 => absurd (nI_le (by omega) (by omega)) c1)
      refine lv_iconst (v := 0) hx hb dX2_dishTold_53 (by decide) ?_
      refine lv_istore (lv' := [(6, .int 0), (0, .ref mo), (1, .int u), (2, .int w), (3, .int acc), (4, .int acd), (5, .int 0)]) hx hb dX2_dishTold_54 hl (by decide) rfl (fun ls hl => ?_)
      have loop2 : ∀ (k2 i2 : Nat) (ace : Int32), i2 + k2 = 8 → ace = holdsM M n u i2 → ∀ (H : Heap) (locs : List Loc), va_P D vwCl (cSM q b cy M n dr an fi ba mo th nd fl q tq) H → va_D A (cSM q b cy M n dr an fi ba mo th nd fl q tq) → va_S A s.heap H locs → ∀ ls : Array Slot, lv_has ls 7 [(0, .ref mo), (1, .int u), (2, .int w), (3, .int acc), (4, .int acd), (5, .int ace), (6, .int (nI i2))] → W p l e (headSpec wsX2_dishTold { frames := 3, cells := 1, slots := 5, locals := 67 }).room s m ([.ref mo, .int u, .int w] : List Value).toArray below meth c H locs 0 0 (MQ below (va_Qi (fun (r : Int32) (_ : Unit) => r = dishTM M n u w) (fun _ t => va_P D vwCl (cSM q b cy M n dr an fi ba mo th nd fl q tq) t.heap) A) ([.ref mo, .int u, .int w] : List Value).toArray s 1 5 A) (F0 m 56 ls []) := by
        intro k2
        induction k2 with
        | zero =>
          intro i2 ace hik2 ha3 H locs hP hD hS ls hl
          have hin2 : i2 = 8 := by omega
          refine lv_iload hx hb dX2_dishTold_56 (lv_at hl 6 rfl) ?_
          refine lv_bipush (v := 8) hx hb dX2_dishTold_58 (by decide) ?_
          refine lv_icmp_ge (tgt := 92) hx hb dX2_dishTold_60 (by decide) (fun c2 => ?_) (fun c2 => absurd (nI_le (a := 8) (by omega) (by omega)) c2)
          refine lv_iconst (v := 5) hx hb dX2_dishTold_92 (by decide) ?_
          refine va_newa (atype := .int) (N' := 5) (a0 := (5, .inl (fun _ => 0))) hx hb (hts (.arrayClass .int) (by decide +kernel)) rfl hK.1 hP hD hS hA (fun _ => rfl) (by decide) (by decide) (by decide) (Nat.le_of_ble_eq_true rfl) (Nat.le_of_ble_eq_true rfl) dX2_dishTold_93 (fun q9 cA H hK9 hP hD hS => ?_)
          have hP : va_P D vwCl (cSM q b cy M n dr an fi ba mo th nd fl q tq ++ [(q9, .inl (cA, 5, .inl (fun _ => 0)))]) H := hP
          have hD : va_D A (cSM q b cy M n dr an fi ba mo th nd fl q tq ++ [(q9, .inl (cA, 5, .inl (fun _ => 0)))]) := hD
          refine lv_dup hx hb dX2_dishTold_95 rfl ?_
          refine lv_iconst (v := 0) hx hb dX2_dishTold_96 (by decide) ?_
          refine lv_aload_n hx hb dX2_dishTold_97 rfl (lv_at hl 0 rfl) ?_
          refine va_get (D := D) (ci := 2) (v := .ref q) (C := RX2) (T := TX2) (N := 5) hx hb hts inX2_dishTold_2 hown hK.1 hP 10 rfl rfl 3 (by decide) (hts (.fieldLink RX2 12 "ChalkSlateModel" "s" "LChalkSlateModel$State;") (by decide +kernel)) (fun _ h9 => h9) rfl dX2_dishTold_98 ?_
          refine lv_iload_n hx hb dX2_dishTold_101 rfl (lv_at hl 1 rfl) ?_
          refine rd_V (q := (RX1, TX1, 15)) (ci := 1) (q0 := 0) (As := [.int u]) (rest := [.int 0, .ref q9, .ref q9]) ⟨hx, hb, hml, hown, hts⟩ (mX1_is l D cy q b M n dr an fi ba mo th nd fl q tq u (by omega) (by omega) (by omega) ) (cwV 1 hts gX2_dishTold_X1_is rfl rfl rfl (by decide +kernel) ⟨Nat.le_of_ble_eq_true rfl, Nat.le_of_ble_eq_true rfl⟩) (hP.sub (ws' := cSM q b cy M n dr an fi ba mo th nd fl q tq) [0, 1, 2, 3, 4, 5, 6, 7, 8, 9, 10] rfl) hK rfl rfl rfl hl.1 rfl (Nat.le_of_ble_eq_true rfl) dX2_dishTold_102 (Nat.le_of_ble_eq_true rfl) (Nat.le_of_ble_eq_true rfl) ?_
          refine va_iast hx hb hK9 hP hD hS 11 1 rfl rfl (vp_in_nI (n := 0) (by omega) (by omega)) dX2_dishTold_105 (fun H locs hP hD hS => ?_)
          have hP : va_P D vwCl (cSM q b cy M n dr an fi ba mo th nd fl q tq ++ [(q9, .inl (cA, 5, .inl (upd (fun _ => 0) 0 (isM M u n))))]) H := hP
          have hD : va_D A (cSM q b cy M n dr an fi ba mo th nd fl q tq ++ [(q9, .inl (cA, 5, .inl (upd (fun _ => 0) 0 (isM M u n))))]) := hD
          refine lv_dup hx hb dX2_dishTold_106 rfl ?_
          refine lv_iconst (v := 1) hx hb dX2_dishTold_107 (by decide) ?_
          refine lv_iload_n hx hb dX2_dishTold_108 rfl (lv_at hl 3 rfl) ?_
          refine va_iast hx hb hK9 hP hD hS 11 1 rfl rfl (vp_in_nI (n := 1) (by omega) (by omega)) dX2_dishTold_109 (fun H locs hP hD hS => ?_)
          have hP : va_P D vwCl (cSM q b cy M n dr an fi ba mo th nd fl q tq ++ [(q9, .inl (cA, 5, .inl (upd (upd (fun _ => 0) 0 (isM M u n)) 1 acc)))]) H := hP
          have hD : va_D A (cSM q b cy M n dr an fi ba mo th nd fl q tq ++ [(q9, .inl (cA, 5, .inl (upd (upd (fun _ => 0) 0 (isM M u n)) 1 acc)))]) := hD
          refine lv_dup hx hb dX2_dishTold_110 rfl ?_
          refine lv_iconst (v := 2) hx hb dX2_dishTold_111 (by decide) ?_
          refine lv_aload_n hx hb dX2_dishTold_112 rfl (lv_at hl 0 rfl) ?_
          refine va_get (D := D) (ci := 2) (v := .ref q) (C := RX2) (T := TX2) (N := 5) hx hb hts inX2_dishTold_2 hown hK.1 hP 10 rfl rfl 3 (by decide) (hts (.fieldLink RX2 12 "ChalkSlateModel" "s" "LChalkSlateModel$State;") (by decide +kernel)) (fun _ h9 => h9) rfl dX2_dishTold_113 ?_
          refine lv_iload_n hx hb dX2_dishTold_116 rfl (lv_at hl 1 rfl) ?_
          refine rd_V (q := (RX1, TX1, 15)) (ci := 1) (q0 := 0) (As := [.int u]) (rest := [.int 2, .ref q9, .ref q9]) ⟨hx, hb, hml, hown, hts⟩ (mX1_kept l D cy q b M n dr an fi ba mo th nd fl q tq u (by omega) (by omega) (by omega) ) (cwV 1 hts gX2_dishTold_X1_kept rfl rfl rfl (by decide +kernel) ⟨Nat.le_of_ble_eq_true rfl, Nat.le_of_ble_eq_true rfl⟩) (hP.sub (ws' := cSM q b cy M n dr an fi ba mo th nd fl q tq) [0, 1, 2, 3, 4, 5, 6, 7, 8, 9, 10] rfl) hK rfl rfl rfl hl.1 rfl (Nat.le_of_ble_eq_true rfl) dX2_dishTold_117 (Nat.le_of_ble_eq_true rfl) (Nat.le_of_ble_eq_true rfl) ?_
          refine va_iast hx hb hK9 hP hD hS 11 1 rfl rfl (vp_in_nI (n := 2) (by omega) (by omega)) dX2_dishTold_120 (fun H locs hP hD hS => ?_)
          have hP : va_P D vwCl (cSM q b cy M n dr an fi ba mo th nd fl q tq ++ [(q9, .inl (cA, 5, .inl (upd (upd (upd (fun _ => 0) 0 (isM M u n)) 1 acc) 2 (keptM M n u n))))]) H := hP
          have hD : va_D A (cSM q b cy M n dr an fi ba mo th nd fl q tq ++ [(q9, .inl (cA, 5, .inl (upd (upd (upd (fun _ => 0) 0 (isM M u n)) 1 acc) 2 (keptM M n u n))))]) := hD
          refine lv_dup hx hb dX2_dishTold_121 rfl ?_
          refine lv_iconst (v := 3) hx hb dX2_dishTold_122 (by decide) ?_
          refine lv_iload hx hb dX2_dishTold_123 (lv_at hl 5 rfl) ?_
          refine va_iast hx hb hK9 hP hD hS 11 1 rfl rfl (vp_in_nI (n := 3) (by omega) (by omega)) dX2_dishTold_125 (fun H locs hP hD hS => ?_)
          have hP : va_P D vwCl (cSM q b cy M n dr an fi ba mo th nd fl q tq ++ [(q9, .inl (cA, 5, .inl (upd (upd (upd (upd (fun _ => 0) 0 (isM M u n)) 1 acc) 2 (keptM M n u n)) 3 ace)))]) H := hP
          have hD : va_D A (cSM q b cy M n dr an fi ba mo th nd fl q tq ++ [(q9, .inl (cA, 5, .inl (upd (upd (upd (upd (fun _ => 0) 0 (isM M u n)) 1 acc) 2 (keptM M n u n)) 3 ace)))]) := hD
          refine lv_dup hx hb dX2_dishTold_126 rfl ?_
          refine lv_iconst (v := 4) hx hb dX2_dishTold_127 (by decide) ?_
          refine lv_iload hx hb dX2_dishTold_128 (lv_at hl 4 rfl) ?_
          refine va_iast hx hb hK9 hP hD hS 11 1 rfl rfl (vp_in_nI (n := 4) (by omega) (by omega)) dX2_dishTold_130 (fun H locs hP hD hS => ?_)
          have hP : va_P D vwCl (cSM q b cy M n dr an fi ba mo th nd fl q tq ++ [(q9, .inl (cA, 5, .inl (upd (upd (upd (upd (upd (fun _ => 0) 0 (isM M u n)) 1 acc) 2 (keptM M n u n)) 3 ace) 4 acd)))]) H := hP
          have hD : va_D A (cSM q b cy M n dr an fi ba mo th nd fl q tq ++ [(q9, .inl (cA, 5, .inl (upd (upd (upd (upd (upd (fun _ => 0) 0 (isM M u n)) 1 acc) 2 (keptM M n u n)) 3 ace) 4 acd)))]) := hD
          refine lv_astore (lv' := [(6, .ref q9), (0, .ref mo), (1, .int u), (2, .int w), (3, .int acc), (4, .int acd), (5, .int ace)]) hx hb dX2_dishTold_131 hl (by decide) rfl (fun ls hl => ?_)
          refine lv_aload hx hb dX2_dishTold_133 (lv_at hl 0 rfl) ?_
          refine lv_iload_n hx hb dX2_dishTold_135 rfl (lv_at hl 3 rfl) ?_
          refine va_iald hx hb hK9 hP 11 1 rfl rfl hw dX2_dishTold_136 ?_
          have hP : va_P D vwCl (cSM q b cy M n dr an fi ba mo th nd fl q tq) H := hP.sub (ws' := cSM q b cy M n dr an fi ba mo th nd fl q tq) [0, 1, 2, 3, 4, 5, 6, 7, 8, 9, 10] rfl
          exact W.iret (v := (upd (upd (upd (upd (upd (fun _ => 0) 0 (isM M u n)) 1 acc) 2 (keptM M n u n)) 3 ace) 4 acd) w.toNatClampNeg) hx hb hr (fun t ht hW => ⟨⟨((upd (upd (upd (upd (upd (fun _ => 0) 0 (isM M u n)) 1 acc) 2 (keptM M n u n)) 3 ace) 4 acd) w.toNatClampNeg), (), rfl, by rw [dishTM, ha1, ha2, ha3, hin1, hin2], by show va_P D vwCl _ t.heap; rw [ht]; exact hP⟩, hS.F ht⟩) hS.2.2 dX2_dishTold_137
        | succ k2 ih2 =>
          intro i2 ace hik2 ha3 H locs hP hD hS ls hl
          refine lv_iload hx hb dX2_dishTold_56 (lv_at hl 6 rfl) ?_
          refine lv_bipush (v := 8) hx hb dX2_dishTold_58 (by decide) ?_
          refine lv_icmp_ge (tgt := 92) hx hb dX2_dishTold_60 (by decide) (fun c3 => absurd c3 (nI_ge (b := 8) (by omega) (by omega))) (fun c3 => ?_)
          refine lv_iload hx hb dX2_dishTold_63 (lv_at hl 5 rfl) ?_
          refine lv_aload_n hx hb dX2_dishTold_65 rfl (lv_at hl 0 rfl) ?_
          refine va_get (D := D) (ci := 2) (v := .ref q) (C := RX2) (T := TX2) (N := 5) hx hb hts inX2_dishTold_2 hown hK.1 hP 10 rfl rfl 3 (by decide) (hts (.fieldLink RX2 12 "ChalkSlateModel" "s" "LChalkSlateModel$State;") (by decide +kernel)) (fun _ h9 => h9) rfl dX2_dishTold_66 ?_
          refine lv_iload hx hb dX2_dishTold_69 (lv_at hl 6 rfl) ?_
          refine lv_iload_n hx hb dX2_dishTold_71 rfl (lv_at hl 1 rfl) ?_
          refine rd_V (q := (RX1, TX1, 15)) (ci := 1) (q0 := 0) (As := [.int (nI i2), .int u]) (rest := [.int ace]) ⟨hx, hb, hml, hown, hts⟩ (mX1_isHeld l D cy q b M n dr an fi ba mo th nd fl q tq (nI i2) u (by omega) (by omega) (by omega) ) (cwV 2 hts gX2_dishTold_X1_isHeld rfl rfl rfl (by decide +kernel) ⟨Nat.le_of_ble_eq_true rfl, Nat.le_of_ble_eq_true rfl⟩) hP hK rfl rfl rfl hl.1 rfl (Nat.le_of_ble_eq_true rfl) dX2_dishTold_72 (Nat.le_of_ble_eq_true rfl) (Nat.le_of_ble_eq_true rfl) ?_
          refine lv_if_eq (tgt := 82) hx hb dX2_dishTold_75 (by decide) (fun c4 => ?_) (fun c4 => ?_)
          · refine lv_iconst (v := 0) hx hb dX2_dishTold_82 (by decide) ?_
            refine lv_iadd hx hb dX2_dishTold_83 ?_
            refine lv_istore (lv' := [(5, .int (ace + 0)), (0, .ref mo), (1, .int u), (2, .int w), (3, .int acc), (4, .int acd), (6, .int (nI i2))]) hx hb dX2_dishTold_84 hl (by decide) rfl (fun ls hl => ?_)
            refine lv_iinc (v := nI (i2 + 1)) (lv' := [(6, .int (nI (i2 + 1))), (5, .int (ace + 0)), (0, .ref mo), (1, .int u), (2, .int w), (3, .int acc), (4, .int acd)]) hx hb dX2_dishTold_86 hl (k := 6) rfl ((nI_succ i2).symm) (by decide) rfl (fun ls hl => ?_)
            refine lv_goto (tgt := 56) hx hb dX2_dishTold_89 (by decide) ?_
            exact ih2 (i2 + 1) (ace + 0) (by omega) (by rw [holdsM, if_pos c4, ← ha3]) H locs hP hD hS ls (lv_sub hl [2, 3, 4, 5, 6, 1, 0] rfl)
          · refine lv_iconst (v := 1) hx hb dX2_dishTold_78 (by decide) ?_
            refine lv_goto (tgt := 83) hx hb dX2_dishTold_79 (by decide) ?_
            refine lv_iadd hx hb dX2_dishTold_83 ?_
            refine lv_istore (lv' := [(5, .int (ace + 1)), (0, .ref mo), (1, .int u), (2, .int w), (3, .int acc), (4, .int acd), (6, .int (nI i2))]) hx hb dX2_dishTold_84 hl (by decide) rfl (fun ls hl => ?_)
            refine lv_iinc (v := nI (i2 + 1)) (lv' := [(6, .int (nI (i2 + 1))), (5, .int (ace + 1)), (0, .ref mo), (1, .int u), (2, .int w), (3, .int acc), (4, .int acd)]) hx hb dX2_dishTold_86 hl (k := 6) rfl ((nI_succ i2).symm) (by decide) rfl (fun ls hl => ?_)
            refine lv_goto (tgt := 56) hx hb dX2_dishTold_89 (by decide) ?_
            exact ih2 (i2 + 1) (ace + 1) (by omega) (by rw [holdsM, if_neg c4, ← ha3]) H locs hP hD hS ls (lv_sub hl [2, 3, 4, 5, 6, 1, 0] rfl)
      exact loop2 8 0 0 (Nat.zero_add _) (rfl) H locs hP hD hS ls (lv_sub hl [1, 2, 3, 4, 5, 6, 0] rfl)
    | succ k1 ih1 =>
      intro i1 acc acd hik1 ha1 ha2 H locs hP hD hS ls hl
      refine lv_iload hx hb dX2_dishTold_11 (lv_at hl 6 rfl) ?_
      refine lv_aload_n hx hb dX2_dishTold_13 rfl (lv_at hl 0 rfl) ?_
      refine va_get (D := D) (ci := 2) (v := .ref q) (C := RX2) (T := TX2) (N := 5) hx hb hts inX2_dishTold_2 hown hK.1 hP 10 rfl rfl 3 (by decide) (hts (.fieldLink RX2 12 "ChalkSlateModel" "s" "LChalkSlateModel$State;") (by decide +kernel)) (fun _ h9 => h9) rfl dX2_dishTold_14 ?_
      refine va_getN (D := D) (ci := 1) (v := .int (nI n)) (C := RX1) (T := TX1) (N := 15) hx hb hts inX2_dishTold_1 hown hK.1 hP 0 rfl rfl 0 (by decide) (va_Nw.use rfl hK.2.1) (fun _ h9 => h9) rfl dX2_dishTold_17 ?_
      refine lv_icmp_ge (tgt := 53) hx hb dX2_dishTold_20 (by decide) (fun c5 => absurd c5 (nI_ge (by omega) (by omega))) (fun c5 => ?_)
      refine lv_aload_n hx hb dX2_dishTold_23 rfl (lv_at hl 0 rfl) ?_
      refine va_get (D := D) (ci := 2) (v := .ref q) (C := RX2) (T := TX2) (N := 5) hx hb hts inX2_dishTold_2 hown hK.1 hP 10 rfl rfl 3 (by decide) (hts (.fieldLink RX2 12 "ChalkSlateModel" "s" "LChalkSlateModel$State;") (by decide +kernel)) (fun _ h9 => h9) rfl dX2_dishTold_24 ?_
      refine va_getN (D := D) (ci := 1) (v := .ref (b 4)) (C := RX1) (T := TX1) (N := 15) hx hb hts inX2_dishTold_1 hown hK.1 hP 0 rfl rfl 5 (by decide) (va_Nw.use rfl hK.2.2.2.2.2.2.1) (fun _ h9 => h9) rfl dX2_dishTold_27 ?_
      refine lv_iload hx hb dX2_dishTold_30 (lv_at hl 6 rfl) ?_
      refine va_iald hx hb hK.1 hP 4 0 rfl rfl (vp_in_nI (by omega) (by omega)) dX2_dishTold_32 ?_
      rw [nI_clamp (n := i1) (by omega)]
      refine lv_iload_n hx hb dX2_dishTold_33 rfl (lv_at hl 1 rfl) ?_
      refine lv_icmp_eq (tgt := 40) hx hb dX2_dishTold_34 (by decide) (fun c6 => ?_) (fun c6 => ?_)
      · refine lv_iinc (v := acc + 1) (lv' := [(3, .int (acc + 1)), (0, .ref mo), (1, .int u), (2, .int w), (4, .int acd), (5, .int 0), (6, .int (nI i1))]) hx hb dX2_dishTold_40 hl (k := 3) rfl (rfl) (by decide) rfl (fun ls hl => ?_)
        refine lv_iload hx hb dX2_dishTold_43 (lv_at hl 6 rfl) ?_
        refine lv_istore (lv' := [(4, .int (nI i1)), (3, .int (acc + 1)), (0, .ref mo), (1, .int u), (2, .int w), (5, .int 0), (6, .int (nI i1))]) hx hb dX2_dishTold_45 hl (by decide) rfl (fun ls hl => ?_)
        refine lv_iinc (v := nI (i1 + 1)) (lv' := [(6, .int (nI (i1 + 1))), (4, .int (nI i1)), (3, .int (acc + 1)), (0, .ref mo), (1, .int u), (2, .int w), (5, .int 0)]) hx hb dX2_dishTold_47 hl (k := 6) rfl ((nI_succ i1).symm) (by decide) rfl (fun ls hl => ?_)
        refine lv_goto (tgt := 11) hx hb dX2_dishTold_50 (by decide) ?_
        exact ih1 (i1 + 1) (acc + 1) (nI i1) (by omega) (by rw [manyM, if_pos c6, ← ha1]) (by rw [lastM, if_pos c6]) H locs hP hD hS ls (lv_sub hl [3, 4, 5, 2, 1, 6, 0] rfl)
      · refine lv_goto (tgt := 47) hx hb dX2_dishTold_37 (by decide) ?_
        refine lv_iinc (v := nI (i1 + 1)) (lv' := [(6, .int (nI (i1 + 1))), (0, .ref mo), (1, .int u), (2, .int w), (3, .int acc), (4, .int acd), (5, .int 0)]) hx hb dX2_dishTold_47 hl (k := 6) rfl ((nI_succ i1).symm) (by decide) rfl (fun ls hl => ?_)
        refine lv_goto (tgt := 11) hx hb dX2_dishTold_50 (by decide) ?_
        exact ih1 (i1 + 1) acc acd (by omega) (by rw [manyM, if_neg c6, ← ha1]) (by rw [lastM, if_neg c6, ← ha2]) H locs hP hD hS ls (lv_sub hl [1, 2, 3, 4, 5, 6, 0] rfl)
  exact loop1 n 0 0 (-1) (Nat.zero_add _) (rfl) (rfl) s.heap [] hP hD hS ls (lv_sub hl [4, 5, 6, 3, 2, 1, 0] rfl)

set_option maxRecDepth 100000 in
theorem inX2_counted_2 : ∀ w ∈ wsX20, w ∈ wsX2_counted := by decide +kernel

set_option maxRecDepth 100000 in
theorem inX2_counted_1 : ∀ w ∈ wsX10, w ∈ wsX2_counted := by decide +kernel

set_option maxHeartbeats 4000000 in
set_option maxRecDepth 100000 in
theorem mX2_counted (l : Launch) (D : va_G) (cy : ClassId) (q : Nat) (b : Nat → Nat) (M : Nat → Nat → Int32) (n dr : Nat) (an fi ba : Int32) (mo : Nat) (th : Int32) (nd : Nat) (fl : Int32) (tq : Nat) (w : Int32) (hnd : nd < 1000000) (hn : n ≤ 120) (hdr : dr ≤ 120) : RdI l yX2_counted wsX2_counted 4 89 [.ref mo, .int w] D cy (cSM q b cy M n dr an fi ba mo th nd fl q tq) (countedM M nd n dr fl w) := by
  refine Met.ofW (cc := cX2_counted) (maxL := 2) (ret := (some .int)) (by decide) rfl ?_
  intro p e s m args below meth c s₁ B hml hv
  obtain ⟨rfl, hP, hK⟩ := hv
  have hx := B.exec
  have hb := B.bytes
  have hr := B.returns
  have hts := atoms_spec (ws := wsX2_counted) B.pre
  have hown : s.vm.findClass RX2 = some m.cls := findClass_of_methodNamed B.named
  have hlocks := B.notSynchronized
  have hl := lv_entry ([.ref mo, .int w]) (n := 2) (Nat.le_of_ble_eq_true rfl)
  rw [lg_entry_eq]
  generalize (lg_sl ([.ref mo, .int w]) ++ List.replicate (2 - (lg_sl ([.ref mo, .int w])).length) Slot.unset).toArray = ls at hl ⊢
  have hl : lv_has ls 2 [(0, .ref mo), (1, .int w)] := hl
  refine lv_iload_n hx hb dX2_counted_0 rfl (lv_at hl 1 rfl) ?_
  by_cases hsw : w.toInt < 0 ∨ 9 < w.toInt
  · refine lv_tableOut (tgt := 126) hx hb dX2_counted_1 hsw (by decide) ?_
    refine lv_aload_n hx hb dX2_counted_126 rfl (lv_at hl 0 rfl) ?_
    refine va_get (D := D) (ci := 2) (v := .int fl) (C := RX2) (T := TX2) (N := 5) hx hb hts inX2_counted_2 hown hK.1 hP 10 rfl rfl 2 (by decide) (hts (.fieldLink RX2 85 "ChalkSlateModel" "falls" "I") (by decide +kernel)) (fun _ h9 => h9) rfl dX2_counted_127 ?_
    exact W.iret (v := fl) hx hb hr (fun t ht hW => ⟨fl, rfl, by rw [countedM, if_neg (sw_ne hsw (by decide)), if_neg (sw_ne hsw (by decide)), if_neg (sw_ne hsw (by decide)), if_neg (sw_ne hsw (by decide)), if_neg (sw_ne hsw (by decide)), if_neg (sw_ne hsw (by decide)), if_neg (sw_ne hsw (by decide)), if_neg (sw_ne hsw (by decide)), if_neg (sw_ne hsw (by decide)), if_neg (sw_ne hsw (by decide))], ht⟩) (fun q hq => absurd hq List.not_mem_nil) dX2_counted_130
  · obtain ⟨hsw1, hsw2⟩ := not_or.mp hsw
    have hsw3 : w = 0 ∨ w = 1 ∨ w = 2 ∨ w = 3 ∨ w = 4 ∨ w = 5 ∨ w = 6 ∨ w = 7 ∨ w = 8 ∨ w = 9 := sw_9 hsw1 hsw2
    rcases hsw3 with hsw3 | hsw3 | hsw3 | hsw3 | hsw3 | hsw3 | hsw3 | hsw3 | hsw3 | hsw3
    · refine lv_tableIn (off := 55) (tgt := 56) hx hb dX2_counted_1 hsw1 hsw2 (by rw [hsw3]; rfl) (by decide) ?_
      refine lv_aload_n hx hb dX2_counted_56 rfl (lv_at hl 0 rfl) ?_
      refine va_get (D := D) (ci := 2) (v := .ref q) (C := RX2) (T := TX2) (N := 5) hx hb hts inX2_counted_2 hown hK.1 hP 10 rfl rfl 3 (by decide) (hts (.fieldLink RX2 12 "ChalkSlateModel" "s" "LChalkSlateModel$State;") (by decide +kernel)) (fun _ h9 => h9) rfl dX2_counted_57 ?_
      refine va_getN (D := D) (ci := 1) (v := .int (nI n)) (C := RX1) (T := TX1) (N := 15) hx hb hts inX2_counted_1 hown hK.1 hP 0 rfl rfl 0 (by decide) (va_Nw.use rfl hK.2.1) (fun _ h9 => h9) rfl dX2_counted_60 ?_
      exact W.iret (v := nI n) hx hb hr (fun t ht hW => ⟨(nI n), rfl, by rw [countedM, hsw3]; rfl, ht⟩) (fun q hq => absurd hq List.not_mem_nil) dX2_counted_63
    · refine lv_tableIn (off := 63) (tgt := 64) hx hb dX2_counted_1 hsw1 hsw2 (by rw [hsw3]; rfl) (by decide) ?_
      refine lv_aload_n hx hb dX2_counted_64 rfl (lv_at hl 0 rfl) ?_
      refine va_get (D := D) (ci := 2) (v := .ref q) (C := RX2) (T := TX2) (N := 5) hx hb hts inX2_counted_2 hown hK.1 hP 10 rfl rfl 3 (by decide) (hts (.fieldLink RX2 12 "ChalkSlateModel" "s" "LChalkSlateModel$State;") (by decide +kernel)) (fun _ h9 => h9) rfl dX2_counted_65 ?_
      refine va_getN (D := D) (ci := 1) (v := .int (nI dr)) (C := RX1) (T := TX1) (N := 15) hx hb hts inX2_counted_1 hown hK.1 hP 0 rfl rfl 1 (by decide) (va_Nw.use rfl hK.2.2.1) (fun _ h9 => h9) rfl dX2_counted_68 ?_
      exact W.iret (v := nI dr) hx hb hr (fun t ht hW => ⟨(nI dr), rfl, by rw [countedM, hsw3]; rfl, ht⟩) (fun q hq => absurd hq List.not_mem_nil) dX2_counted_71
    · refine lv_tableIn (off := 71) (tgt := 72) hx hb dX2_counted_1 hsw1 hsw2 (by rw [hsw3]; rfl) (by decide) ?_
      refine lv_aload_n hx hb dX2_counted_72 rfl (lv_at hl 0 rfl) ?_
      refine va_get (D := D) (ci := 2) (v := .int (nI nd)) (C := RX2) (T := TX2) (N := 5) hx hb hts inX2_counted_2 hown hK.1 hP 10 rfl rfl 1 (by decide) (hts (.fieldLink RX2 29 "ChalkSlateModel" "dishes" "I") (by decide +kernel)) (fun _ h9 => h9) rfl dX2_counted_73 ?_
      exact W.iret (v := nI nd) hx hb hr (fun t ht hW => ⟨(nI nd), rfl, by rw [countedM, hsw3]; rfl, ht⟩) (fun q hq => absurd hq List.not_mem_nil) dX2_counted_76
    · refine lv_tableIn (off := 76) (tgt := 77) hx hb dX2_counted_1 hsw1 hsw2 (by rw [hsw3]; rfl) (by decide) ?_
      refine lv_aload_n hx hb dX2_counted_77 rfl (lv_at hl 0 rfl) ?_
      refine va_get (D := D) (ci := 2) (v := .ref q) (C := RX2) (T := TX2) (N := 5) hx hb hts inX2_counted_2 hown hK.1 hP 10 rfl rfl 3 (by decide) (hts (.fieldLink RX2 12 "ChalkSlateModel" "s" "LChalkSlateModel$State;") (by decide +kernel)) (fun _ h9 => h9) rfl dX2_counted_78 ?_
      refine lv_iload_n hx hb dX2_counted_81 rfl (lv_at hl 1 rfl) ?_
      refine lv_iconst (v := 3) hx hb dX2_counted_82 (by decide) ?_
      refine lv_isub hx hb dX2_counted_83 ?_
      refine rd_V (q := (RX1, TX1, 15)) (ci := 1) (q0 := 0) (As := [.int (w - 3)]) (rest := []) ⟨hx, hb, hml, hown, hts⟩ (mX1_are l D cy q b M n dr an fi ba mo th nd fl q tq (w - 3) (by omega) (by omega) (by omega) ) (cwV 1 hts gX2_counted_X1_are rfl rfl rfl (by decide +kernel) ⟨Nat.le_of_ble_eq_true rfl, Nat.le_of_ble_eq_true rfl⟩) hP hK rfl rfl rfl hl.1 rfl (Nat.le_of_ble_eq_true rfl) dX2_counted_84 (Nat.zero_le _) (Nat.zero_le _) ?_
      exact W.iret (v := areM M n (w - 3) nd) hx hb hr (fun t ht hW => ⟨(areM M n (w - 3) nd), rfl, by rw [countedM, hsw3]; rfl, ht⟩) (fun q hq => absurd hq List.not_mem_nil) dX2_counted_87
    · refine lv_tableIn (off := 76) (tgt := 77) hx hb dX2_counted_1 hsw1 hsw2 (by rw [hsw3]; rfl) (by decide) ?_
      refine lv_aload_n hx hb dX2_counted_77 rfl (lv_at hl 0 rfl) ?_
      refine va_get (D := D) (ci := 2) (v := .ref q) (C := RX2) (T := TX2) (N := 5) hx hb hts inX2_counted_2 hown hK.1 hP 10 rfl rfl 3 (by decide) (hts (.fieldLink RX2 12 "ChalkSlateModel" "s" "LChalkSlateModel$State;") (by decide +kernel)) (fun _ h9 => h9) rfl dX2_counted_78 ?_
      refine lv_iload_n hx hb dX2_counted_81 rfl (lv_at hl 1 rfl) ?_
      refine lv_iconst (v := 3) hx hb dX2_counted_82 (by decide) ?_
      refine lv_isub hx hb dX2_counted_83 ?_
      refine rd_V (q := (RX1, TX1, 15)) (ci := 1) (q0 := 0) (As := [.int (w - 3)]) (rest := []) ⟨hx, hb, hml, hown, hts⟩ (mX1_are l D cy q b M n dr an fi ba mo th nd fl q tq (w - 3) (by omega) (by omega) (by omega) ) (cwV 1 hts gX2_counted_X1_are rfl rfl rfl (by decide +kernel) ⟨Nat.le_of_ble_eq_true rfl, Nat.le_of_ble_eq_true rfl⟩) hP hK rfl rfl rfl hl.1 rfl (Nat.le_of_ble_eq_true rfl) dX2_counted_84 (Nat.zero_le _) (Nat.zero_le _) ?_
      exact W.iret (v := areM M n (w - 3) nd) hx hb hr (fun t ht hW => ⟨(areM M n (w - 3) nd), rfl, by rw [countedM, hsw3]; rfl, ht⟩) (fun q hq => absurd hq List.not_mem_nil) dX2_counted_87
    · refine lv_tableIn (off := 76) (tgt := 77) hx hb dX2_counted_1 hsw1 hsw2 (by rw [hsw3]; rfl) (by decide) ?_
      refine lv_aload_n hx hb dX2_counted_77 rfl (lv_at hl 0 rfl) ?_
      refine va_get (D := D) (ci := 2) (v := .ref q) (C := RX2) (T := TX2) (N := 5) hx hb hts inX2_counted_2 hown hK.1 hP 10 rfl rfl 3 (by decide) (hts (.fieldLink RX2 12 "ChalkSlateModel" "s" "LChalkSlateModel$State;") (by decide +kernel)) (fun _ h9 => h9) rfl dX2_counted_78 ?_
      refine lv_iload_n hx hb dX2_counted_81 rfl (lv_at hl 1 rfl) ?_
      refine lv_iconst (v := 3) hx hb dX2_counted_82 (by decide) ?_
      refine lv_isub hx hb dX2_counted_83 ?_
      refine rd_V (q := (RX1, TX1, 15)) (ci := 1) (q0 := 0) (As := [.int (w - 3)]) (rest := []) ⟨hx, hb, hml, hown, hts⟩ (mX1_are l D cy q b M n dr an fi ba mo th nd fl q tq (w - 3) (by omega) (by omega) (by omega) ) (cwV 1 hts gX2_counted_X1_are rfl rfl rfl (by decide +kernel) ⟨Nat.le_of_ble_eq_true rfl, Nat.le_of_ble_eq_true rfl⟩) hP hK rfl rfl rfl hl.1 rfl (Nat.le_of_ble_eq_true rfl) dX2_counted_84 (Nat.zero_le _) (Nat.zero_le _) ?_
      exact W.iret (v := areM M n (w - 3) nd) hx hb hr (fun t ht hW => ⟨(areM M n (w - 3) nd), rfl, by rw [countedM, hsw3]; rfl, ht⟩) (fun q hq => absurd hq List.not_mem_nil) dX2_counted_87
    · refine lv_tableIn (off := 76) (tgt := 77) hx hb dX2_counted_1 hsw1 hsw2 (by rw [hsw3]; rfl) (by decide) ?_
      refine lv_aload_n hx hb dX2_counted_77 rfl (lv_at hl 0 rfl) ?_
      refine va_get (D := D) (ci := 2) (v := .ref q) (C := RX2) (T := TX2) (N := 5) hx hb hts inX2_counted_2 hown hK.1 hP 10 rfl rfl 3 (by decide) (hts (.fieldLink RX2 12 "ChalkSlateModel" "s" "LChalkSlateModel$State;") (by decide +kernel)) (fun _ h9 => h9) rfl dX2_counted_78 ?_
      refine lv_iload_n hx hb dX2_counted_81 rfl (lv_at hl 1 rfl) ?_
      refine lv_iconst (v := 3) hx hb dX2_counted_82 (by decide) ?_
      refine lv_isub hx hb dX2_counted_83 ?_
      refine rd_V (q := (RX1, TX1, 15)) (ci := 1) (q0 := 0) (As := [.int (w - 3)]) (rest := []) ⟨hx, hb, hml, hown, hts⟩ (mX1_are l D cy q b M n dr an fi ba mo th nd fl q tq (w - 3) (by omega) (by omega) (by omega) ) (cwV 1 hts gX2_counted_X1_are rfl rfl rfl (by decide +kernel) ⟨Nat.le_of_ble_eq_true rfl, Nat.le_of_ble_eq_true rfl⟩) hP hK rfl rfl rfl hl.1 rfl (Nat.le_of_ble_eq_true rfl) dX2_counted_84 (Nat.zero_le _) (Nat.zero_le _) ?_
      exact W.iret (v := areM M n (w - 3) nd) hx hb hr (fun t ht hW => ⟨(areM M n (w - 3) nd), rfl, by rw [countedM, hsw3]; rfl, ht⟩) (fun q hq => absurd hq List.not_mem_nil) dX2_counted_87
    · refine lv_tableIn (off := 87) (tgt := 88) hx hb dX2_counted_1 hsw1 hsw2 (by rw [hsw3]; rfl) (by decide) ?_
      refine lv_aload_n hx hb dX2_counted_88 rfl (lv_at hl 0 rfl) ?_
      refine va_get (D := D) (ci := 2) (v := .ref q) (C := RX2) (T := TX2) (N := 5) hx hb hts inX2_counted_2 hown hK.1 hP 10 rfl rfl 3 (by decide) (hts (.fieldLink RX2 12 "ChalkSlateModel" "s" "LChalkSlateModel$State;") (by decide +kernel)) (fun _ h9 => h9) rfl dX2_counted_89 ?_
      refine rd_V (q := (RX1, TX1, 15)) (ci := 1) (q0 := 0) (As := []) (rest := []) ⟨hx, hb, hml, hown, hts⟩ (mX1_room l D cy q b M n dr an fi ba mo th nd fl q tq  (by omega) (by omega) (by omega) ) (cwV 0 hts gX2_counted_X1_room rfl rfl rfl (by decide +kernel) ⟨Nat.le_of_ble_eq_true rfl, Nat.le_of_ble_eq_true rfl⟩) hP hK rfl rfl rfl hl.1 rfl (Nat.le_of_ble_eq_true rfl) dX2_counted_92 (Nat.zero_le _) (Nat.zero_le _) ?_
      exact W.iret (v := roomM M n nd) hx hb hr (fun t ht hW => ⟨(roomM M n nd), rfl, by rw [countedM, hsw3]; rfl, ht⟩) (fun q hq => absurd hq List.not_mem_nil) dX2_counted_95
    · refine lv_tableIn (off := 95) (tgt := 96) hx hb dX2_counted_1 hsw1 hsw2 (by rw [hsw3]; rfl) (by decide) ?_
      refine lv_aload_n hx hb dX2_counted_96 rfl (lv_at hl 0 rfl) ?_
      refine va_get (D := D) (ci := 2) (v := .ref q) (C := RX2) (T := TX2) (N := 5) hx hb hts inX2_counted_2 hown hK.1 hP 10 rfl rfl 3 (by decide) (hts (.fieldLink RX2 12 "ChalkSlateModel" "s" "LChalkSlateModel$State;") (by decide +kernel)) (fun _ h9 => h9) rfl dX2_counted_97 ?_
      refine lv_aload_n hx hb dX2_counted_100 rfl (lv_at hl 0 rfl) ?_
      refine va_get (D := D) (ci := 2) (v := .ref q) (C := RX2) (T := TX2) (N := 5) hx hb hts inX2_counted_2 hown hK.1 hP 10 rfl rfl 3 (by decide) (hts (.fieldLink RX2 12 "ChalkSlateModel" "s" "LChalkSlateModel$State;") (by decide +kernel)) (fun _ h9 => h9) rfl dX2_counted_101 ?_
      refine va_getN (D := D) (ci := 1) (v := .ref (b 0)) (C := RX1) (T := TX1) (N := 15) hx hb hts inX2_counted_1 hown hK.1 hP 0 rfl rfl 2 (by decide) (va_Nw.use rfl hK.2.2.2.1) (fun _ h9 => h9) rfl dX2_counted_104 ?_
      refine rd_V (q := (RX1, TX1, 15)) (ci := 1) (q0 := 0) (As := [.ref (b 0)]) (rest := []) ⟨hx, hb, hml, hown, hts⟩ (mX1_sum0 l D cy q b M n dr an fi ba mo th nd fl q tq (by omega) (by omega) (by omega)) (cwV 1 hts gX2_counted_X1_sum rfl rfl rfl (by decide +kernel) ⟨Nat.le_of_ble_eq_true rfl, Nat.le_of_ble_eq_true rfl⟩) hP hK rfl rfl rfl hl.1 rfl (Nat.le_of_ble_eq_true rfl) dX2_counted_107 (Nat.zero_le _) (Nat.zero_le _) ?_
      exact W.iret (v := sumS (M 0) 8) hx hb hr (fun t ht hW => ⟨(sumS (M 0) 8), rfl, by rw [countedM, hsw3]; rfl, ht⟩) (fun q hq => absurd hq List.not_mem_nil) dX2_counted_110
    · refine lv_tableIn (off := 110) (tgt := 111) hx hb dX2_counted_1 hsw1 hsw2 (by rw [hsw3]; rfl) (by decide) ?_
      refine lv_aload_n hx hb dX2_counted_111 rfl (lv_at hl 0 rfl) ?_
      refine va_get (D := D) (ci := 2) (v := .ref q) (C := RX2) (T := TX2) (N := 5) hx hb hts inX2_counted_2 hown hK.1 hP 10 rfl rfl 3 (by decide) (hts (.fieldLink RX2 12 "ChalkSlateModel" "s" "LChalkSlateModel$State;") (by decide +kernel)) (fun _ h9 => h9) rfl dX2_counted_112 ?_
      refine lv_aload_n hx hb dX2_counted_115 rfl (lv_at hl 0 rfl) ?_
      refine va_get (D := D) (ci := 2) (v := .ref q) (C := RX2) (T := TX2) (N := 5) hx hb hts inX2_counted_2 hown hK.1 hP 10 rfl rfl 3 (by decide) (hts (.fieldLink RX2 12 "ChalkSlateModel" "s" "LChalkSlateModel$State;") (by decide +kernel)) (fun _ h9 => h9) rfl dX2_counted_116 ?_
      refine va_getN (D := D) (ci := 1) (v := .ref (b 1)) (C := RX1) (T := TX1) (N := 15) hx hb hts inX2_counted_1 hown hK.1 hP 0 rfl rfl 3 (by decide) (va_Nw.use rfl hK.2.2.2.2.1) (fun _ h9 => h9) rfl dX2_counted_119 ?_
      refine rd_V (q := (RX1, TX1, 15)) (ci := 1) (q0 := 0) (As := [.ref (b 1)]) (rest := []) ⟨hx, hb, hml, hown, hts⟩ (mX1_sum1 l D cy q b M n dr an fi ba mo th nd fl q tq (by omega) (by omega) (by omega)) (cwV 1 hts gX2_counted_X1_sum rfl rfl rfl (by decide +kernel) ⟨Nat.le_of_ble_eq_true rfl, Nat.le_of_ble_eq_true rfl⟩) hP hK rfl rfl rfl hl.1 rfl (Nat.le_of_ble_eq_true rfl) dX2_counted_122 (Nat.zero_le _) (Nat.zero_le _) ?_
      exact W.iret (v := sumS (M 1) 8) hx hb hr (fun t ht hW => ⟨(sumS (M 1) 8), rfl, by rw [countedM, hsw3]; rfl, ht⟩) (fun q hq => absurd hq List.not_mem_nil) dX2_counted_125
