set_option maxHeartbeats 4000000 in
set_option maxRecDepth 100000 in
theorem mX1_copy (l : Launch) (D : va_G) (cy : ClassId) (q x y z : Nat) (f g : Nat → Int32) (fs : List Value) (hz : z < 1000000) (sz : Nat) : WrV l yX1_copy wsX1_copy 1 27 [.ref q, .ref x, .ref y] D cy ([(q, .inr (1, fs)), (x, .inl (cy, z, .inl f)), (y, .inl (cy, z, .inl g))]) ([(q, .inr (1, fs)), (x, .inl (cy, z, .inl f)), (y, .inl (cy, z, .inl f))]) sz := by
  refine Met.ofW (cc := cX1_copy) (maxL := 3) (ret := none) (by decide) rfl ?_
  intro p e s m args below meth c s₁ B hml hv
  obtain ⟨rfl, hsz, hP, hK, hD0⟩ := hv
  have hx := B.exec
  have hb := B.bytes
  have hr := B.returns
  have hts := atoms_spec (ws := wsX1_copy) B.pre
  have hown : s.vm.findClass RX1 = some m.cls := findClass_of_methodNamed B.named
  have hlocks := B.notSynchronized
  subst hsz
  have hD := hD0.self (sz := s.heap.size)
  generalize hAe : va_A ([(q, .inr (1, fs)), (x, .inl (cy, z, .inl f)), (y, .inl (cy, z, .inl g))]) s.heap.size = A at hD ⊢
  have hA : ∀ q : Nat, s.heap.size ≤ q → A q := fun q h => by rw [← hAe]; exact Or.inr h
  have hS : va_S A s.heap s.heap [] := va_S.rf
  have hl := lv_entry ([.ref q, .ref x, .ref y]) (n := 3) (Nat.le_of_ble_eq_true rfl)
  rw [lg_entry_eq]
  generalize (lg_sl ([.ref q, .ref x, .ref y]) ++ List.replicate (3 - (lg_sl ([.ref q, .ref x, .ref y])).length) Slot.unset).toArray = ls at hl ⊢
  have hl : lv_has ls 3 [(0, .ref q), (1, .ref x), (2, .ref y)] := hl
  refine lv_aload_n hx hb dX1_copy_0 rfl (lv_at hl 1 rfl) ?_
  refine lv_iconst (v := 0) hx hb dX1_copy_1 (by decide) ?_
  refine lv_aload_n hx hb dX1_copy_2 rfl (lv_at hl 2 rfl) ?_
  refine lv_iconst (v := 0) hx hb dX1_copy_3 (by decide) ?_
  refine lv_aload_n hx hb dX1_copy_4 rfl (lv_at hl 1 rfl) ?_
  refine va_alen hx hb hK.1 hP 1 0 rfl rfl (v := nI z) rfl dX1_copy_5 ?_
  have hcl : (nI z).toNatClampNeg = z := nI_clamp (by omega)
  refine va_copyi hx hb (hml.trans hl.1.symm) hown (hts (.methodLink RX1 43 arraycopyName) (by decide +kernel)) (hts (.native arraycopyName) (by decide +kernel)) (hts (.static arraycopyName) (by decide +kernel)) (hts (.initialized "java/lang/System") (by decide +kernel)) hK.1 hP hD hS 1 2 0 0 rfl rfl rfl rfl rfl (sp := 0) (dp := 0) (n := nI z) (by decide) (by decide) (nI_pos (by omega)) (by rw [hcl]; show 0 + z ≤ z; omega) (by rw [hcl]; show 0 + z ≤ z; omega) (fun i _ => rfl) (Nat.le_of_ble_eq_true rfl) (Nat.le_of_ble_eq_true rfl) dX1_copy_6 (fun H locs hP hD hS => ?_)
  have hP : va_P D vwCl ([(q, .inr (1, fs)), (x, .inl (cy, z, .inl f)), (y, .inl (cy, z, .inl (va_cpy f g 0 0 (nI z).toNatClampNeg)))]) H := hP
  have hD : va_D A ([(q, .inr (1, fs)), (x, .inl (cy, z, .inl f)), (y, .inl (cy, z, .inl (va_cpy f g 0 0 (nI z).toNatClampNeg)))]) := hD
  have hP3 := arr_ext (g := f) (fun j hj => by rw [hcl]; unfold va_cpy; rw [if_pos (by omega)]; congr 1; omega) (hP.sub (ws' := [(y, .inl (cy, z, .inl (va_cpy f g 0 0 (nI z).toNatClampNeg)))]) [2] rfl)
  have hP : va_P D vwCl ([(q, .inr (1, fs)), (x, .inl (cy, z, .inl f)), (y, .inl (cy, z, .inl f))]) H := ((hP.sub (ws' := [(q, .inr (1, fs)), (x, .inl (cy, z, .inl f))]) [0, 1] rfl).app hP3)
  exact W.vret hx hb hr (fun t ht hW => ⟨⟨(), rfl, trivial, by show va_P D vwCl _ t.heap; rw [ht]; exact hP⟩, hS.F ht⟩) hS.2.2 dX1_copy_9

set_option maxRecDepth 100000 in
theorem inX1_become_1 : ∀ w ∈ wsX10, w ∈ wsX1_become := by decide +kernel

set_option maxHeartbeats 4000000 in
set_option maxRecDepth 100000 in
theorem mX1_become (l : Launch) (D : va_G) (cy : ClassId) (q : Nat) (b : Nat → Nat) (M : Nat → Nat → Int32) (n dr : Nat) (an fi ba : Int32) (mo : Nat) (q2 : Nat) (b2 : Nat → Nat) (M2 : Nat → Nat → Int32) (n2 dr2 : Nat) (an2 fi2 ba2 : Int32)  (sz : Nat) : WrV l yX1_become wsX1_become 2 49 [.ref q2, .ref q] D cy (cS q2 b2 cy M2 n2 dr2 an2 fi2 ba2 mo ++ cS q b cy M n dr an fi ba mo) (cS q2 b2 cy M n dr an2 fi2 ba2 mo ++ cS q b cy M n dr an fi ba mo) sz := by
  refine Met.ofW (cc := cX1_become) (maxL := 2) (ret := none) (by decide) rfl ?_
  intro p e s m args below meth c s₁ B hml hv
  obtain ⟨rfl, hsz, hP, hK, hD0⟩ := hv
  have hx := B.exec
  have hb := B.bytes
  have hr := B.returns
  have hts := atoms_spec (ws := wsX1_become) B.pre
  have hown : s.vm.findClass RX1 = some m.cls := findClass_of_methodNamed B.named
  have hlocks := B.notSynchronized
  subst hsz
  have hD := hD0.self (sz := s.heap.size)
  have hD : va_D (va_A (cS q2 b2 cy M2 n2 dr2 an2 fi2 ba2 mo ++ cS q b cy M n dr an fi ba mo) s.heap.size) ([(q2, .inr (1, [.int (nI n2), .int (nI dr2), .ref (b2 0), .ref (b2 1), .ref (b2 2), .ref (b2 4), .ref (b2 5), .ref (b2 6), .ref (b2 7), .ref (b2 8), .ref (b2 9), .int an2, .int fi2, .int ba2, .ref mo])), (b2 0, .inl (cy, 8, .inl (M2 0))), (b2 1, .inl (cy, 8, .inl (M2 1))), (b2 2, .inl (cy, 8, .inl (M2 2))), (b2 4, .inl (cy, 120, .inl (M2 4))), (b2 5, .inl (cy, 120, .inl (M2 5))), (b2 6, .inl (cy, 120, .inl (M2 6))), (b2 7, .inl (cy, 120, .inl (M2 7))), (b2 8, .inl (cy, 120, .inl (M2 8))), (b2 9, .inl (cy, 120, .inl (M2 9))), (q, .inr (1, [.int (nI n), .int (nI dr), .ref (b 0), .ref (b 1), .ref (b 2), .ref (b 4), .ref (b 5), .ref (b 6), .ref (b 7), .ref (b 8), .ref (b 9), .int an, .int fi, .int ba, .ref mo])), (b 0, .inl (cy, 8, .inl (M 0))), (b 1, .inl (cy, 8, .inl (M 1))), (b 2, .inl (cy, 8, .inl (M 2))), (b 4, .inl (cy, 120, .inl (M 4))), (b 5, .inl (cy, 120, .inl (M 5))), (b 6, .inl (cy, 120, .inl (M 6))), (b 7, .inl (cy, 120, .inl (M 7))), (b 8, .inl (cy, 120, .inl (M 8))), (b 9, .inl (cy, 120, .inl (M 9)))]) := hD
  have hP : va_P D vwCl ([(q2, .inr (1, [.int (nI n2), .int (nI dr2), .ref (b2 0), .ref (b2 1), .ref (b2 2), .ref (b2 4), .ref (b2 5), .ref (b2 6), .ref (b2 7), .ref (b2 8), .ref (b2 9), .int an2, .int fi2, .int ba2, .ref mo])), (b2 0, .inl (cy, 8, .inl (M2 0))), (b2 1, .inl (cy, 8, .inl (M2 1))), (b2 2, .inl (cy, 8, .inl (M2 2))), (b2 4, .inl (cy, 120, .inl (M2 4))), (b2 5, .inl (cy, 120, .inl (M2 5))), (b2 6, .inl (cy, 120, .inl (M2 6))), (b2 7, .inl (cy, 120, .inl (M2 7))), (b2 8, .inl (cy, 120, .inl (M2 8))), (b2 9, .inl (cy, 120, .inl (M2 9))), (q, .inr (1, [.int (nI n), .int (nI dr), .ref (b 0), .ref (b 1), .ref (b 2), .ref (b 4), .ref (b 5), .ref (b 6), .ref (b 7), .ref (b 8), .ref (b 9), .int an, .int fi, .int ba, .ref mo])), (b 0, .inl (cy, 8, .inl (M 0))), (b 1, .inl (cy, 8, .inl (M 1))), (b 2, .inl (cy, 8, .inl (M 2))), (b 4, .inl (cy, 120, .inl (M 4))), (b 5, .inl (cy, 120, .inl (M 5))), (b 6, .inl (cy, 120, .inl (M 6))), (b 7, .inl (cy, 120, .inl (M 7))), (b 8, .inl (cy, 120, .inl (M 8))), (b 9, .inl (cy, 120, .inl (M 9)))]) s.heap := hP
  generalize hAe : va_A (cS q2 b2 cy M2 n2 dr2 an2 fi2 ba2 mo ++ cS q b cy M n dr an fi ba mo) s.heap.size = A at hD ⊢
  have hA : ∀ q : Nat, s.heap.size ≤ q → A q := fun q h => by rw [← hAe]; exact Or.inr h
  have hS : va_S A s.heap s.heap [] := va_S.rf
  have hl := lv_entry ([.ref q2, .ref q]) (n := 2) (Nat.le_of_ble_eq_true rfl)
  rw [lg_entry_eq]
  generalize (lg_sl ([.ref q2, .ref q]) ++ List.replicate (2 - (lg_sl ([.ref q2, .ref q])).length) Slot.unset).toArray = ls at hl ⊢
  have hl : lv_has ls 2 [(0, .ref q2), (1, .ref q)] := hl
  refine lv_aload_n hx hb dX1_become_0 rfl (lv_at hl 0 rfl) ?_
  refine lv_aload_n hx hb dX1_become_1 rfl (lv_at hl 1 rfl) ?_
  refine va_get (D := D) (ci := 1) (v := .int (nI n)) (C := RX1) (T := TX1) (N := 15) hx hb hts inX1_become_1 hown hK.1 hP 10 rfl rfl 0 (by decide) (hts (.fieldLink RX1 49 "ChalkSlateModel$State" "lines" "I") (by decide +kernel)) (fun _ h9 => h9) rfl dX1_become_2 ?_
  refine va_put (D := D) (ci := 1) (v := .int (nI n)) (ty := .int) (C := RX1) (T := TX1) (N := 15) hx hb hts inX1_become_1 tyX1 tyX1_ok nmX1 hown hK.1 hP hD hS 0 rfl rfl 0 (by decide) (hts (.fieldLink RX1 49 "ChalkSlateModel$State" "lines" "I") (by decide +kernel)) (fun _ h9 => h9) rfl (by decide +kernel) rfl rfl (Nat.le_of_ble_eq_true rfl) dX1_become_5 (fun H locs hP hD hS => ?_)
  have hP : va_P D vwCl ([(q2, .inr (1, [.int (nI n), .int (nI dr2), .ref (b2 0), .ref (b2 1), .ref (b2 2), .ref (b2 4), .ref (b2 5), .ref (b2 6), .ref (b2 7), .ref (b2 8), .ref (b2 9), .int an2, .int fi2, .int ba2, .ref mo])), (b2 0, .inl (cy, 8, .inl (M2 0))), (b2 1, .inl (cy, 8, .inl (M2 1))), (b2 2, .inl (cy, 8, .inl (M2 2))), (b2 4, .inl (cy, 120, .inl (M2 4))), (b2 5, .inl (cy, 120, .inl (M2 5))), (b2 6, .inl (cy, 120, .inl (M2 6))), (b2 7, .inl (cy, 120, .inl (M2 7))), (b2 8, .inl (cy, 120, .inl (M2 8))), (b2 9, .inl (cy, 120, .inl (M2 9))), (q, .inr (1, [.int (nI n), .int (nI dr), .ref (b 0), .ref (b 1), .ref (b 2), .ref (b 4), .ref (b 5), .ref (b 6), .ref (b 7), .ref (b 8), .ref (b 9), .int an, .int fi, .int ba, .ref mo])), (b 0, .inl (cy, 8, .inl (M 0))), (b 1, .inl (cy, 8, .inl (M 1))), (b 2, .inl (cy, 8, .inl (M 2))), (b 4, .inl (cy, 120, .inl (M 4))), (b 5, .inl (cy, 120, .inl (M 5))), (b 6, .inl (cy, 120, .inl (M 6))), (b 7, .inl (cy, 120, .inl (M 7))), (b 8, .inl (cy, 120, .inl (M 8))), (b 9, .inl (cy, 120, .inl (M 9)))]) H := hP
  have hD : va_D A ([(q2, .inr (1, [.int (nI n), .int (nI dr2), .ref (b2 0), .ref (b2 1), .ref (b2 2), .ref (b2 4), .ref (b2 5), .ref (b2 6), .ref (b2 7), .ref (b2 8), .ref (b2 9), .int an2, .int fi2, .int ba2, .ref mo])), (b2 0, .inl (cy, 8, .inl (M2 0))), (b2 1, .inl (cy, 8, .inl (M2 1))), (b2 2, .inl (cy, 8, .inl (M2 2))), (b2 4, .inl (cy, 120, .inl (M2 4))), (b2 5, .inl (cy, 120, .inl (M2 5))), (b2 6, .inl (cy, 120, .inl (M2 6))), (b2 7, .inl (cy, 120, .inl (M2 7))), (b2 8, .inl (cy, 120, .inl (M2 8))), (b2 9, .inl (cy, 120, .inl (M2 9))), (q, .inr (1, [.int (nI n), .int (nI dr), .ref (b 0), .ref (b 1), .ref (b 2), .ref (b 4), .ref (b 5), .ref (b 6), .ref (b 7), .ref (b 8), .ref (b 9), .int an, .int fi, .int ba, .ref mo])), (b 0, .inl (cy, 8, .inl (M 0))), (b 1, .inl (cy, 8, .inl (M 1))), (b 2, .inl (cy, 8, .inl (M 2))), (b 4, .inl (cy, 120, .inl (M 4))), (b 5, .inl (cy, 120, .inl (M 5))), (b 6, .inl (cy, 120, .inl (M 6))), (b 7, .inl (cy, 120, .inl (M 7))), (b 8, .inl (cy, 120, .inl (M 8))), (b 9, .inl (cy, 120, .inl (M 9)))]) := hD
  refine lv_aload_n hx hb dX1_become_8 rfl (lv_at hl 0 rfl) ?_
  refine lv_aload_n hx hb dX1_become_9 rfl (lv_at hl 1 rfl) ?_
  refine va_get (D := D) (ci := 1) (v := .int (nI dr)) (C := RX1) (T := TX1) (N := 15) hx hb hts inX1_become_1 hown hK.1 hP 10 rfl rfl 1 (by decide) (hts (.fieldLink RX1 53 "ChalkSlateModel$State" "dry" "I") (by decide +kernel)) (fun _ h9 => h9) rfl dX1_become_10 ?_
  refine va_put (D := D) (ci := 1) (v := .int (nI dr)) (ty := .int) (C := RX1) (T := TX1) (N := 15) hx hb hts inX1_become_1 tyX1 tyX1_ok nmX1 hown hK.1 hP hD hS 0 rfl rfl 1 (by decide) (hts (.fieldLink RX1 53 "ChalkSlateModel$State" "dry" "I") (by decide +kernel)) (fun _ h9 => h9) rfl (by decide +kernel) rfl rfl (Nat.le_of_ble_eq_true rfl) dX1_become_13 (fun H locs hP hD hS => ?_)
  have hP : va_P D vwCl ([(q2, .inr (1, [.int (nI n), .int (nI dr), .ref (b2 0), .ref (b2 1), .ref (b2 2), .ref (b2 4), .ref (b2 5), .ref (b2 6), .ref (b2 7), .ref (b2 8), .ref (b2 9), .int an2, .int fi2, .int ba2, .ref mo])), (b2 0, .inl (cy, 8, .inl (M2 0))), (b2 1, .inl (cy, 8, .inl (M2 1))), (b2 2, .inl (cy, 8, .inl (M2 2))), (b2 4, .inl (cy, 120, .inl (M2 4))), (b2 5, .inl (cy, 120, .inl (M2 5))), (b2 6, .inl (cy, 120, .inl (M2 6))), (b2 7, .inl (cy, 120, .inl (M2 7))), (b2 8, .inl (cy, 120, .inl (M2 8))), (b2 9, .inl (cy, 120, .inl (M2 9))), (q, .inr (1, [.int (nI n), .int (nI dr), .ref (b 0), .ref (b 1), .ref (b 2), .ref (b 4), .ref (b 5), .ref (b 6), .ref (b 7), .ref (b 8), .ref (b 9), .int an, .int fi, .int ba, .ref mo])), (b 0, .inl (cy, 8, .inl (M 0))), (b 1, .inl (cy, 8, .inl (M 1))), (b 2, .inl (cy, 8, .inl (M 2))), (b 4, .inl (cy, 120, .inl (M 4))), (b 5, .inl (cy, 120, .inl (M 5))), (b 6, .inl (cy, 120, .inl (M 6))), (b 7, .inl (cy, 120, .inl (M 7))), (b 8, .inl (cy, 120, .inl (M 8))), (b 9, .inl (cy, 120, .inl (M 9)))]) H := hP
  have hD : va_D A ([(q2, .inr (1, [.int (nI n), .int (nI dr), .ref (b2 0), .ref (b2 1), .ref (b2 2), .ref (b2 4), .ref (b2 5), .ref (b2 6), .ref (b2 7), .ref (b2 8), .ref (b2 9), .int an2, .int fi2, .int ba2, .ref mo])), (b2 0, .inl (cy, 8, .inl (M2 0))), (b2 1, .inl (cy, 8, .inl (M2 1))), (b2 2, .inl (cy, 8, .inl (M2 2))), (b2 4, .inl (cy, 120, .inl (M2 4))), (b2 5, .inl (cy, 120, .inl (M2 5))), (b2 6, .inl (cy, 120, .inl (M2 6))), (b2 7, .inl (cy, 120, .inl (M2 7))), (b2 8, .inl (cy, 120, .inl (M2 8))), (b2 9, .inl (cy, 120, .inl (M2 9))), (q, .inr (1, [.int (nI n), .int (nI dr), .ref (b 0), .ref (b 1), .ref (b 2), .ref (b 4), .ref (b 5), .ref (b 6), .ref (b 7), .ref (b 8), .ref (b 9), .int an, .int fi, .int ba, .ref mo])), (b 0, .inl (cy, 8, .inl (M 0))), (b 1, .inl (cy, 8, .inl (M 1))), (b 2, .inl (cy, 8, .inl (M 2))), (b 4, .inl (cy, 120, .inl (M 4))), (b 5, .inl (cy, 120, .inl (M 5))), (b 6, .inl (cy, 120, .inl (M 6))), (b 7, .inl (cy, 120, .inl (M 7))), (b 8, .inl (cy, 120, .inl (M 8))), (b 9, .inl (cy, 120, .inl (M 9)))]) := hD
  refine lv_aload_n hx hb dX1_become_16 rfl (lv_at hl 0 rfl) ?_
  refine lv_aload_n hx hb dX1_become_17 rfl (lv_at hl 1 rfl) ?_
  refine va_get (D := D) (ci := 1) (v := .ref (b 0)) (C := RX1) (T := TX1) (N := 15) hx hb hts inX1_become_1 hown hK.1 hP 10 rfl rfl 2 (by decide) (hts (.fieldLink RX1 15 "ChalkSlateModel$State" "stove" "[I") (by decide +kernel)) (fun _ h9 => h9) rfl dX1_become_18 ?_
  refine lv_aload_n hx hb dX1_become_21 rfl (lv_at hl 0 rfl) ?_
  refine va_get (D := D) (ci := 1) (v := .ref (b2 0)) (C := RX1) (T := TX1) (N := 15) hx hb hts inX1_become_1 hown hK.1 hP 0 rfl rfl 2 (by decide) (hts (.fieldLink RX1 15 "ChalkSlateModel$State" "stove" "[I") (by decide +kernel)) (fun _ h9 => h9) rfl dX1_become_22 ?_
  refine wr_VV (q := (RX1, TX1, 15)) (ci := 1) (q0 := 0) (ws0' := [(q2, .inr (1, [.int (nI n), .int (nI dr), .ref (b2 0), .ref (b2 1), .ref (b2 2), .ref (b2 4), .ref (b2 5), .ref (b2 6), .ref (b2 7), .ref (b2 8), .ref (b2 9), .int an2, .int fi2, .int ba2, .ref mo])), (b2 0, .inl (cy, 8, .inl (M 0))), (b2 1, .inl (cy, 8, .inl (M2 1))), (b2 2, .inl (cy, 8, .inl (M2 2))), (b2 4, .inl (cy, 120, .inl (M2 4))), (b2 5, .inl (cy, 120, .inl (M2 5))), (b2 6, .inl (cy, 120, .inl (M2 6))), (b2 7, .inl (cy, 120, .inl (M2 7))), (b2 8, .inl (cy, 120, .inl (M2 8))), (b2 9, .inl (cy, 120, .inl (M2 9))), (q, .inr (1, [.int (nI n), .int (nI dr), .ref (b 0), .ref (b 1), .ref (b 2), .ref (b 4), .ref (b 5), .ref (b 6), .ref (b 7), .ref (b 8), .ref (b 9), .int an, .int fi, .int ba, .ref mo])), (b 0, .inl (cy, 8, .inl (M 0))), (b 1, .inl (cy, 8, .inl (M 1))), (b 2, .inl (cy, 8, .inl (M 2))), (b 4, .inl (cy, 120, .inl (M 4))), (b 5, .inl (cy, 120, .inl (M 5))), (b 6, .inl (cy, 120, .inl (M 6))), (b 7, .inl (cy, 120, .inl (M 7))), (b 8, .inl (cy, 120, .inl (M 8))), (b 9, .inl (cy, 120, .inl (M 9)))]) (As := [.ref (b 0), .ref (b2 0)]) (rest := []) ⟨hx, hb, hml, hown, hts⟩ (fun sz => mX1_copy l D cy q2 (b 0) (b2 0) 8 (M 0) (M2 0) [.int (nI n), .int (nI dr), .ref (b2 0), .ref (b2 1), .ref (b2 2), .ref (b2 4), .ref (b2 5), .ref (b2 6), .ref (b2 7), .ref (b2 8), .ref (b2 9), .int an2, .int fi2, .int ba2, .ref mo] (Nat.le_of_ble_eq_true rfl) sz) (cwV 2 hts gX1_become_X1_copy rfl rfl rfl (by decide +kernel) ⟨Nat.le_of_ble_eq_true rfl, Nat.le_of_ble_eq_true rfl⟩) hP hK hD hS hA [0, 11, 1] [2, 3, 4, 5, 6, 7, 8, 9, 10, 12, 13, 14, 15, 16, 17, 18, 19] [17, 19, 0, 1, 2, 3, 4, 5, 6, 7, 8, 18, 9, 10, 11, 12, 13, 14, 15, 16] rfl rfl rfl (by decide) rfl rfl rfl rfl rfl rfl rfl hl.1 rfl (Nat.le_of_ble_eq_true rfl) dX1_become_25 (Nat.zero_le _) (Nat.zero_le _) (fun H locs hP hD hS => ?_)
  refine lv_aload_n hx hb dX1_become_28 rfl (lv_at hl 0 rfl) ?_
  refine lv_aload_n hx hb dX1_become_29 rfl (lv_at hl 1 rfl) ?_
  refine va_get (D := D) (ci := 1) (v := .ref (b 1)) (C := RX1) (T := TX1) (N := 15) hx hb hts inX1_become_1 hown hK.1 hP 10 rfl rfl 3 (by decide) (hts (.fieldLink RX1 19 "ChalkSlateModel$State" "shelf" "[I") (by decide +kernel)) (fun _ h9 => h9) rfl dX1_become_30 ?_
  refine lv_aload_n hx hb dX1_become_33 rfl (lv_at hl 0 rfl) ?_
  refine va_get (D := D) (ci := 1) (v := .ref (b2 1)) (C := RX1) (T := TX1) (N := 15) hx hb hts inX1_become_1 hown hK.1 hP 0 rfl rfl 3 (by decide) (hts (.fieldLink RX1 19 "ChalkSlateModel$State" "shelf" "[I") (by decide +kernel)) (fun _ h9 => h9) rfl dX1_become_34 ?_
  refine wr_VV (q := (RX1, TX1, 15)) (ci := 1) (q0 := 0) (ws0' := [(q2, .inr (1, [.int (nI n), .int (nI dr), .ref (b2 0), .ref (b2 1), .ref (b2 2), .ref (b2 4), .ref (b2 5), .ref (b2 6), .ref (b2 7), .ref (b2 8), .ref (b2 9), .int an2, .int fi2, .int ba2, .ref mo])), (b2 0, .inl (cy, 8, .inl (M 0))), (b2 1, .inl (cy, 8, .inl (M 1))), (b2 2, .inl (cy, 8, .inl (M2 2))), (b2 4, .inl (cy, 120, .inl (M2 4))), (b2 5, .inl (cy, 120, .inl (M2 5))), (b2 6, .inl (cy, 120, .inl (M2 6))), (b2 7, .inl (cy, 120, .inl (M2 7))), (b2 8, .inl (cy, 120, .inl (M2 8))), (b2 9, .inl (cy, 120, .inl (M2 9))), (q, .inr (1, [.int (nI n), .int (nI dr), .ref (b 0), .ref (b 1), .ref (b 2), .ref (b 4), .ref (b 5), .ref (b 6), .ref (b 7), .ref (b 8), .ref (b 9), .int an, .int fi, .int ba, .ref mo])), (b 0, .inl (cy, 8, .inl (M 0))), (b 1, .inl (cy, 8, .inl (M 1))), (b 2, .inl (cy, 8, .inl (M 2))), (b 4, .inl (cy, 120, .inl (M 4))), (b 5, .inl (cy, 120, .inl (M 5))), (b 6, .inl (cy, 120, .inl (M 6))), (b 7, .inl (cy, 120, .inl (M 7))), (b 8, .inl (cy, 120, .inl (M 8))), (b 9, .inl (cy, 120, .inl (M 9)))]) (As := [.ref (b 1), .ref (b2 1)]) (rest := []) ⟨hx, hb, hml, hown, hts⟩ (fun sz => mX1_copy l D cy q2 (b 1) (b2 1) 8 (M 1) (M2 1) [.int (nI n), .int (nI dr), .ref (b2 0), .ref (b2 1), .ref (b2 2), .ref (b2 4), .ref (b2 5), .ref (b2 6), .ref (b2 7), .ref (b2 8), .ref (b2 9), .int an2, .int fi2, .int ba2, .ref mo] (Nat.le_of_ble_eq_true rfl) sz) (cwV 2 hts gX1_become_X1_copy rfl rfl rfl (by decide +kernel) ⟨Nat.le_of_ble_eq_true rfl, Nat.le_of_ble_eq_true rfl⟩) hP hK hD hS hA [0, 12, 2] [1, 3, 4, 5, 6, 7, 8, 9, 10, 11, 13, 14, 15, 16, 17, 18, 19] [17, 0, 19, 1, 2, 3, 4, 5, 6, 7, 8, 9, 18, 10, 11, 12, 13, 14, 15, 16] rfl rfl rfl (by decide) rfl rfl rfl rfl rfl rfl rfl hl.1 rfl (Nat.le_of_ble_eq_true rfl) dX1_become_37 (Nat.zero_le _) (Nat.zero_le _) (fun H locs hP hD hS => ?_)
  refine lv_aload_n hx hb dX1_become_40 rfl (lv_at hl 0 rfl) ?_
  refine lv_aload_n hx hb dX1_become_41 rfl (lv_at hl 1 rfl) ?_
  refine va_get (D := D) (ci := 1) (v := .ref (b 2)) (C := RX1) (T := TX1) (N := 15) hx hb hts inX1_become_1 hown hK.1 hP 10 rfl rfl 4 (by decide) (hts (.fieldLink RX1 22 "ChalkSlateModel$State" "stamp" "[I") (by decide +kernel)) (fun _ h9 => h9) rfl dX1_become_42 ?_
  refine lv_aload_n hx hb dX1_become_45 rfl (lv_at hl 0 rfl) ?_
  refine va_get (D := D) (ci := 1) (v := .ref (b2 2)) (C := RX1) (T := TX1) (N := 15) hx hb hts inX1_become_1 hown hK.1 hP 0 rfl rfl 4 (by decide) (hts (.fieldLink RX1 22 "ChalkSlateModel$State" "stamp" "[I") (by decide +kernel)) (fun _ h9 => h9) rfl dX1_become_46 ?_
  refine wr_VV (q := (RX1, TX1, 15)) (ci := 1) (q0 := 0) (ws0' := [(q2, .inr (1, [.int (nI n), .int (nI dr), .ref (b2 0), .ref (b2 1), .ref (b2 2), .ref (b2 4), .ref (b2 5), .ref (b2 6), .ref (b2 7), .ref (b2 8), .ref (b2 9), .int an2, .int fi2, .int ba2, .ref mo])), (b2 0, .inl (cy, 8, .inl (M 0))), (b2 1, .inl (cy, 8, .inl (M 1))), (b2 2, .inl (cy, 8, .inl (M 2))), (b2 4, .inl (cy, 120, .inl (M2 4))), (b2 5, .inl (cy, 120, .inl (M2 5))), (b2 6, .inl (cy, 120, .inl (M2 6))), (b2 7, .inl (cy, 120, .inl (M2 7))), (b2 8, .inl (cy, 120, .inl (M2 8))), (b2 9, .inl (cy, 120, .inl (M2 9))), (q, .inr (1, [.int (nI n), .int (nI dr), .ref (b 0), .ref (b 1), .ref (b 2), .ref (b 4), .ref (b 5), .ref (b 6), .ref (b 7), .ref (b 8), .ref (b 9), .int an, .int fi, .int ba, .ref mo])), (b 0, .inl (cy, 8, .inl (M 0))), (b 1, .inl (cy, 8, .inl (M 1))), (b 2, .inl (cy, 8, .inl (M 2))), (b 4, .inl (cy, 120, .inl (M 4))), (b 5, .inl (cy, 120, .inl (M 5))), (b 6, .inl (cy, 120, .inl (M 6))), (b 7, .inl (cy, 120, .inl (M 7))), (b 8, .inl (cy, 120, .inl (M 8))), (b 9, .inl (cy, 120, .inl (M 9)))]) (As := [.ref (b 2), .ref (b2 2)]) (rest := []) ⟨hx, hb, hml, hown, hts⟩ (fun sz => mX1_copy l D cy q2 (b 2) (b2 2) 8 (M 2) (M2 2) [.int (nI n), .int (nI dr), .ref (b2 0), .ref (b2 1), .ref (b2 2), .ref (b2 4), .ref (b2 5), .ref (b2 6), .ref (b2 7), .ref (b2 8), .ref (b2 9), .int an2, .int fi2, .int ba2, .ref mo] (Nat.le_of_ble_eq_true rfl) sz) (cwV 2 hts gX1_become_X1_copy rfl rfl rfl (by decide +kernel) ⟨Nat.le_of_ble_eq_true rfl, Nat.le_of_ble_eq_true rfl⟩) hP hK hD hS hA [0, 13, 3] [1, 2, 4, 5, 6, 7, 8, 9, 10, 11, 12, 14, 15, 16, 17, 18, 19] [17, 0, 1, 19, 2, 3, 4, 5, 6, 7, 8, 9, 10, 18, 11, 12, 13, 14, 15, 16] rfl rfl rfl (by decide) rfl rfl rfl rfl rfl rfl rfl hl.1 rfl (Nat.le_of_ble_eq_true rfl) dX1_become_49 (Nat.zero_le _) (Nat.zero_le _) (fun H locs hP hD hS => ?_)
  refine lv_aload_n hx hb dX1_become_52 rfl (lv_at hl 0 rfl) ?_
  refine lv_aload_n hx hb dX1_become_53 rfl (lv_at hl 1 rfl) ?_
  refine va_get (D := D) (ci := 1) (v := .ref (b 4)) (C := RX1) (T := TX1) (N := 15) hx hb hts inX1_become_1 hown hK.1 hP 10 rfl rfl 5 (by decide) (hts (.fieldLink RX1 25 "ChalkSlateModel$State" "dish" "[I") (by decide +kernel)) (fun _ h9 => h9) rfl dX1_become_54 ?_
  refine lv_aload_n hx hb dX1_become_57 rfl (lv_at hl 0 rfl) ?_
  refine va_get (D := D) (ci := 1) (v := .ref (b2 4)) (C := RX1) (T := TX1) (N := 15) hx hb hts inX1_become_1 hown hK.1 hP 0 rfl rfl 5 (by decide) (hts (.fieldLink RX1 25 "ChalkSlateModel$State" "dish" "[I") (by decide +kernel)) (fun _ h9 => h9) rfl dX1_become_58 ?_
  refine wr_VV (q := (RX1, TX1, 15)) (ci := 1) (q0 := 0) (ws0' := [(q2, .inr (1, [.int (nI n), .int (nI dr), .ref (b2 0), .ref (b2 1), .ref (b2 2), .ref (b2 4), .ref (b2 5), .ref (b2 6), .ref (b2 7), .ref (b2 8), .ref (b2 9), .int an2, .int fi2, .int ba2, .ref mo])), (b2 0, .inl (cy, 8, .inl (M 0))), (b2 1, .inl (cy, 8, .inl (M 1))), (b2 2, .inl (cy, 8, .inl (M 2))), (b2 4, .inl (cy, 120, .inl (M 4))), (b2 5, .inl (cy, 120, .inl (M2 5))), (b2 6, .inl (cy, 120, .inl (M2 6))), (b2 7, .inl (cy, 120, .inl (M2 7))), (b2 8, .inl (cy, 120, .inl (M2 8))), (b2 9, .inl (cy, 120, .inl (M2 9))), (q, .inr (1, [.int (nI n), .int (nI dr), .ref (b 0), .ref (b 1), .ref (b 2), .ref (b 4), .ref (b 5), .ref (b 6), .ref (b 7), .ref (b 8), .ref (b 9), .int an, .int fi, .int ba, .ref mo])), (b 0, .inl (cy, 8, .inl (M 0))), (b 1, .inl (cy, 8, .inl (M 1))), (b 2, .inl (cy, 8, .inl (M 2))), (b 4, .inl (cy, 120, .inl (M 4))), (b 5, .inl (cy, 120, .inl (M 5))), (b 6, .inl (cy, 120, .inl (M 6))), (b 7, .inl (cy, 120, .inl (M 7))), (b 8, .inl (cy, 120, .inl (M 8))), (b 9, .inl (cy, 120, .inl (M 9)))]) (As := [.ref (b 4), .ref (b2 4)]) (rest := []) ⟨hx, hb, hml, hown, hts⟩ (fun sz => mX1_copy l D cy q2 (b 4) (b2 4) 120 (M 4) (M2 4) [.int (nI n), .int (nI dr), .ref (b2 0), .ref (b2 1), .ref (b2 2), .ref (b2 4), .ref (b2 5), .ref (b2 6), .ref (b2 7), .ref (b2 8), .ref (b2 9), .int an2, .int fi2, .int ba2, .ref mo] (Nat.le_of_ble_eq_true rfl) sz) (cwV 2 hts gX1_become_X1_copy rfl rfl rfl (by decide +kernel) ⟨Nat.le_of_ble_eq_true rfl, Nat.le_of_ble_eq_true rfl⟩) hP hK hD hS hA [0, 14, 4] [1, 2, 3, 5, 6, 7, 8, 9, 10, 11, 12, 13, 15, 16, 17, 18, 19] [17, 0, 1, 2, 19, 3, 4, 5, 6, 7, 8, 9, 10, 11, 18, 12, 13, 14, 15, 16] rfl rfl rfl (by decide) rfl rfl rfl rfl rfl rfl rfl hl.1 rfl (Nat.le_of_ble_eq_true rfl) dX1_become_61 (Nat.zero_le _) (Nat.zero_le _) (fun H locs hP hD hS => ?_)
  refine lv_aload_n hx hb dX1_become_64 rfl (lv_at hl 0 rfl) ?_
  refine lv_aload_n hx hb dX1_become_65 rfl (lv_at hl 1 rfl) ?_
  refine va_get (D := D) (ci := 1) (v := .ref (b 5)) (C := RX1) (T := TX1) (N := 15) hx hb hts inX1_become_1 hown hK.1 hP 10 rfl rfl 6 (by decide) (hts (.fieldLink RX1 28 "ChalkSlateModel$State" "kind" "[I") (by decide +kernel)) (fun _ h9 => h9) rfl dX1_become_66 ?_
  refine lv_aload_n hx hb dX1_become_69 rfl (lv_at hl 0 rfl) ?_
  refine va_get (D := D) (ci := 1) (v := .ref (b2 5)) (C := RX1) (T := TX1) (N := 15) hx hb hts inX1_become_1 hown hK.1 hP 0 rfl rfl 6 (by decide) (hts (.fieldLink RX1 28 "ChalkSlateModel$State" "kind" "[I") (by decide +kernel)) (fun _ h9 => h9) rfl dX1_become_70 ?_
  refine wr_VV (q := (RX1, TX1, 15)) (ci := 1) (q0 := 0) (ws0' := [(q2, .inr (1, [.int (nI n), .int (nI dr), .ref (b2 0), .ref (b2 1), .ref (b2 2), .ref (b2 4), .ref (b2 5), .ref (b2 6), .ref (b2 7), .ref (b2 8), .ref (b2 9), .int an2, .int fi2, .int ba2, .ref mo])), (b2 0, .inl (cy, 8, .inl (M 0))), (b2 1, .inl (cy, 8, .inl (M 1))), (b2 2, .inl (cy, 8, .inl (M 2))), (b2 4, .inl (cy, 120, .inl (M 4))), (b2 5, .inl (cy, 120, .inl (M 5))), (b2 6, .inl (cy, 120, .inl (M2 6))), (b2 7, .inl (cy, 120, .inl (M2 7))), (b2 8, .inl (cy, 120, .inl (M2 8))), (b2 9, .inl (cy, 120, .inl (M2 9))), (q, .inr (1, [.int (nI n), .int (nI dr), .ref (b 0), .ref (b 1), .ref (b 2), .ref (b 4), .ref (b 5), .ref (b 6), .ref (b 7), .ref (b 8), .ref (b 9), .int an, .int fi, .int ba, .ref mo])), (b 0, .inl (cy, 8, .inl (M 0))), (b 1, .inl (cy, 8, .inl (M 1))), (b 2, .inl (cy, 8, .inl (M 2))), (b 4, .inl (cy, 120, .inl (M 4))), (b 5, .inl (cy, 120, .inl (M 5))), (b 6, .inl (cy, 120, .inl (M 6))), (b 7, .inl (cy, 120, .inl (M 7))), (b 8, .inl (cy, 120, .inl (M 8))), (b 9, .inl (cy, 120, .inl (M 9)))]) (As := [.ref (b 5), .ref (b2 5)]) (rest := []) ⟨hx, hb, hml, hown, hts⟩ (fun sz => mX1_copy l D cy q2 (b 5) (b2 5) 120 (M 5) (M2 5) [.int (nI n), .int (nI dr), .ref (b2 0), .ref (b2 1), .ref (b2 2), .ref (b2 4), .ref (b2 5), .ref (b2 6), .ref (b2 7), .ref (b2 8), .ref (b2 9), .int an2, .int fi2, .int ba2, .ref mo] (Nat.le_of_ble_eq_true rfl) sz) (cwV 2 hts gX1_become_X1_copy rfl rfl rfl (by decide +kernel) ⟨Nat.le_of_ble_eq_true rfl, Nat.le_of_ble_eq_true rfl⟩) hP hK hD hS hA [0, 15, 5] [1, 2, 3, 4, 6, 7, 8, 9, 10, 11, 12, 13, 14, 16, 17, 18, 19] [17, 0, 1, 2, 3, 19, 4, 5, 6, 7, 8, 9, 10, 11, 12, 18, 13, 14, 15, 16] rfl rfl rfl (by decide) rfl rfl rfl rfl rfl rfl rfl hl.1 rfl (Nat.le_of_ble_eq_true rfl) dX1_become_73 (Nat.zero_le _) (Nat.zero_le _) (fun H locs hP hD hS => ?_)
  refine lv_aload_n hx hb dX1_become_76 rfl (lv_at hl 0 rfl) ?_
  refine lv_aload_n hx hb dX1_become_77 rfl (lv_at hl 1 rfl) ?_
  refine va_get (D := D) (ci := 1) (v := .ref (b 6)) (C := RX1) (T := TX1) (N := 15) hx hb hts inX1_become_1 hown hK.1 hP 10 rfl rfl 7 (by decide) (hts (.fieldLink RX1 31 "ChalkSlateModel$State" "pot" "[I") (by decide +kernel)) (fun _ h9 => h9) rfl dX1_become_78 ?_
  refine lv_aload_n hx hb dX1_become_81 rfl (lv_at hl 0 rfl) ?_
  refine va_get (D := D) (ci := 1) (v := .ref (b2 6)) (C := RX1) (T := TX1) (N := 15) hx hb hts inX1_become_1 hown hK.1 hP 0 rfl rfl 7 (by decide) (hts (.fieldLink RX1 31 "ChalkSlateModel$State" "pot" "[I") (by decide +kernel)) (fun _ h9 => h9) rfl dX1_become_82 ?_
  refine wr_VV (q := (RX1, TX1, 15)) (ci := 1) (q0 := 0) (ws0' := [(q2, .inr (1, [.int (nI n), .int (nI dr), .ref (b2 0), .ref (b2 1), .ref (b2 2), .ref (b2 4), .ref (b2 5), .ref (b2 6), .ref (b2 7), .ref (b2 8), .ref (b2 9), .int an2, .int fi2, .int ba2, .ref mo])), (b2 0, .inl (cy, 8, .inl (M 0))), (b2 1, .inl (cy, 8, .inl (M 1))), (b2 2, .inl (cy, 8, .inl (M 2))), (b2 4, .inl (cy, 120, .inl (M 4))), (b2 5, .inl (cy, 120, .inl (M 5))), (b2 6, .inl (cy, 120, .inl (M 6))), (b2 7, .inl (cy, 120, .inl (M2 7))), (b2 8, .inl (cy, 120, .inl (M2 8))), (b2 9, .inl (cy, 120, .inl (M2 9))), (q, .inr (1, [.int (nI n), .int (nI dr), .ref (b 0), .ref (b 1), .ref (b 2), .ref (b 4), .ref (b 5), .ref (b 6), .ref (b 7), .ref (b 8), .ref (b 9), .int an, .int fi, .int ba, .ref mo])), (b 0, .inl (cy, 8, .inl (M 0))), (b 1, .inl (cy, 8, .inl (M 1))), (b 2, .inl (cy, 8, .inl (M 2))), (b 4, .inl (cy, 120, .inl (M 4))), (b 5, .inl (cy, 120, .inl (M 5))), (b 6, .inl (cy, 120, .inl (M 6))), (b 7, .inl (cy, 120, .inl (M 7))), (b 8, .inl (cy, 120, .inl (M 8))), (b 9, .inl (cy, 120, .inl (M 9)))]) (As := [.ref (b 6), .ref (b2 6)]) (rest := []) ⟨hx, hb, hml, hown, hts⟩ (fun sz => mX1_copy l D cy q2 (b 6) (b2 6) 120 (M 6) (M2 6) [.int (nI n), .int (nI dr), .ref (b2 0), .ref (b2 1), .ref (b2 2), .ref (b2 4), .ref (b2 5), .ref (b2 6), .ref (b2 7), .ref (b2 8), .ref (b2 9), .int an2, .int fi2, .int ba2, .ref mo] (Nat.le_of_ble_eq_true rfl) sz) (cwV 2 hts gX1_become_X1_copy rfl rfl rfl (by decide +kernel) ⟨Nat.le_of_ble_eq_true rfl, Nat.le_of_ble_eq_true rfl⟩) hP hK hD hS hA [0, 16, 6] [1, 2, 3, 4, 5, 7, 8, 9, 10, 11, 12, 13, 14, 15, 17, 18, 19] [17, 0, 1, 2, 3, 4, 19, 5, 6, 7, 8, 9, 10, 11, 12, 13, 18, 14, 15, 16] rfl rfl rfl (by decide) rfl rfl rfl rfl rfl rfl rfl hl.1 rfl (Nat.le_of_ble_eq_true rfl) dX1_become_85 (Nat.zero_le _) (Nat.zero_le _) (fun H locs hP hD hS => ?_)
  refine lv_aload_n hx hb dX1_become_88 rfl (lv_at hl 0 rfl) ?_
  refine lv_aload_n hx hb dX1_become_89 rfl (lv_at hl 1 rfl) ?_
  refine va_get (D := D) (ci := 1) (v := .ref (b 7)) (C := RX1) (T := TX1) (N := 15) hx hb hts inX1_become_1 hown hK.1 hP 10 rfl rfl 8 (by decide) (hts (.fieldLink RX1 34 "ChalkSlateModel$State" "ahead" "[I") (by decide +kernel)) (fun _ h9 => h9) rfl dX1_become_90 ?_
  refine lv_aload_n hx hb dX1_become_93 rfl (lv_at hl 0 rfl) ?_
  refine va_get (D := D) (ci := 1) (v := .ref (b2 7)) (C := RX1) (T := TX1) (N := 15) hx hb hts inX1_become_1 hown hK.1 hP 0 rfl rfl 8 (by decide) (hts (.fieldLink RX1 34 "ChalkSlateModel$State" "ahead" "[I") (by decide +kernel)) (fun _ h9 => h9) rfl dX1_become_94 ?_
  refine wr_VV (q := (RX1, TX1, 15)) (ci := 1) (q0 := 0) (ws0' := [(q2, .inr (1, [.int (nI n), .int (nI dr), .ref (b2 0), .ref (b2 1), .ref (b2 2), .ref (b2 4), .ref (b2 5), .ref (b2 6), .ref (b2 7), .ref (b2 8), .ref (b2 9), .int an2, .int fi2, .int ba2, .ref mo])), (b2 0, .inl (cy, 8, .inl (M 0))), (b2 1, .inl (cy, 8, .inl (M 1))), (b2 2, .inl (cy, 8, .inl (M 2))), (b2 4, .inl (cy, 120, .inl (M 4))), (b2 5, .inl (cy, 120, .inl (M 5))), (b2 6, .inl (cy, 120, .inl (M 6))), (b2 7, .inl (cy, 120, .inl (M 7))), (b2 8, .inl (cy, 120, .inl (M2 8))), (b2 9, .inl (cy, 120, .inl (M2 9))), (q, .inr (1, [.int (nI n), .int (nI dr), .ref (b 0), .ref (b 1), .ref (b 2), .ref (b 4), .ref (b 5), .ref (b 6), .ref (b 7), .ref (b 8), .ref (b 9), .int an, .int fi, .int ba, .ref mo])), (b 0, .inl (cy, 8, .inl (M 0))), (b 1, .inl (cy, 8, .inl (M 1))), (b 2, .inl (cy, 8, .inl (M 2))), (b 4, .inl (cy, 120, .inl (M 4))), (b 5, .inl (cy, 120, .inl (M 5))), (b 6, .inl (cy, 120, .inl (M 6))), (b 7, .inl (cy, 120, .inl (M 7))), (b 8, .inl (cy, 120, .inl (M 8))), (b 9, .inl (cy, 120, .inl (M 9)))]) (As := [.ref (b 7), .ref (b2 7)]) (rest := []) ⟨hx, hb, hml, hown, hts⟩ (fun sz => mX1_copy l D cy q2 (b 7) (b2 7) 120 (M 7) (M2 7) [.int (nI n), .int (nI dr), .ref (b2 0), .ref (b2 1), .ref (b2 2), .ref (b2 4), .ref (b2 5), .ref (b2 6), .ref (b2 7), .ref (b2 8), .ref (b2 9), .int an2, .int fi2, .int ba2, .ref mo] (Nat.le_of_ble_eq_true rfl) sz) (cwV 2 hts gX1_become_X1_copy rfl rfl rfl (by decide +kernel) ⟨Nat.le_of_ble_eq_true rfl, Nat.le_of_ble_eq_true rfl⟩) hP hK hD hS hA [0, 17, 7] [1, 2, 3, 4, 5, 6, 8, 9, 10, 11, 12, 13, 14, 15, 16, 18, 19] [17, 0, 1, 2, 3, 4, 5, 19, 6, 7, 8, 9, 10, 11, 12, 13, 14, 18, 15, 16] rfl rfl rfl (by decide) rfl rfl rfl rfl rfl rfl rfl hl.1 rfl (Nat.le_of_ble_eq_true rfl) dX1_become_97 (Nat.zero_le _) (Nat.zero_le _) (fun H locs hP hD hS => ?_)
  refine lv_aload_n hx hb dX1_become_100 rfl (lv_at hl 0 rfl) ?_
  refine lv_aload_n hx hb dX1_become_101 rfl (lv_at hl 1 rfl) ?_
  refine va_get (D := D) (ci := 1) (v := .ref (b 8)) (C := RX1) (T := TX1) (N := 15) hx hb hts inX1_become_1 hown hK.1 hP 10 rfl rfl 9 (by decide) (hts (.fieldLink RX1 37 "ChalkSlateModel$State" "behind" "[I") (by decide +kernel)) (fun _ h9 => h9) rfl dX1_become_102 ?_
  refine lv_aload_n hx hb dX1_become_105 rfl (lv_at hl 0 rfl) ?_
  refine va_get (D := D) (ci := 1) (v := .ref (b2 8)) (C := RX1) (T := TX1) (N := 15) hx hb hts inX1_become_1 hown hK.1 hP 0 rfl rfl 9 (by decide) (hts (.fieldLink RX1 37 "ChalkSlateModel$State" "behind" "[I") (by decide +kernel)) (fun _ h9 => h9) rfl dX1_become_106 ?_
  refine wr_VV (q := (RX1, TX1, 15)) (ci := 1) (q0 := 0) (ws0' := [(q2, .inr (1, [.int (nI n), .int (nI dr), .ref (b2 0), .ref (b2 1), .ref (b2 2), .ref (b2 4), .ref (b2 5), .ref (b2 6), .ref (b2 7), .ref (b2 8), .ref (b2 9), .int an2, .int fi2, .int ba2, .ref mo])), (b2 0, .inl (cy, 8, .inl (M 0))), (b2 1, .inl (cy, 8, .inl (M 1))), (b2 2, .inl (cy, 8, .inl (M 2))), (b2 4, .inl (cy, 120, .inl (M 4))), (b2 5, .inl (cy, 120, .inl (M 5))), (b2 6, .inl (cy, 120, .inl (M 6))), (b2 7, .inl (cy, 120, .inl (M 7))), (b2 8, .inl (cy, 120, .inl (M 8))), (b2 9, .inl (cy, 120, .inl (M2 9))), (q, .inr (1, [.int (nI n), .int (nI dr), .ref (b 0), .ref (b 1), .ref (b 2), .ref (b 4), .ref (b 5), .ref (b 6), .ref (b 7), .ref (b 8), .ref (b 9), .int an, .int fi, .int ba, .ref mo])), (b 0, .inl (cy, 8, .inl (M 0))), (b 1, .inl (cy, 8, .inl (M 1))), (b 2, .inl (cy, 8, .inl (M 2))), (b 4, .inl (cy, 120, .inl (M 4))), (b 5, .inl (cy, 120, .inl (M 5))), (b 6, .inl (cy, 120, .inl (M 6))), (b 7, .inl (cy, 120, .inl (M 7))), (b 8, .inl (cy, 120, .inl (M 8))), (b 9, .inl (cy, 120, .inl (M 9)))]) (As := [.ref (b 8), .ref (b2 8)]) (rest := []) ⟨hx, hb, hml, hown, hts⟩ (fun sz => mX1_copy l D cy q2 (b 8) (b2 8) 120 (M 8) (M2 8) [.int (nI n), .int (nI dr), .ref (b2 0), .ref (b2 1), .ref (b2 2), .ref (b2 4), .ref (b2 5), .ref (b2 6), .ref (b2 7), .ref (b2 8), .ref (b2 9), .int an2, .int fi2, .int ba2, .ref mo] (Nat.le_of_ble_eq_true rfl) sz) (cwV 2 hts gX1_become_X1_copy rfl rfl rfl (by decide +kernel) ⟨Nat.le_of_ble_eq_true rfl, Nat.le_of_ble_eq_true rfl⟩) hP hK hD hS hA [0, 18, 8] [1, 2, 3, 4, 5, 6, 7, 9, 10, 11, 12, 13, 14, 15, 16, 17, 19] [17, 0, 1, 2, 3, 4, 5, 6, 19, 7, 8, 9, 10, 11, 12, 13, 14, 15, 18, 16] rfl rfl rfl (by decide) rfl rfl rfl rfl rfl rfl rfl hl.1 rfl (Nat.le_of_ble_eq_true rfl) dX1_become_109 (Nat.zero_le _) (Nat.zero_le _) (fun H locs hP hD hS => ?_)
  refine lv_aload_n hx hb dX1_become_112 rfl (lv_at hl 0 rfl) ?_
  refine lv_aload_n hx hb dX1_become_113 rfl (lv_at hl 1 rfl) ?_
  refine va_get (D := D) (ci := 1) (v := .ref (b 9)) (C := RX1) (T := TX1) (N := 15) hx hb hts inX1_become_1 hown hK.1 hP 10 rfl rfl 10 (by decide) (hts (.fieldLink RX1 40 "ChalkSlateModel$State" "takes" "[I") (by decide +kernel)) (fun _ h9 => h9) rfl dX1_become_114 ?_
  refine lv_aload_n hx hb dX1_become_117 rfl (lv_at hl 0 rfl) ?_
  refine va_get (D := D) (ci := 1) (v := .ref (b2 9)) (C := RX1) (T := TX1) (N := 15) hx hb hts inX1_become_1 hown hK.1 hP 0 rfl rfl 10 (by decide) (hts (.fieldLink RX1 40 "ChalkSlateModel$State" "takes" "[I") (by decide +kernel)) (fun _ h9 => h9) rfl dX1_become_118 ?_
  refine wr_VV (q := (RX1, TX1, 15)) (ci := 1) (q0 := 0) (ws0' := [(q2, .inr (1, [.int (nI n), .int (nI dr), .ref (b2 0), .ref (b2 1), .ref (b2 2), .ref (b2 4), .ref (b2 5), .ref (b2 6), .ref (b2 7), .ref (b2 8), .ref (b2 9), .int an2, .int fi2, .int ba2, .ref mo])), (b2 0, .inl (cy, 8, .inl (M 0))), (b2 1, .inl (cy, 8, .inl (M 1))), (b2 2, .inl (cy, 8, .inl (M 2))), (b2 4, .inl (cy, 120, .inl (M 4))), (b2 5, .inl (cy, 120, .inl (M 5))), (b2 6, .inl (cy, 120, .inl (M 6))), (b2 7, .inl (cy, 120, .inl (M 7))), (b2 8, .inl (cy, 120, .inl (M 8))), (b2 9, .inl (cy, 120, .inl (M 9))), (q, .inr (1, [.int (nI n), .int (nI dr), .ref (b 0), .ref (b 1), .ref (b 2), .ref (b 4), .ref (b 5), .ref (b 6), .ref (b 7), .ref (b 8), .ref (b 9), .int an, .int fi, .int ba, .ref mo])), (b 0, .inl (cy, 8, .inl (M 0))), (b 1, .inl (cy, 8, .inl (M 1))), (b 2, .inl (cy, 8, .inl (M 2))), (b 4, .inl (cy, 120, .inl (M 4))), (b 5, .inl (cy, 120, .inl (M 5))), (b 6, .inl (cy, 120, .inl (M 6))), (b 7, .inl (cy, 120, .inl (M 7))), (b 8, .inl (cy, 120, .inl (M 8))), (b 9, .inl (cy, 120, .inl (M 9)))]) (As := [.ref (b 9), .ref (b2 9)]) (rest := []) ⟨hx, hb, hml, hown, hts⟩ (fun sz => mX1_copy l D cy q2 (b 9) (b2 9) 120 (M 9) (M2 9) [.int (nI n), .int (nI dr), .ref (b2 0), .ref (b2 1), .ref (b2 2), .ref (b2 4), .ref (b2 5), .ref (b2 6), .ref (b2 7), .ref (b2 8), .ref (b2 9), .int an2, .int fi2, .int ba2, .ref mo] (Nat.le_of_ble_eq_true rfl) sz) (cwV 2 hts gX1_become_X1_copy rfl rfl rfl (by decide +kernel) ⟨Nat.le_of_ble_eq_true rfl, Nat.le_of_ble_eq_true rfl⟩) hP hK hD hS hA [0, 19, 9] [1, 2, 3, 4, 5, 6, 7, 8, 10, 11, 12, 13, 14, 15, 16, 17, 18] [17, 0, 1, 2, 3, 4, 5, 6, 7, 19, 8, 9, 10, 11, 12, 13, 14, 15, 16, 18] rfl rfl rfl (by decide) rfl rfl rfl rfl rfl rfl rfl hl.1 rfl (Nat.le_of_ble_eq_true rfl) dX1_become_121 (Nat.zero_le _) (Nat.zero_le _) (fun H locs hP hD hS => ?_)
  exact W.vret hx hb hr (fun t ht hW => ⟨⟨(), rfl, trivial, by show va_P D vwCl _ t.heap; rw [ht]; exact hP⟩, hS.F ht⟩) hS.2.2 dX1_become_124

set_option maxRecDepth 100000 in
theorem inX2_would_2 : ∀ w ∈ wsX20, w ∈ wsX2_would := by decide +kernel

set_option maxRecDepth 100000 in
theorem inX2_would_1 : ∀ w ∈ wsX10, w ∈ wsX2_would := by decide +kernel

set_option maxHeartbeats 4000000 in
set_option maxRecDepth 100000 in
theorem mX2_would_ok (l : Launch) (D : va_G) (cy : ClassId) (q : Nat) (b : Nat → Nat) (M : Nat → Nat → Int32) (n dr : Nat) (an fi ba : Int32) (mo : Nat) (th : Int32) (nd : Nat) (fl : Int32) (q2 : Nat) (b2 : Nat → Nat) (M2 : Nat → Nat → Int32) (n2 dr2 : Nat) (an2 fi2 ba2 : Int32) (w : Int32) (hnd : nd ≤ 20) (hn : n ≤ 120) (hdr : dr ≤ 120) (hok : fallOk M nd dr) (h3 : (fallM3 M nd dr).2.1 ≤ 120) (hout : wouldT w = 0) (sz : Nat) : WnI l yX2_would wsX2_would 4 91 1 5 [.ref mo, .int w] D cy (cW q b cy M n dr an fi ba mo th nd fl q2 b2 M2 n2 dr2 an2 fi2 ba2) (cW q b cy M n dr an fi ba mo 0 nd fl q2 b2 ((fallM3 M nd dr).1) ((fallM3 M nd dr).2.1) dr ((fallM2 M dr).2.1) ((fallM2 M dr).2.2) ((fallM3 M nd dr).2.2)) sz (wouldTM M n nd dr w) := by
  refine Met.ofW (cc := cX2_would) (maxL := 3) (ret := (some .int)) (by decide) rfl ?_
  intro p e s m args below meth c s₁ B hml hv
  obtain ⟨rfl, hsz, hP, hK, hD0⟩ := hv
  have hx := B.exec
  have hb := B.bytes
  have hr := B.returns
  have hts := atoms_spec (ws := wsX2_would) B.pre
  have hown : s.vm.findClass RX2 = some m.cls := findClass_of_methodNamed B.named
  have hlocks := B.notSynchronized
  subst hsz
  have hD := hD0.self (sz := s.heap.size)
  generalize hAe : va_A (cW q b cy M n dr an fi ba mo th nd fl q2 b2 M2 n2 dr2 an2 fi2 ba2) s.heap.size = A at hD ⊢
  have hA : ∀ q : Nat, s.heap.size ≤ q → A q := fun q h => by rw [← hAe]; exact Or.inr h
  have hS : va_S A s.heap s.heap [] := va_S.rf
  have hl := lv_entry ([.ref mo, .int w]) (n := 3) (Nat.le_of_ble_eq_true rfl)
  rw [lg_entry_eq]
  generalize (lg_sl ([.ref mo, .int w]) ++ List.replicate (3 - (lg_sl ([.ref mo, .int w])).length) Slot.unset).toArray = ls at hl ⊢
  have hl : lv_has ls 3 [(0, .ref mo), (1, .int w)] := hl
  refine lv_aload_n hx hb dX2_would_0 rfl (lv_at hl 0 rfl) ?_
  refine lv_iconst (v := 0) hx hb dX2_would_1 (by decide) ?_
  refine va_put (D := D) (ci := 2) (v := .int 0) (ty := .int) (C := RX2) (T := TX2) (N := 5) hx hb hts inX2_would_2 tyX2 tyX2_ok nmX2 hown hK.1 hP hD hS 10 rfl rfl 0 (by decide) (hts (.fieldLink RX2 21 "ChalkSlateModel" "thrown" "I") (by decide +kernel)) (fun _ h9 => h9) rfl (by decide +kernel) rfl rfl (Nat.le_of_ble_eq_true rfl) dX2_would_2 (fun H locs hP hD hS => ?_)
  have hP : va_P D vwCl (cW q b cy M n dr an fi ba mo 0 nd fl q2 b2 M2 n2 dr2 an2 fi2 ba2) H := hP
  have hD : va_D A (cW q b cy M n dr an fi ba mo 0 nd fl q2 b2 M2 n2 dr2 an2 fi2 ba2) := hD
  refine lv_iload_n hx hb dX2_would_5 rfl (lv_at hl 1 rfl) ?_
  refine lv_iconst (v := 0) hx hb dX2_would_6 (by decide) ?_
  refine lv_iconst (v := 4) hx hb dX2_would_7 (by decide) ?_
  refine rd_S (As := [.int w, .int 0, .int 4]) (rest := []) ⟨hx, hb, hml, hown, hts⟩ (mX2_isIn l D cy w 0 4) (va_cwS 3 hts gX2_would_X2_isIn rfl rfl rfl (by decide +kernel) ⟨Nat.le_of_ble_eq_true rfl, Nat.le_of_ble_eq_true rfl⟩) (hP.sub (ws' := []) [] rfl) hK rfl hl.1 rfl (Nat.le_of_ble_eq_true rfl) dX2_would_8 (Nat.le_of_ble_eq_true rfl) (Nat.le_of_ble_eq_true rfl) ?_
  refine lv_if_ne (tgt := 20) hx hb dX2_would_11 (by decide) (fun c1 => ?_) (fun c1 => ?_)
  · refine lv_aload_n hx hb dX2_would_20 rfl (lv_at hl 0 rfl) ?_
    refine va_get (D := D) (ci := 2) (v := .ref q2) (C := RX2) (T := TX2) (N := 5) hx hb hts inX2_would_2 hown hK.1 hP 10 rfl rfl 4 (by decide) (hts (.fieldLink RX2 18 "ChalkSlateModel" "then" "LChalkSlateModel$State;") (by decide +kernel)) (fun _ h9 => h9) rfl dX2_would_21 ?_
    refine lv_aload_n hx hb dX2_would_24 rfl (lv_at hl 0 rfl) ?_
    refine va_get (D := D) (ci := 2) (v := .ref q) (C := RX2) (T := TX2) (N := 5) hx hb hts inX2_would_2 hown hK.1 hP 10 rfl rfl 3 (by decide) (hts (.fieldLink RX2 12 "ChalkSlateModel" "s" "LChalkSlateModel$State;") (by decide +kernel)) (fun _ h9 => h9) rfl dX2_would_25 ?_
    refine wr_VV (q := (RX1, TX1, 15)) (ci := 1) (q0 := 0) (ws0' := cW q b cy M n dr an fi ba mo 0 nd fl q2 b2 M n dr an2 fi2 ba2) (As := [.ref q]) (rest := []) ⟨hx, hb, hml, hown, hts⟩ (fun sz => mX1_become l D cy q b M n dr an fi ba mo q2 b2 M2 n2 dr2 an2 fi2 ba2 sz) (cwV 1 hts gX2_would_X1_become rfl rfl rfl (by decide +kernel) ⟨Nat.le_of_ble_eq_true rfl, Nat.le_of_ble_eq_true rfl⟩) hP hK hD hS hA [11, 12, 13, 14, 15, 16, 17, 18, 19, 20, 0, 1, 2, 3, 4, 5, 6, 7, 8, 9] [10] [11, 12, 13, 14, 15, 16, 17, 18, 19, 20, 0, 1, 2, 3, 4, 5, 6, 7, 8, 9, 10] rfl rfl rfl (by decide) rfl rfl rfl rfl rfl rfl rfl hl.1 rfl (Nat.le_of_ble_eq_true rfl) dX2_would_28 (Nat.le_of_ble_eq_true rfl) (Nat.le_of_ble_eq_true rfl) (fun H locs hP hD hS => ?_)
    refine lv_aload_n hx hb dX2_would_31 rfl (lv_at hl 0 rfl) ?_
    refine va_get (D := D) (ci := 2) (v := .ref q2) (C := RX2) (T := TX2) (N := 5) hx hb hts inX2_would_2 hown hK.1 hP 10 rfl rfl 4 (by decide) (hts (.fieldLink RX2 18 "ChalkSlateModel" "then" "LChalkSlateModel$State;") (by decide +kernel)) (fun _ h9 => h9) rfl dX2_would_32 ?_
    refine wr_VV (q := (RX1, TX1, 15)) (ci := 1) (q0 := 0) (ws0' := cW q b cy M n dr an fi ba mo 0 nd fl q2 b2 ((fallM3 M nd dr).1) ((fallM3 M nd dr).2.1) dr ((fallM2 M dr).2.1) ((fallM2 M dr).2.2) ((fallM3 M nd dr).2.2)) (As := []) (rest := []) ⟨hx, hb, hml, hown, hts⟩ (fun sz => mX1_fall l D cy q2 b2 M n dr an2 fi2 ba2 mo 0 nd fl q q2 (by omega) hn hdr hok sz) (cwV 0 hts gX2_would_X1_fall rfl rfl rfl (by decide +kernel) ⟨Nat.le_of_ble_eq_true rfl, Nat.le_of_ble_eq_true rfl⟩) hP hK hD hS hA [11, 12, 13, 14, 15, 16, 17, 18, 19, 20, 10] [0, 1, 2, 3, 4, 5, 6, 7, 8, 9] [0, 1, 2, 3, 4, 5, 6, 7, 8, 9, 20, 10, 11, 12, 13, 14, 15, 16, 17, 18, 19] rfl rfl rfl (by decide) rfl rfl rfl rfl rfl rfl rfl hl.1 rfl (Nat.le_of_ble_eq_true rfl) dX2_would_35 (Nat.le_of_ble_eq_true rfl) (Nat.le_of_ble_eq_true rfl) (fun H locs hP hD hS => ?_)
    refine lv_iconst (v := 5) hx hb dX2_would_38 (by decide) ?_
    refine va_newa (atype := .int) (N' := 5) (a0 := (5, .inl (fun _ => 0))) hx hb (hts (.arrayClass .int) (by decide +kernel)) rfl hK.1 hP hD hS hA (fun _ => rfl) (by decide) (by decide) (by decide) (Nat.le_of_ble_eq_true rfl) (Nat.le_of_ble_eq_true rfl) dX2_would_39 (fun q9 cA H hK9 hP hD hS => ?_)
    have hP : va_P D vwCl (cW q b cy M n dr an fi ba mo 0 nd fl q2 b2 ((fallM3 M nd dr).1) ((fallM3 M nd dr).2.1) dr ((fallM2 M dr).2.1) ((fallM2 M dr).2.2) ((fallM3 M nd dr).2.2) ++ [(q9, .inl (cA, 5, .inl (fun _ => 0)))]) H := hP
    have hD : va_D A (cW q b cy M n dr an fi ba mo 0 nd fl q2 b2 ((fallM3 M nd dr).1) ((fallM3 M nd dr).2.1) dr ((fallM2 M dr).2.1) ((fallM2 M dr).2.2) ((fallM3 M nd dr).2.2) ++ [(q9, .inl (cA, 5, .inl (fun _ => 0)))]) := hD
    refine lv_dup hx hb dX2_would_41 rfl ?_
    refine lv_iconst (v := 0) hx hb dX2_would_42 (by decide) ?_
    refine lv_aload_n hx hb dX2_would_43 rfl (lv_at hl 0 rfl) ?_
    refine va_get (D := D) (ci := 2) (v := .ref q) (C := RX2) (T := TX2) (N := 5) hx hb hts inX2_would_2 hown hK.1 hP 10 rfl rfl 3 (by decide) (hts (.fieldLink RX2 12 "ChalkSlateModel" "s" "LChalkSlateModel$State;") (by decide +kernel)) (fun _ h9 => h9) rfl dX2_would_44 ?_
    refine va_getN (D := D) (ci := 1) (v := .int (nI n)) (C := RX1) (T := TX1) (N := 15) hx hb hts inX2_would_1 hown hK.1 hP 0 rfl rfl 0 (by decide) (va_Nw.use rfl hK.2.1) (fun _ h9 => h9) rfl dX2_would_47 ?_
    refine lv_aload_n hx hb dX2_would_50 rfl (lv_at hl 0 rfl) ?_
    refine va_get (D := D) (ci := 2) (v := .ref q) (C := RX2) (T := TX2) (N := 5) hx hb hts inX2_would_2 hown hK.1 hP 10 rfl rfl 3 (by decide) (hts (.fieldLink RX2 12 "ChalkSlateModel" "s" "LChalkSlateModel$State;") (by decide +kernel)) (fun _ h9 => h9) rfl dX2_would_51 ?_
    refine va_getN (D := D) (ci := 1) (v := .int (nI dr)) (C := RX1) (T := TX1) (N := 15) hx hb hts inX2_would_1 hown hK.1 hP 0 rfl rfl 1 (by decide) (va_Nw.use rfl hK.2.2.1) (fun _ h9 => h9) rfl dX2_would_54 ?_
    refine lv_isub hx hb dX2_would_57 ?_
    refine va_iast hx hb hK9 hP hD hS 21 1 rfl rfl (vp_in_nI (n := 0) (by omega) (by omega)) dX2_would_58 (fun H locs hP hD hS => ?_)
    have hP : va_P D vwCl (cW q b cy M n dr an fi ba mo 0 nd fl q2 b2 ((fallM3 M nd dr).1) ((fallM3 M nd dr).2.1) dr ((fallM2 M dr).2.1) ((fallM2 M dr).2.2) ((fallM3 M nd dr).2.2) ++ [(q9, .inl (cA, 5, .inl (upd (fun _ => 0) 0 ((nI n) - (nI dr)))))]) H := hP
    have hD : va_D A (cW q b cy M n dr an fi ba mo 0 nd fl q2 b2 ((fallM3 M nd dr).1) ((fallM3 M nd dr).2.1) dr ((fallM2 M dr).2.1) ((fallM2 M dr).2.2) ((fallM3 M nd dr).2.2) ++ [(q9, .inl (cA, 5, .inl (upd (fun _ => 0) 0 ((nI n) - (nI dr)))))]) := hD
    refine lv_dup hx hb dX2_would_59 rfl ?_
    refine lv_iconst (v := 1) hx hb dX2_would_60 (by decide) ?_
    refine lv_aload_n hx hb dX2_would_61 rfl (lv_at hl 0 rfl) ?_
    refine va_get (D := D) (ci := 2) (v := .ref q2) (C := RX2) (T := TX2) (N := 5) hx hb hts inX2_would_2 hown hK.1 hP 10 rfl rfl 4 (by decide) (hts (.fieldLink RX2 18 "ChalkSlateModel" "then" "LChalkSlateModel$State;") (by decide +kernel)) (fun _ h9 => h9) rfl dX2_would_62 ?_
    refine va_getN (D := D) (ci := 1) (v := .int ((fallM2 M dr).2.1)) (C := RX1) (T := TX1) (N := 15) hx hb hts inX2_would_1 hown hK.1 hP 11 rfl rfl 11 (by decide) (va_Nw.use rfl hK.2.2.2.2.2.2.2.2.2.2.2.2.1) (fun _ h9 => h9) rfl dX2_would_65 ?_
    refine va_iast hx hb hK9 hP hD hS 21 1 rfl rfl (vp_in_nI (n := 1) (by omega) (by omega)) dX2_would_68 (fun H locs hP hD hS => ?_)
    have hP : va_P D vwCl (cW q b cy M n dr an fi ba mo 0 nd fl q2 b2 ((fallM3 M nd dr).1) ((fallM3 M nd dr).2.1) dr ((fallM2 M dr).2.1) ((fallM2 M dr).2.2) ((fallM3 M nd dr).2.2) ++ [(q9, .inl (cA, 5, .inl (upd (upd (fun _ => 0) 0 ((nI n) - (nI dr))) 1 ((fallM2 M dr).2.1))))]) H := hP
    have hD : va_D A (cW q b cy M n dr an fi ba mo 0 nd fl q2 b2 ((fallM3 M nd dr).1) ((fallM3 M nd dr).2.1) dr ((fallM2 M dr).2.1) ((fallM2 M dr).2.2) ((fallM3 M nd dr).2.2) ++ [(q9, .inl (cA, 5, .inl (upd (upd (fun _ => 0) 0 ((nI n) - (nI dr))) 1 ((fallM2 M dr).2.1))))]) := hD
    refine lv_dup hx hb dX2_would_69 rfl ?_
    refine lv_iconst (v := 2) hx hb dX2_would_70 (by decide) ?_
    refine lv_aload_n hx hb dX2_would_71 rfl (lv_at hl 0 rfl) ?_
    refine va_get (D := D) (ci := 2) (v := .ref q2) (C := RX2) (T := TX2) (N := 5) hx hb hts inX2_would_2 hown hK.1 hP 10 rfl rfl 4 (by decide) (hts (.fieldLink RX2 18 "ChalkSlateModel" "then" "LChalkSlateModel$State;") (by decide +kernel)) (fun _ h9 => h9) rfl dX2_would_72 ?_
    refine va_getN (D := D) (ci := 1) (v := .int ((fallM3 M nd dr).2.2)) (C := RX1) (T := TX1) (N := 15) hx hb hts inX2_would_1 hown hK.1 hP 11 rfl rfl 13 (by decide) (va_Nw.use rfl hK.2.2.2.2.2.2.2.2.2.2.2.2.2.2.1) (fun _ h9 => h9) rfl dX2_would_75 ?_
    refine va_iast hx hb hK9 hP hD hS 21 1 rfl rfl (vp_in_nI (n := 2) (by omega) (by omega)) dX2_would_78 (fun H locs hP hD hS => ?_)
    have hP : va_P D vwCl (cW q b cy M n dr an fi ba mo 0 nd fl q2 b2 ((fallM3 M nd dr).1) ((fallM3 M nd dr).2.1) dr ((fallM2 M dr).2.1) ((fallM2 M dr).2.2) ((fallM3 M nd dr).2.2) ++ [(q9, .inl (cA, 5, .inl (upd (upd (upd (fun _ => 0) 0 ((nI n) - (nI dr))) 1 ((fallM2 M dr).2.1)) 2 ((fallM3 M nd dr).2.2))))]) H := hP
    have hD : va_D A (cW q b cy M n dr an fi ba mo 0 nd fl q2 b2 ((fallM3 M nd dr).1) ((fallM3 M nd dr).2.1) dr ((fallM2 M dr).2.1) ((fallM2 M dr).2.2) ((fallM3 M nd dr).2.2) ++ [(q9, .inl (cA, 5, .inl (upd (upd (upd (fun _ => 0) 0 ((nI n) - (nI dr))) 1 ((fallM2 M dr).2.1)) 2 ((fallM3 M nd dr).2.2))))]) := hD
    refine lv_dup hx hb dX2_would_79 rfl ?_
    refine lv_iconst (v := 3) hx hb dX2_would_80 (by decide) ?_
    refine lv_aload_n hx hb dX2_would_81 rfl (lv_at hl 0 rfl) ?_
    refine va_get (D := D) (ci := 2) (v := .ref q2) (C := RX2) (T := TX2) (N := 5) hx hb hts inX2_would_2 hown hK.1 hP 10 rfl rfl 4 (by decide) (hts (.fieldLink RX2 18 "ChalkSlateModel" "then" "LChalkSlateModel$State;") (by decide +kernel)) (fun _ h9 => h9) rfl dX2_would_82 ?_
    refine va_getN (D := D) (ci := 1) (v := .int ((fallM2 M dr).2.2)) (C := RX1) (T := TX1) (N := 15) hx hb hts inX2_would_1 hown hK.1 hP 11 rfl rfl 12 (by decide) (va_Nw.use rfl hK.2.2.2.2.2.2.2.2.2.2.2.2.2.1) (fun _ h9 => h9) rfl dX2_would_85 ?_
    refine va_iast hx hb hK9 hP hD hS 21 1 rfl rfl (vp_in_nI (n := 3) (by omega) (by omega)) dX2_would_88 (fun H locs hP hD hS => ?_)
    have hP : va_P D vwCl (cW q b cy M n dr an fi ba mo 0 nd fl q2 b2 ((fallM3 M nd dr).1) ((fallM3 M nd dr).2.1) dr ((fallM2 M dr).2.1) ((fallM2 M dr).2.2) ((fallM3 M nd dr).2.2) ++ [(q9, .inl (cA, 5, .inl (upd (upd (upd (upd (fun _ => 0) 0 ((nI n) - (nI dr))) 1 ((fallM2 M dr).2.1)) 2 ((fallM3 M nd dr).2.2)) 3 ((fallM2 M dr).2.2))))]) H := hP
    have hD : va_D A (cW q b cy M n dr an fi ba mo 0 nd fl q2 b2 ((fallM3 M nd dr).1) ((fallM3 M nd dr).2.1) dr ((fallM2 M dr).2.1) ((fallM2 M dr).2.2) ((fallM3 M nd dr).2.2) ++ [(q9, .inl (cA, 5, .inl (upd (upd (upd (upd (fun _ => 0) 0 ((nI n) - (nI dr))) 1 ((fallM2 M dr).2.1)) 2 ((fallM3 M nd dr).2.2)) 3 ((fallM2 M dr).2.2))))]) := hD
    refine lv_dup hx hb dX2_would_89 rfl ?_
    refine lv_iconst (v := 4) hx hb dX2_would_90 (by decide) ?_
    refine lv_aload_n hx hb dX2_would_91 rfl (lv_at hl 0 rfl) ?_
    refine va_get (D := D) (ci := 2) (v := .ref q2) (C := RX2) (T := TX2) (N := 5) hx hb hts inX2_would_2 hown hK.1 hP 10 rfl rfl 4 (by decide) (hts (.fieldLink RX2 18 "ChalkSlateModel" "then" "LChalkSlateModel$State;") (by decide +kernel)) (fun _ h9 => h9) rfl dX2_would_92 ?_
    refine lv_iconst (v := 3) hx hb dX2_would_95 (by decide) ?_
    refine rd_V (q := (RX1, TX1, 15)) (ci := 1) (q0 := 0) (As := [.int 3]) (rest := [.int 4, .ref q9, .ref q9]) ⟨hx, hb, hml, hown, hts⟩ (mX1_are l D cy q2 b2 ((fallM3 M nd dr).1) ((fallM3 M nd dr).2.1) dr ((fallM2 M dr).2.1) ((fallM2 M dr).2.2) ((fallM3 M nd dr).2.2) mo 0 nd fl q q2 3 (by omega) (by omega) (by omega)) (cwV 1 hts gX2_would_X1_are rfl rfl rfl (by decide +kernel) ⟨Nat.le_of_ble_eq_true rfl, Nat.le_of_ble_eq_true rfl⟩) (hP.sub (ws' := cSM q2 b2 cy ((fallM3 M nd dr).1) ((fallM3 M nd dr).2.1) dr ((fallM2 M dr).2.1) ((fallM2 M dr).2.2) ((fallM3 M nd dr).2.2) mo 0 nd fl q q2) [11, 12, 13, 14, 15, 16, 17, 18, 19, 20, 10] rfl) hK rfl rfl rfl hl.1 rfl (Nat.le_of_ble_eq_true rfl) dX2_would_96 (Nat.le_of_ble_eq_true rfl) (Nat.le_of_ble_eq_true rfl) ?_
    refine lv_aload_n hx hb dX2_would_99 rfl (lv_at hl 0 rfl) ?_
    refine va_get (D := D) (ci := 2) (v := .ref q) (C := RX2) (T := TX2) (N := 5) hx hb hts inX2_would_2 hown hK.1 hP 10 rfl rfl 3 (by decide) (hts (.fieldLink RX2 12 "ChalkSlateModel" "s" "LChalkSlateModel$State;") (by decide +kernel)) (fun _ h9 => h9) rfl dX2_would_100 ?_
    refine lv_iconst (v := 3) hx hb dX2_would_103 (by decide) ?_
    refine rd_V (q := (RX1, TX1, 15)) (ci := 1) (q0 := 0) (As := [.int 3]) (rest := [.int (areM ((fallM3 M nd dr).1) ((fallM3 M nd dr).2.1) 3 nd), .int 4, .ref q9, .ref q9]) ⟨hx, hb, hml, hown, hts⟩ (mX1_are l D cy q b M n dr an fi ba mo 0 nd fl q q2 3 (by omega) (by omega) (by omega)) (cwV 1 hts gX2_would_X1_are rfl rfl rfl (by decide +kernel) ⟨Nat.le_of_ble_eq_true rfl, Nat.le_of_ble_eq_true rfl⟩) (hP.sub (ws' := cSM q b cy M n dr an fi ba mo 0 nd fl q q2) [0, 1, 2, 3, 4, 5, 6, 7, 8, 9, 10] rfl) hK rfl rfl rfl hl.1 rfl (Nat.le_of_ble_eq_true rfl) dX2_would_104 (Nat.le_of_ble_eq_true rfl) (Nat.le_of_ble_eq_true rfl) ?_
    refine lv_isub hx hb dX2_would_107 ?_
    refine va_iast hx hb hK9 hP hD hS 21 1 rfl rfl (vp_in_nI (n := 4) (by omega) (by omega)) dX2_would_108 (fun H locs hP hD hS => ?_)
    have hP : va_P D vwCl (cW q b cy M n dr an fi ba mo 0 nd fl q2 b2 ((fallM3 M nd dr).1) ((fallM3 M nd dr).2.1) dr ((fallM2 M dr).2.1) ((fallM2 M dr).2.2) ((fallM3 M nd dr).2.2) ++ [(q9, .inl (cA, 5, .inl (upd (upd (upd (upd (upd (fun _ => 0) 0 ((nI n) - (nI dr))) 1 ((fallM2 M dr).2.1)) 2 ((fallM3 M nd dr).2.2)) 3 ((fallM2 M dr).2.2)) 4 ((areM ((fallM3 M nd dr).1) ((fallM3 M nd dr).2.1) 3 nd) - (areM M n 3 nd)))))]) H := hP
    have hD : va_D A (cW q b cy M n dr an fi ba mo 0 nd fl q2 b2 ((fallM3 M nd dr).1) ((fallM3 M nd dr).2.1) dr ((fallM2 M dr).2.1) ((fallM2 M dr).2.2) ((fallM3 M nd dr).2.2) ++ [(q9, .inl (cA, 5, .inl (upd (upd (upd (upd (upd (fun _ => 0) 0 ((nI n) - (nI dr))) 1 ((fallM2 M dr).2.1)) 2 ((fallM3 M nd dr).2.2)) 3 ((fallM2 M dr).2.2)) 4 ((areM ((fallM3 M nd dr).1) ((fallM3 M nd dr).2.1) 3 nd) - (areM M n 3 nd)))))]) := hD
    refine lv_astore_n (lv' := [(2, .ref q9), (0, .ref mo), (1, .int w)]) hx hb dX2_would_109 rfl hl (by decide) rfl (fun ls hl => ?_)
    refine lv_aload_n hx hb dX2_would_110 rfl (lv_at hl 0 rfl) ?_
    refine lv_iload_n hx hb dX2_would_111 rfl (lv_at hl 2 rfl) ?_
    refine va_iald hx hb hK9 hP 21 1 rfl rfl (isIn_vp (by decide) c1) dX2_would_112 ?_
    have hP : va_P D vwCl (cW q b cy M n dr an fi ba mo 0 nd fl q2 b2 ((fallM3 M nd dr).1) ((fallM3 M nd dr).2.1) dr ((fallM2 M dr).2.1) ((fallM2 M dr).2.2) ((fallM3 M nd dr).2.2)) H := hP.sub (ws' := cW q b cy M n dr an fi ba mo 0 nd fl q2 b2 ((fallM3 M nd dr).1) ((fallM3 M nd dr).2.1) dr ((fallM2 M dr).2.1) ((fallM2 M dr).2.2) ((fallM3 M nd dr).2.2)) [0, 1, 2, 3, 4, 5, 6, 7, 8, 9, 10, 11, 12, 13, 14, 15, 16, 17, 18, 19, 20] rfl
    exact W.iret (v := (upd (upd (upd (upd (upd (fun _ => 0) 0 ((nI n) - (nI dr))) 1 ((fallM2 M dr).2.1)) 2 ((fallM3 M nd dr).2.2)) 3 ((fallM2 M dr).2.2)) 4 ((areM ((fallM3 M nd dr).1) ((fallM3 M nd dr).2.1) 3 nd) - (areM M n 3 nd))) w.toNatClampNeg) hx hb hr (fun t ht hW => ⟨⟨((upd (upd (upd (upd (upd (fun _ => 0) 0 ((nI n) - (nI dr))) 1 ((fallM2 M dr).2.1)) 2 ((fallM3 M nd dr).2.2)) 3 ((fallM2 M dr).2.2)) 4 ((areM ((fallM3 M nd dr).1) ((fallM3 M nd dr).2.1) 3 nd) - (areM M n 3 nd))) w.toNatClampNeg), (), rfl, rfl, by show va_P D vwCl _ t.heap; rw [ht]; exact hP⟩, hS.F ht⟩) hS.2.2 dX2_would_113
  · exact absurd (show (0 : Int32) = 1 by rw [← hout, wouldT, if_pos c1]) (by decide)

set_option maxHeartbeats 4000000 in
set_option maxRecDepth 100000 in
theorem mX2_would_no (l : Launch) (D : va_G) (cy : ClassId) (q : Nat) (b : Nat → Nat) (M : Nat → Nat → Int32) (n dr : Nat) (an fi ba : Int32) (mo : Nat) (th : Int32) (nd : Nat) (fl : Int32) (tq : Nat) (w : Int32) (hnd : nd < 1000000) (hn : n ≤ 120) (hdr : dr ≤ 120) (k9 : Int32) (hout : wouldT w = k9) (hk9 : ¬ k9 = 0) (sz : Nat) : WrI l yX2_would wsX2_would 1 22 [.ref mo, .int w] D cy (cSM q b cy M n dr an fi ba mo th nd fl q tq) (cSM q b cy M n dr an fi ba mo k9 nd fl q tq) sz (0) := by
  refine Met.ofW (cc := cX2_would) (maxL := 3) (ret := (some .int)) (by decide) rfl ?_
  intro p e s m args below meth c s₁ B hml hv
  obtain ⟨rfl, hsz, hP, hK, hD0⟩ := hv
  have hx := B.exec
  have hb := B.bytes
  have hr := B.returns
  have hts := atoms_spec (ws := wsX2_would) B.pre
  have hown : s.vm.findClass RX2 = some m.cls := findClass_of_methodNamed B.named
  have hlocks := B.notSynchronized
  subst hsz
  have hD := hD0.self (sz := s.heap.size)
  generalize hAe : va_A (cSM q b cy M n dr an fi ba mo th nd fl q tq) s.heap.size = A at hD ⊢
  have hA : ∀ q : Nat, s.heap.size ≤ q → A q := fun q h => by rw [← hAe]; exact Or.inr h
  have hS : va_S A s.heap s.heap [] := va_S.rf
  have hl := lv_entry ([.ref mo, .int w]) (n := 3) (Nat.le_of_ble_eq_true rfl)
  rw [lg_entry_eq]
  generalize (lg_sl ([.ref mo, .int w]) ++ List.replicate (3 - (lg_sl ([.ref mo, .int w])).length) Slot.unset).toArray = ls at hl ⊢
  have hl : lv_has ls 3 [(0, .ref mo), (1, .int w)] := hl
  refine lv_aload_n hx hb dX2_would_0 rfl (lv_at hl 0 rfl) ?_
  refine lv_iconst (v := 0) hx hb dX2_would_1 (by decide) ?_
  refine va_put (D := D) (ci := 2) (v := .int 0) (ty := .int) (C := RX2) (T := TX2) (N := 5) hx hb hts inX2_would_2 tyX2 tyX2_ok nmX2 hown hK.1 hP hD hS 10 rfl rfl 0 (by decide) (hts (.fieldLink RX2 21 "ChalkSlateModel" "thrown" "I") (by decide +kernel)) (fun _ h9 => h9) rfl (by decide +kernel) rfl rfl (Nat.le_of_ble_eq_true rfl) dX2_would_2 (fun H locs hP hD hS => ?_)
  have hP : va_P D vwCl (cSM q b cy M n dr an fi ba mo 0 nd fl q tq) H := hP
  have hD : va_D A (cSM q b cy M n dr an fi ba mo 0 nd fl q tq) := hD
  refine lv_iload_n hx hb dX2_would_5 rfl (lv_at hl 1 rfl) ?_
  refine lv_iconst (v := 0) hx hb dX2_would_6 (by decide) ?_
  refine lv_iconst (v := 4) hx hb dX2_would_7 (by decide) ?_
  refine rd_S (As := [.int w, .int 0, .int 4]) (rest := []) ⟨hx, hb, hml, hown, hts⟩ (mX2_isIn l D cy w 0 4) (va_cwS 3 hts gX2_would_X2_isIn rfl rfl rfl (by decide +kernel) ⟨Nat.le_of_ble_eq_true rfl, Nat.le_of_ble_eq_true rfl⟩) (hP.sub (ws' := []) [] rfl) hK rfl hl.1 rfl (Nat.le_of_ble_eq_true rfl) dX2_would_8 (Nat.zero_le _) (Nat.zero_le _) ?_
  refine lv_if_ne (tgt := 20) hx hb dX2_would_11 (by decide) (fun c1 => ?_) (fun c1 => ?_)
  · exact absurd (show k9 = 0 by rw [← hout, wouldT, if_neg c1]) hk9
  · refine lv_aload_n hx hb dX2_would_14 rfl (lv_at hl 0 rfl) ?_
    refine lv_iconst (v := 1) hx hb dX2_would_15 (by decide) ?_
    refine wr_VI (q := (RX2, TX2, 5)) (ci := 2) (q0 := 10) (ws0' := cSM q b cy M n dr an fi ba mo 1 nd fl q tq) (As := [.int 1]) (rest := []) ⟨hx, hb, hml, hown, hts⟩ (fun sz => mX2_no l D cy q b M n dr an fi ba mo 0 nd fl tq 1 (by omega) (by omega) (by omega)  sz) (cwV 1 hts gX2_would_X2_no rfl rfl rfl (by decide +kernel) ⟨Nat.le_of_ble_eq_true rfl, Nat.le_of_ble_eq_true rfl⟩) hP hK hD hS hA [0, 1, 2, 3, 4, 5, 6, 7, 8, 9, 10] [] [0, 1, 2, 3, 4, 5, 6, 7, 8, 9, 10] rfl rfl rfl (by decide) rfl rfl rfl rfl rfl rfl rfl hl.1 rfl (Nat.le_of_ble_eq_true rfl) dX2_would_16 (Nat.zero_le _) (Nat.zero_le _) (fun H locs hP hD hS => ?_)
    have hk : k9 = 1 := by rw [← hout, wouldT, if_pos c1]
    subst hk
    exact W.iret (v := 0) hx hb hr (fun t ht hW => ⟨⟨0, (), rfl, rfl, by show va_P D vwCl _ t.heap; rw [ht]; exact hP⟩, hS.F ht⟩) hS.2.2 dX2_would_19

set_option maxRecDepth 100000 in
theorem inX2_left_2 : ∀ w ∈ wsX20, w ∈ wsX2_left := by decide +kernel

set_option maxRecDepth 100000 in
theorem inX2_left_1 : ∀ w ∈ wsX10, w ∈ wsX2_left := by decide +kernel

set_option maxHeartbeats 4000000 in
set_option maxRecDepth 100000 in
theorem mX2_left_ok (l : Launch) (D : va_G) (cy : ClassId) (q : Nat) (b : Nat → Nat) (M : Nat → Nat → Int32) (n dr : Nat) (an fi ba : Int32) (mo : Nat) (th : Int32) (nd : Nat) (fl : Int32) (q2 : Nat) (b2 : Nat → Nat) (M2 : Nat → Nat → Int32) (n2 dr2 : Nat) (an2 fi2 ba2 : Int32) (u : Int32) (hnd : nd ≤ 20) (hn : n ≤ 120) (hdr : dr ≤ 120) (hok : fallOk M nd dr) (h3 : (fallM3 M nd dr).2.1 ≤ 120) (hout : potT u = 0) (sz : Nat) : WrI l yX2_left wsX2_left 4 91 [.ref mo, .int u] D cy (cW q b cy M n dr an fi ba mo th nd fl q2 b2 M2 n2 dr2 an2 fi2 ba2) (cW q b cy M n dr an fi ba mo 0 nd fl q2 b2 ((fallM3 M nd dr).1) ((fallM3 M nd dr).2.1) dr ((fallM2 M dr).2.1) ((fallM2 M dr).2.2) ((fallM3 M nd dr).2.2)) sz ((fallM3 M nd dr).1 0 u.toNatClampNeg) := by
  refine Met.ofW (cc := cX2_left) (maxL := 2) (ret := (some .int)) (by decide) rfl ?_
  intro p e s m args below meth c s₁ B hml hv
  obtain ⟨rfl, hsz, hP, hK, hD0⟩ := hv
  have hx := B.exec
  have hb := B.bytes
  have hr := B.returns
  have hts := atoms_spec (ws := wsX2_left) B.pre
  have hown : s.vm.findClass RX2 = some m.cls := findClass_of_methodNamed B.named
  have hlocks := B.notSynchronized
  subst hsz
  have hD := hD0.self (sz := s.heap.size)
  generalize hAe : va_A (cW q b cy M n dr an fi ba mo th nd fl q2 b2 M2 n2 dr2 an2 fi2 ba2) s.heap.size = A at hD ⊢
  have hA : ∀ q : Nat, s.heap.size ≤ q → A q := fun q h => by rw [← hAe]; exact Or.inr h
  have hS : va_S A s.heap s.heap [] := va_S.rf
  have hl := lv_entry ([.ref mo, .int u]) (n := 2) (Nat.le_of_ble_eq_true rfl)
  rw [lg_entry_eq]
  generalize (lg_sl ([.ref mo, .int u]) ++ List.replicate (2 - (lg_sl ([.ref mo, .int u])).length) Slot.unset).toArray = ls at hl ⊢
  have hl : lv_has ls 2 [(0, .ref mo), (1, .int u)] := hl
  refine lv_aload_n hx hb dX2_left_0 rfl (lv_at hl 0 rfl) ?_
  refine lv_iconst (v := 0) hx hb dX2_left_1 (by decide) ?_
  refine va_put (D := D) (ci := 2) (v := .int 0) (ty := .int) (C := RX2) (T := TX2) (N := 5) hx hb hts inX2_left_2 tyX2 tyX2_ok nmX2 hown hK.1 hP hD hS 10 rfl rfl 0 (by decide) (hts (.fieldLink RX2 21 "ChalkSlateModel" "thrown" "I") (by decide +kernel)) (fun _ h9 => h9) rfl (by decide +kernel) rfl rfl (Nat.le_of_ble_eq_true rfl) dX2_left_2 (fun H locs hP hD hS => ?_)
  have hP : va_P D vwCl (cW q b cy M n dr an fi ba mo 0 nd fl q2 b2 M2 n2 dr2 an2 fi2 ba2) H := hP
  have hD : va_D A (cW q b cy M n dr an fi ba mo 0 nd fl q2 b2 M2 n2 dr2 an2 fi2 ba2) := hD
  refine lv_iload_n hx hb dX2_left_5 rfl (lv_at hl 1 rfl) ?_
  refine rd_S (As := [.int u]) (rest := []) ⟨hx, hb, hml, hown, hts⟩ (mX2_isPot l D cy u) (va_cwS 1 hts gX2_left_X2_isPot rfl rfl rfl (by decide +kernel) ⟨Nat.le_of_ble_eq_true rfl, Nat.le_of_ble_eq_true rfl⟩) (hP.sub (ws' := []) [] rfl) hK rfl hl.1 rfl (Nat.le_of_ble_eq_true rfl) dX2_left_6 (Nat.le_of_ble_eq_true rfl) (Nat.le_of_ble_eq_true rfl) ?_
  refine lv_if_ne (tgt := 18) hx hb dX2_left_9 (by decide) (fun c1 => ?_) (fun c1 => ?_)
  · refine lv_aload_n hx hb dX2_left_18 rfl (lv_at hl 0 rfl) ?_
    refine va_get (D := D) (ci := 2) (v := .ref q2) (C := RX2) (T := TX2) (N := 5) hx hb hts inX2_left_2 hown hK.1 hP 10 rfl rfl 4 (by decide) (hts (.fieldLink RX2 18 "ChalkSlateModel" "then" "LChalkSlateModel$State;") (by decide +kernel)) (fun _ h9 => h9) rfl dX2_left_19 ?_
    refine lv_aload_n hx hb dX2_left_22 rfl (lv_at hl 0 rfl) ?_
    refine va_get (D := D) (ci := 2) (v := .ref q) (C := RX2) (T := TX2) (N := 5) hx hb hts inX2_left_2 hown hK.1 hP 10 rfl rfl 3 (by decide) (hts (.fieldLink RX2 12 "ChalkSlateModel" "s" "LChalkSlateModel$State;") (by decide +kernel)) (fun _ h9 => h9) rfl dX2_left_23 ?_
    refine wr_VV (q := (RX1, TX1, 15)) (ci := 1) (q0 := 0) (ws0' := cW q b cy M n dr an fi ba mo 0 nd fl q2 b2 M n dr an2 fi2 ba2) (As := [.ref q]) (rest := []) ⟨hx, hb, hml, hown, hts⟩ (fun sz => mX1_become l D cy q b M n dr an fi ba mo q2 b2 M2 n2 dr2 an2 fi2 ba2 sz) (cwV 1 hts gX2_left_X1_become rfl rfl rfl (by decide +kernel) ⟨Nat.le_of_ble_eq_true rfl, Nat.le_of_ble_eq_true rfl⟩) hP hK hD hS hA [11, 12, 13, 14, 15, 16, 17, 18, 19, 20, 0, 1, 2, 3, 4, 5, 6, 7, 8, 9] [10] [11, 12, 13, 14, 15, 16, 17, 18, 19, 20, 0, 1, 2, 3, 4, 5, 6, 7, 8, 9, 10] rfl rfl rfl (by decide) rfl rfl rfl rfl rfl rfl rfl hl.1 rfl (Nat.le_of_ble_eq_true rfl) dX2_left_26 (Nat.le_of_ble_eq_true rfl) (Nat.le_of_ble_eq_true rfl) (fun H locs hP hD hS => ?_)
    refine lv_aload_n hx hb dX2_left_29 rfl (lv_at hl 0 rfl) ?_
    refine va_get (D := D) (ci := 2) (v := .ref q2) (C := RX2) (T := TX2) (N := 5) hx hb hts inX2_left_2 hown hK.1 hP 10 rfl rfl 4 (by decide) (hts (.fieldLink RX2 18 "ChalkSlateModel" "then" "LChalkSlateModel$State;") (by decide +kernel)) (fun _ h9 => h9) rfl dX2_left_30 ?_
    refine wr_VV (q := (RX1, TX1, 15)) (ci := 1) (q0 := 0) (ws0' := cW q b cy M n dr an fi ba mo 0 nd fl q2 b2 ((fallM3 M nd dr).1) ((fallM3 M nd dr).2.1) dr ((fallM2 M dr).2.1) ((fallM2 M dr).2.2) ((fallM3 M nd dr).2.2)) (As := []) (rest := []) ⟨hx, hb, hml, hown, hts⟩ (fun sz => mX1_fall l D cy q2 b2 M n dr an2 fi2 ba2 mo 0 nd fl q q2 (by omega) hn hdr hok sz) (cwV 0 hts gX2_left_X1_fall rfl rfl rfl (by decide +kernel) ⟨Nat.le_of_ble_eq_true rfl, Nat.le_of_ble_eq_true rfl⟩) hP hK hD hS hA [11, 12, 13, 14, 15, 16, 17, 18, 19, 20, 10] [0, 1, 2, 3, 4, 5, 6, 7, 8, 9] [0, 1, 2, 3, 4, 5, 6, 7, 8, 9, 20, 10, 11, 12, 13, 14, 15, 16, 17, 18, 19] rfl rfl rfl (by decide) rfl rfl rfl rfl rfl rfl rfl hl.1 rfl (Nat.le_of_ble_eq_true rfl) dX2_left_33 (Nat.le_of_ble_eq_true rfl) (Nat.le_of_ble_eq_true rfl) (fun H locs hP hD hS => ?_)
    refine lv_aload_n hx hb dX2_left_36 rfl (lv_at hl 0 rfl) ?_
    refine va_get (D := D) (ci := 2) (v := .ref q2) (C := RX2) (T := TX2) (N := 5) hx hb hts inX2_left_2 hown hK.1 hP 10 rfl rfl 4 (by decide) (hts (.fieldLink RX2 18 "ChalkSlateModel" "then" "LChalkSlateModel$State;") (by decide +kernel)) (fun _ h9 => h9) rfl dX2_left_37 ?_
    refine va_getN (D := D) (ci := 1) (v := .ref (b2 0)) (C := RX1) (T := TX1) (N := 15) hx hb hts inX2_left_1 hown hK.1 hP 11 rfl rfl 2 (by decide) (va_Nw.use rfl hK.2.2.2.1) (fun _ h9 => h9) rfl dX2_left_40 ?_
    refine lv_iload_n hx hb dX2_left_43 rfl (lv_at hl 1 rfl) ?_
    refine va_iald hx hb hK.1 hP 12 0 rfl rfl (isIn_vp (by decide) c1) dX2_left_44 ?_
    exact W.iret (v := (((fallM3 M nd dr).1) 0) u.toNatClampNeg) hx hb hr (fun t ht hW => ⟨⟨((((fallM3 M nd dr).1) 0) u.toNatClampNeg), (), rfl, rfl, by show va_P D vwCl _ t.heap; rw [ht]; exact hP⟩, hS.F ht⟩) hS.2.2 dX2_left_45
  · exact absurd (show (0 : Int32) = 1 by rw [← hout, potT, if_pos c1]) (by decide)

set_option maxHeartbeats 4000000 in
set_option maxRecDepth 100000 in
theorem mX2_left_no (l : Launch) (D : va_G) (cy : ClassId) (q : Nat) (b : Nat → Nat) (M : Nat → Nat → Int32) (n dr : Nat) (an fi ba : Int32) (mo : Nat) (th : Int32) (nd : Nat) (fl : Int32) (tq : Nat) (u : Int32) (hnd : nd < 1000000) (hn : n ≤ 120) (hdr : dr ≤ 120) (k9 : Int32) (hout : potT u = k9) (hk9 : ¬ k9 = 0) (sz : Nat) : WrI l yX2_left wsX2_left 2 42 [.ref mo, .int u] D cy (cSM q b cy M n dr an fi ba mo th nd fl q tq) (cSM q b cy M n dr an fi ba mo k9 nd fl q tq) sz (0) := by
  refine Met.ofW (cc := cX2_left) (maxL := 2) (ret := (some .int)) (by decide) rfl ?_
  intro p e s m args below meth c s₁ B hml hv
  obtain ⟨rfl, hsz, hP, hK, hD0⟩ := hv
  have hx := B.exec
  have hb := B.bytes
  have hr := B.returns
  have hts := atoms_spec (ws := wsX2_left) B.pre
  have hown : s.vm.findClass RX2 = some m.cls := findClass_of_methodNamed B.named
  have hlocks := B.notSynchronized
  subst hsz
  have hD := hD0.self (sz := s.heap.size)
  generalize hAe : va_A (cSM q b cy M n dr an fi ba mo th nd fl q tq) s.heap.size = A at hD ⊢
  have hA : ∀ q : Nat, s.heap.size ≤ q → A q := fun q h => by rw [← hAe]; exact Or.inr h
  have hS : va_S A s.heap s.heap [] := va_S.rf
  have hl := lv_entry ([.ref mo, .int u]) (n := 2) (Nat.le_of_ble_eq_true rfl)
  rw [lg_entry_eq]
  generalize (lg_sl ([.ref mo, .int u]) ++ List.replicate (2 - (lg_sl ([.ref mo, .int u])).length) Slot.unset).toArray = ls at hl ⊢
  have hl : lv_has ls 2 [(0, .ref mo), (1, .int u)] := hl
  refine lv_aload_n hx hb dX2_left_0 rfl (lv_at hl 0 rfl) ?_
  refine lv_iconst (v := 0) hx hb dX2_left_1 (by decide) ?_
  refine va_put (D := D) (ci := 2) (v := .int 0) (ty := .int) (C := RX2) (T := TX2) (N := 5) hx hb hts inX2_left_2 tyX2 tyX2_ok nmX2 hown hK.1 hP hD hS 10 rfl rfl 0 (by decide) (hts (.fieldLink RX2 21 "ChalkSlateModel" "thrown" "I") (by decide +kernel)) (fun _ h9 => h9) rfl (by decide +kernel) rfl rfl (Nat.le_of_ble_eq_true rfl) dX2_left_2 (fun H locs hP hD hS => ?_)
  have hP : va_P D vwCl (cSM q b cy M n dr an fi ba mo 0 nd fl q tq) H := hP
  have hD : va_D A (cSM q b cy M n dr an fi ba mo 0 nd fl q tq) := hD
  refine lv_iload_n hx hb dX2_left_5 rfl (lv_at hl 1 rfl) ?_
  refine rd_S (As := [.int u]) (rest := []) ⟨hx, hb, hml, hown, hts⟩ (mX2_isPot l D cy u) (va_cwS 1 hts gX2_left_X2_isPot rfl rfl rfl (by decide +kernel) ⟨Nat.le_of_ble_eq_true rfl, Nat.le_of_ble_eq_true rfl⟩) (hP.sub (ws' := []) [] rfl) hK rfl hl.1 rfl (Nat.le_of_ble_eq_true rfl) dX2_left_6 (Nat.zero_le _) (Nat.zero_le _) ?_
  refine lv_if_ne (tgt := 18) hx hb dX2_left_9 (by decide) (fun c1 => ?_) (fun c1 => ?_)
  · exact absurd (show k9 = 0 by rw [← hout, potT, if_neg c1]) hk9
  · refine lv_aload_n hx hb dX2_left_12 rfl (lv_at hl 0 rfl) ?_
    refine lv_iconst (v := 1) hx hb dX2_left_13 (by decide) ?_
    refine wr_VI (q := (RX2, TX2, 5)) (ci := 2) (q0 := 10) (ws0' := cSM q b cy M n dr an fi ba mo 1 nd fl q tq) (As := [.int 1]) (rest := []) ⟨hx, hb, hml, hown, hts⟩ (fun sz => mX2_no l D cy q b M n dr an fi ba mo 0 nd fl tq 1 (by omega) (by omega) (by omega)  sz) (cwV 1 hts gX2_left_X2_no rfl rfl rfl (by decide +kernel) ⟨Nat.le_of_ble_eq_true rfl, Nat.le_of_ble_eq_true rfl⟩) hP hK hD hS hA [0, 1, 2, 3, 4, 5, 6, 7, 8, 9, 10] [] [0, 1, 2, 3, 4, 5, 6, 7, 8, 9, 10] rfl rfl rfl (by decide) rfl rfl rfl rfl rfl rfl rfl hl.1 rfl (Nat.le_of_ble_eq_true rfl) dX2_left_14 (Nat.zero_le _) (Nat.zero_le _) (fun H locs hP hD hS => ?_)
    have hk : k9 = 1 := by rw [← hout, potT, if_pos c1]
    subst hk
    exact W.iret (v := 0) hx hb hr (fun t ht hW => ⟨⟨0, (), rfl, rfl, by show va_P D vwCl _ t.heap; rw [ht]; exact hP⟩, hS.F ht⟩) hS.2.2 dX2_left_17
