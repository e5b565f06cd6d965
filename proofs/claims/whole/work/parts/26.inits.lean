set_option maxHeartbeats 4000000 in
set_option maxRecDepth 100000 in
theorem mJ7_fill_53178 (l : Launch) (D : va_G) (cy : ClassId) (q z : Nat) (f : Nat → Int32) (x : Int32) (hz : z < 1000000) (sz : Nat) : WrV l yJ7_fill_53178 wsJ7_fill_53178 0 0 [.ref q, .int x] D cy ([(q, .inl (cy, z, .inl f))]) ([(q, .inl (cy, z, .inl (fillP x f z)))]) sz := by
  refine Met.ofW (cc := cJ7_fill_53178) (maxL := 4) (ret := none) (by decide) rfl ?_
  intro p e s m args below meth c s₁ B hml hv
  obtain ⟨rfl, hsz, hP, hK, hD0⟩ := hv
  have hx := B.exec
  have hb := B.bytes
  have hr := B.returns
  have hts := atoms_spec (ws := wsJ7_fill_53178) B.pre
  have hown : s.vm.findClass RJ7 = some m.cls := findClass_of_methodNamed B.named
  have hlocks := B.notSynchronized
  subst hsz
  have hD := hD0.self (sz := s.heap.size)
  generalize hAe : va_A ([(q, .inl (cy, z, .inl f))]) s.heap.size = A at hD ⊢
  have hA : ∀ q : Nat, s.heap.size ≤ q → A q := fun q h => by rw [← hAe]; exact Or.inr h
  have hS : va_S A s.heap s.heap [] := va_S.rf
  have hl := lv_entry ([.ref q, .int x]) (n := 4) (Nat.le_of_ble_eq_true rfl)
  rw [lg_entry_eq]
  generalize (lg_sl ([.ref q, .int x]) ++ List.replicate (4 - (lg_sl ([.ref q, .int x])).length) Slot.unset).toArray = ls at hl ⊢
  have hl : lv_has ls 4 [(0, .ref q), (1, .int x)] := hl
  refine lv_iconst (v := 0) hx hb dJ7_fill_53178_0 (by decide) ?_
  refine lv_istore_n (lv' := [(2, .int 0), (0, .ref q), (1, .int x)]) hx hb dJ7_fill_53178_1 rfl hl (by decide) rfl (fun ls hl => ?_)
  refine lv_aload_n hx hb dJ7_fill_53178_2 rfl (lv_at hl 1 rfl) ?_
  refine va_alen hx hb hK.1 hP 0 0 rfl rfl (v := nI z) rfl dJ7_fill_53178_3 ?_
  refine lv_istore_n (lv' := [(3, .int (nI z)), (2, .int 0), (0, .ref q), (1, .int x)]) hx hb dJ7_fill_53178_4 rfl hl (by decide) rfl (fun ls hl => ?_)
  have loop : ∀ (k i : Nat) (f0 : Nat → Int32), i + k = z → f0 = fillP x f i → ∀ (H : Heap) (locs : List Loc), va_P D vwCl ([(q, .inl (cy, z, .inl f0))]) H → va_D A ([(q, .inl (cy, z, .inl f0))]) → va_S A s.heap H locs → ∀ ls : Array Slot, lv_has ls 4 [(0, .ref q), (1, .int x), (2, .int (nI i)), (3, .int (nI z))] → W p l e (headSpec wsJ7_fill_53178 { frames := 0, cells := 0, slots := 0, locals := 0 }).room s m ([.ref q, .int x] : List Value).toArray below meth c H locs 0 0 (MQ below (va_Qv (fun _ : Unit => True) (fun _ t => va_P D vwCl ([(q, .inl (cy, z, .inl (fillP x f z)))]) t.heap) A) ([.ref q, .int x] : List Value).toArray s 0 0 A) (F0 m 5 ls []) := by
    intro k
    induction k with
    | zero =>
      intro i f0 hik hf H locs hP hD hS ls hl
      have hin : i = z := by omega
      refine lv_iload_n hx hb dJ7_fill_53178_5 rfl (lv_at hl 2 rfl) ?_
      refine lv_iload_n hx hb dJ7_fill_53178_6 rfl (lv_at hl 3 rfl) ?_
      refine lv_icmp_ge (tgt := 20) hx hb dJ7_fill_53178_7 (by decide) (fun c1 => ?_) (fun c1 => absurd (nI_le (by omega) (by omega)) c1)
      have hP : va_P D vwCl [(q, .inl (cy, z, .inl (fillP x f z)))] H := by rw [show fillP x f z = f0 by rw [hf, hin]]; exact hP
      exact W.vret hx hb hr (fun t ht hW => ⟨⟨(), rfl, trivial, by show va_P D vwCl _ t.heap; rw [ht]; exact hP⟩, hS.F ht⟩) hS.2.2 dJ7_fill_53178_20
    | succ k ih =>
      intro i f0 hik hf H locs hP hD hS ls hl
      refine lv_iload_n hx hb dJ7_fill_53178_5 rfl (lv_at hl 2 rfl) ?_
      refine lv_iload_n hx hb dJ7_fill_53178_6 rfl (lv_at hl 3 rfl) ?_
      refine lv_icmp_ge (tgt := 20) hx hb dJ7_fill_53178_7 (by decide) (fun c2 => absurd c2 (nI_ge (by omega) (by omega))) (fun c2 => ?_)
      refine lv_aload_n hx hb dJ7_fill_53178_10 rfl (lv_at hl 0 rfl) ?_
      refine lv_iload_n hx hb dJ7_fill_53178_11 rfl (lv_at hl 2 rfl) ?_
      refine lv_iload_n hx hb dJ7_fill_53178_12 rfl (lv_at hl 1 rfl) ?_
      refine va_iast hx hb hK.1 hP hD hS 0 0 rfl rfl (vp_in_nI (by omega) (by omega)) dJ7_fill_53178_13 (fun H locs hP hD hS => ?_)
      rw [nI_clamp (n := i) (by omega)] at hP hD
      have hP : va_P D vwCl ([(q, .inl (cy, z, .inl (upd f0 i x)))]) H := hP
      have hD : va_D A ([(q, .inl (cy, z, .inl (upd f0 i x)))]) := hD
      refine lv_iinc (v := nI (i + 1)) (lv' := [(2, .int (nI (i + 1))), (0, .ref q), (1, .int x), (3, .int (nI z))]) hx hb dJ7_fill_53178_14 hl (k := 2) rfl ((nI_succ i).symm) (by decide) rfl (fun ls hl => ?_)
      refine lv_goto (tgt := 5) hx hb dJ7_fill_53178_17 (by decide) ?_
      exact ih (i + 1) (upd f0 i x) (by omega) (by rw [fillP, ← hf]) H locs hP hD hS ls (lv_sub hl [1, 2, 0, 3] rfl)
  exact loop z 0 f (Nat.zero_add _) (rfl) s.heap [] hP hD hS ls (lv_sub hl [2, 3, 1, 0] rfl)

set_option maxRecDepth 100000 in
theorem inX0_init_0 : ∀ w ∈ wsX00, w ∈ wsX0_init := by decide +kernel

set_option maxHeartbeats 4000000 in
set_option maxRecDepth 100000 in
theorem mX0_init (l : Launch) (D : va_G) (cy : ClassId) (h : Nat) (sz : Nat) : Met l yX0_init wsX0_init { frames := 1, cells := 11, slots := 884, locals := 23 } (va_Pc [.ref h] (wrB D cy ([(h, .inr (0, [.null, .null, .null, .null, .int 0, .null, .null, .null, .null, .null, .null, .null, .int 0, .int 0, .int 0]))]) sz)) (va_Qv (fun _ : (Nat → Nat) => True) (fun u t => va_P D vwCl (cC h u cy initR 0 0 0 0) t.heap ∧ va_D (va_A ([(h, .inr (0, [.null, .null, .null, .null, .int 0, .null, .null, .null, .null, .null, .null, .null, .int 0, .int 0, .int 0]))]) sz) (cC h u cy initR 0 0 0 0)) (va_A ([(h, .inr (0, [.null, .null, .null, .null, .int 0, .null, .null, .null, .null, .null, .null, .null, .int 0, .int 0, .int 0]))]) sz)) 11 884 (va_A ([(h, .inr (0, [.null, .null, .null, .null, .int 0, .null, .null, .null, .null, .null, .null, .null, .int 0, .int 0, .int 0]))]) sz) := by
  refine Met.ofW (cc := cX0_init) (maxL := 1) (ret := none) (by decide) rfl ?_
  intro p e s m args below meth c s₁ B hml hv
  obtain ⟨rfl, hsz, hP, hK, hD0⟩ := hv
  have hx := B.exec
  have hb := B.bytes
  have hr := B.returns
  have hts := atoms_spec (ws := wsX0_init) B.pre
  have hown : s.vm.findClass RX0 = some m.cls := findClass_of_methodNamed B.named
  have hlocks := B.notSynchronized
  have hin : meth.name = "<init>" := (name_of_methodNamed B.named B.method).1
  subst hsz
  have hD := hD0.self (sz := s.heap.size)
  generalize hAe : va_A ([(h, .inr (0, [.null, .null, .null, .null, .int 0, .null, .null, .null, .null, .null, .null, .null, .int 0, .int 0, .int 0]))]) s.heap.size = A at hD ⊢
  have hA : ∀ q : Nat, s.heap.size ≤ q → A q := fun q h => by rw [← hAe]; exact Or.inr h
  have hS : va_S A s.heap s.heap [] := va_S.rf
  have hl := lv_entry ([.ref h]) (n := 1) (Nat.le_of_ble_eq_true rfl)
  rw [lg_entry_eq]
  generalize (lg_sl ([.ref h]) ++ List.replicate (1 - (lg_sl ([.ref h])).length) Slot.unset).toArray = ls at hl ⊢
  have hl : lv_has ls 1 [(0, .ref h)] := hl
  refine lv_aload_n hx hb dX0_init_0 rfl (lv_at hl 0 rfl) ?_
  refine W.objInit hx hb hown (hts (.methodLink RX0 1 objectInit) (by decide +kernel)) (hts (.instanceMethod objectInit) (by decide +kernel)) (hts (.code objectInit ⟨#[0xb1]⟩ 1 none) (by decide +kernel)) rfl (by rw [hml]; exact hl.1) rfl dX0_init_1 (Nat.le_of_ble_eq_true rfl) (Nat.le_of_ble_eq_true rfl) ?_
  refine W.eq (g2 := F0 m 4 ls []) rfl ?_
  refine lv_aload_n hx hb dX0_init_4 rfl (lv_at hl 0 rfl) ?_
  refine lv_bipush (v := 8) hx hb dX0_init_5 (by decide) ?_
  refine va_newa (atype := .int) (N' := 8) (a0 := (8, .inl (fun _ => 0))) hx hb (hts (.arrayClass .int) (by decide +kernel)) rfl hK.1 hP hD hS hA (fun _ => rfl) (by decide) (by decide) (by decide) (Nat.le_of_ble_eq_true rfl) (Nat.le_of_ble_eq_true rfl) dX0_init_7 (fun q1 cA H hK9 hP hD hS => ?_)
  rw [show cA = cy from Option.some.inj ((hK9.2 1 _ rfl).2.symm.trans (hK9.2 0 _ rfl).2)] at hP hD
  have hP : va_P D vwCl ([(h, .inr (0, [.null, .null, .null, .null, .int 0, .null, .null, .null, .null, .null, .null, .null, .int 0, .int 0, .int 0])), (q1, .inl (cy, 8, .inl (fun _ => 0)))]) H := hP
  have hD : va_D A ([(h, .inr (0, [.null, .null, .null, .null, .int 0, .null, .null, .null, .null, .null, .null, .null, .int 0, .int 0, .int 0])), (q1, .inl (cy, 8, .inl (fun _ => 0)))]) := hD
  refine va_putF (D := D) (ci := 0) (v := .ref q1) (ty := .array .int) (C := RX0) (T := TX0) (N := 15) hx hb hts inX0_init_0 tyX0 tyX0_ok nmX0 hown hK.1 hP hD hS 0 rfl rfl 0 (by decide) (hts (.fieldLink RX0 9 "ChalkSlate" "stove" "[I") (by decide +kernel)) (fun _ h9 => h9) rfl hin rfl (by decide +kernel) rfl rfl (Nat.le_of_ble_eq_true rfl) dX0_init_9 (fun H locs hP hD hS => ?_)
  have hP : va_P D vwCl ([(h, .inr (0, [.ref q1, .null, .null, .null, .int 0, .null, .null, .null, .null, .null, .null, .null, .int 0, .int 0, .int 0])), (q1, .inl (cy, 8, .inl (fun _ => 0)))]) H := hP
  have hD : va_D A ([(h, .inr (0, [.ref q1, .null, .null, .null, .int 0, .null, .null, .null, .null, .null, .null, .null, .int 0, .int 0, .int 0])), (q1, .inl (cy, 8, .inl (fun _ => 0)))]) := hD
  refine lv_aload_n hx hb dX0_init_12 rfl (lv_at hl 0 rfl) ?_
  refine lv_bipush (v := 8) hx hb dX0_init_13 (by decide) ?_
  refine va_newa (atype := .int) (N' := 8) (a0 := (8, .inl (fun _ => 0))) hx hb (hts (.arrayClass .int) (by decide +kernel)) rfl hK.1 hP hD hS hA (fun _ => rfl) (by decide) (by decide) (by decide) (Nat.le_of_ble_eq_true rfl) (Nat.le_of_ble_eq_true rfl) dX0_init_15 (fun q2 cA H hK9 hP hD hS => ?_)
  rw [show cA = cy from Option.some.inj ((hK9.2 1 _ rfl).2.symm.trans (hK9.2 0 _ rfl).2)] at hP hD
  have hP : va_P D vwCl ([(h, .inr (0, [.ref q1, .null, .null, .null, .int 0, .null, .null, .null, .null, .null, .null, .null, .int 0, .int 0, .int 0])), (q1, .inl (cy, 8, .inl (fun _ => 0))), (q2, .inl (cy, 8, .inl (fun _ => 0)))]) H := hP
  have hD : va_D A ([(h, .inr (0, [.ref q1, .null, .null, .null, .int 0, .null, .null, .null, .null, .null, .null, .null, .int 0, .int 0, .int 0])), (q1, .inl (cy, 8, .inl (fun _ => 0))), (q2, .inl (cy, 8, .inl (fun _ => 0)))]) := hD
  refine va_putF (D := D) (ci := 0) (v := .ref q2) (ty := .array .int) (C := RX0) (T := TX0) (N := 15) hx hb hts inX0_init_0 tyX0 tyX0_ok nmX0 hown hK.1 hP hD hS 0 rfl rfl 1 (by decide) (hts (.fieldLink RX0 13 "ChalkSlate" "shelf" "[I") (by decide +kernel)) (fun _ h9 => h9) rfl hin rfl (by decide +kernel) rfl rfl (Nat.le_of_ble_eq_true rfl) dX0_init_17 (fun H locs hP hD hS => ?_)
  have hP : va_P D vwCl ([(h, .inr (0, [.ref q1, .ref q2, .null, .null, .int 0, .null, .null, .null, .null, .null, .null, .null, .int 0, .int 0, .int 0])), (q1, .inl (cy, 8, .inl (fun _ => 0))), (q2, .inl (cy, 8, .inl (fun _ => 0)))]) H := hP
  have hD : va_D A ([(h, .inr (0, [.ref q1, .ref q2, .null, .null, .int 0, .null, .null, .null, .null, .null, .null, .null, .int 0, .int 0, .int 0])), (q1, .inl (cy, 8, .inl (fun _ => 0))), (q2, .inl (cy, 8, .inl (fun _ => 0)))]) := hD
  refine lv_aload_n hx hb dX0_init_20 rfl (lv_at hl 0 rfl) ?_
  refine lv_bipush (v := 8) hx hb dX0_init_21 (by decide) ?_
  refine va_newa (atype := .int) (N' := 8) (a0 := (8, .inl (fun _ => 0))) hx hb (hts (.arrayClass .int) (by decide +kernel)) rfl hK.1 hP hD hS hA (fun _ => rfl) (by decide) (by decide) (by decide) (Nat.le_of_ble_eq_true rfl) (Nat.le_of_ble_eq_true rfl) dX0_init_23 (fun q3 cA H hK9 hP hD hS => ?_)
  rw [show cA = cy from Option.some.inj ((hK9.2 1 _ rfl).2.symm.trans (hK9.2 0 _ rfl).2)] at hP hD
  have hP : va_P D vwCl ([(h, .inr (0, [.ref q1, .ref q2, .null, .null, .int 0, .null, .null, .null, .null, .null, .null, .null, .int 0, .int 0, .int 0])), (q1, .inl (cy, 8, .inl (fun _ => 0))), (q2, .inl (cy, 8, .inl (fun _ => 0))), (q3, .inl (cy, 8, .inl (fun _ => 0)))]) H := hP
  have hD : va_D A ([(h, .inr (0, [.ref q1, .ref q2, .null, .null, .int 0, .null, .null, .null, .null, .null, .null, .null, .int 0, .int 0, .int 0])), (q1, .inl (cy, 8, .inl (fun _ => 0))), (q2, .inl (cy, 8, .inl (fun _ => 0))), (q3, .inl (cy, 8, .inl (fun _ => 0)))]) := hD
  refine va_putF (D := D) (ci := 0) (v := .ref q3) (ty := .array .int) (C := RX0) (T := TX0) (N := 15) hx hb hts inX0_init_0 tyX0 tyX0_ok nmX0 hown hK.1 hP hD hS 0 rfl rfl 2 (by decide) (hts (.fieldLink RX0 16 "ChalkSlate" "stamp" "[I") (by decide +kernel)) (fun _ h9 => h9) rfl hin rfl (by decide +kernel) rfl rfl (Nat.le_of_ble_eq_true rfl) dX0_init_25 (fun H locs hP hD hS => ?_)
  have hP : va_P D vwCl ([(h, .inr (0, [.ref q1, .ref q2, .ref q3, .null, .int 0, .null, .null, .null, .null, .null, .null, .null, .int 0, .int 0, .int 0])), (q1, .inl (cy, 8, .inl (fun _ => 0))), (q2, .inl (cy, 8, .inl (fun _ => 0))), (q3, .inl (cy, 8, .inl (fun _ => 0)))]) H := hP
  have hD : va_D A ([(h, .inr (0, [.ref q1, .ref q2, .ref q3, .null, .int 0, .null, .null, .null, .null, .null, .null, .null, .int 0, .int 0, .int 0])), (q1, .inl (cy, 8, .inl (fun _ => 0))), (q2, .inl (cy, 8, .inl (fun _ => 0))), (q3, .inl (cy, 8, .inl (fun _ => 0)))]) := hD
  refine lv_aload_n hx hb dX0_init_28 rfl (lv_at hl 0 rfl) ?_
  refine lv_bipush (v := 20) hx hb dX0_init_29 (by decide) ?_
  refine va_newa (atype := .int) (N' := 20) (a0 := (20, .inl (fun _ => 0))) hx hb (hts (.arrayClass .int) (by decide +kernel)) rfl hK.1 hP hD hS hA (fun _ => rfl) (by decide) (by decide) (by decide) (Nat.le_of_ble_eq_true rfl) (Nat.le_of_ble_eq_true rfl) dX0_init_31 (fun q4 cA H hK9 hP hD hS => ?_)
  rw [show cA = cy from Option.some.inj ((hK9.2 1 _ rfl).2.symm.trans (hK9.2 0 _ rfl).2)] at hP hD
  have hP : va_P D vwCl ([(h, .inr (0, [.ref q1, .ref q2, .ref q3, .null, .int 0, .null, .null, .null, .null, .null, .null, .null, .int 0, .int 0, .int 0])), (q1, .inl (cy, 8, .inl (fun _ => 0))), (q2, .inl (cy, 8, .inl (fun _ => 0))), (q3, .inl (cy, 8, .inl (fun _ => 0))), (q4, .inl (cy, 20, .inl (fun _ => 0)))]) H := hP
  have hD : va_D A ([(h, .inr (0, [.ref q1, .ref q2, .ref q3, .null, .int 0, .null, .null, .null, .null, .null, .null, .null, .int 0, .int 0, .int 0])), (q1, .inl (cy, 8, .inl (fun _ => 0))), (q2, .inl (cy, 8, .inl (fun _ => 0))), (q3, .inl (cy, 8, .inl (fun _ => 0))), (q4, .inl (cy, 20, .inl (fun _ => 0)))]) := hD
  refine va_putF (D := D) (ci := 0) (v := .ref q4) (ty := .array .int) (C := RX0) (T := TX0) (N := 15) hx hb hts inX0_init_0 tyX0 tyX0_ok nmX0 hown hK.1 hP hD hS 0 rfl rfl 3 (by decide) (hts (.fieldLink RX0 19 "ChalkSlate" "dishState" "[I") (by decide +kernel)) (fun _ h9 => h9) rfl hin rfl (by decide +kernel) rfl rfl (Nat.le_of_ble_eq_true rfl) dX0_init_33 (fun H locs hP hD hS => ?_)
  have hP : va_P D vwCl ([(h, .inr (0, [.ref q1, .ref q2, .ref q3, .ref q4, .int 0, .null, .null, .null, .null, .null, .null, .null, .int 0, .int 0, .int 0])), (q1, .inl (cy, 8, .inl (fun _ => 0))), (q2, .inl (cy, 8, .inl (fun _ => 0))), (q3, .inl (cy, 8, .inl (fun _ => 0))), (q4, .inl (cy, 20, .inl (fun _ => 0)))]) H := hP
  have hD : va_D A ([(h, .inr (0, [.ref q1, .ref q2, .ref q3, .ref q4, .int 0, .null, .null, .null, .null, .null, .null, .null, .int 0, .int 0, .int 0])), (q1, .inl (cy, 8, .inl (fun _ => 0))), (q2, .inl (cy, 8, .inl (fun _ => 0))), (q3, .inl (cy, 8, .inl (fun _ => 0))), (q4, .inl (cy, 20, .inl (fun _ => 0)))]) := hD
  refine lv_aload_n hx hb dX0_init_36 rfl (lv_at hl 0 rfl) ?_
  refine lv_bipush (v := 120) hx hb dX0_init_37 (by decide) ?_
  refine va_newa (atype := .int) (N' := 120) (a0 := (120, .inl (fun _ => 0))) hx hb (hts (.arrayClass .int) (by decide +kernel)) rfl hK.1 hP hD hS hA (fun _ => rfl) (by decide) (by decide) (by decide) (Nat.le_of_ble_eq_true rfl) (Nat.le_of_ble_eq_true rfl) dX0_init_39 (fun q5 cA H hK9 hP hD hS => ?_)
  rw [show cA = cy from Option.some.inj ((hK9.2 1 _ rfl).2.symm.trans (hK9.2 0 _ rfl).2)] at hP hD
  have hP : va_P D vwCl ([(h, .inr (0, [.ref q1, .ref q2, .ref q3, .ref q4, .int 0, .null, .null, .null, .null, .null, .null, .null, .int 0, .int 0, .int 0])), (q1, .inl (cy, 8, .inl (fun _ => 0))), (q2, .inl (cy, 8, .inl (fun _ => 0))), (q3, .inl (cy, 8, .inl (fun _ => 0))), (q4, .inl (cy, 20, .inl (fun _ => 0))), (q5, .inl (cy, 120, .inl (fun _ => 0)))]) H := hP
  have hD : va_D A ([(h, .inr (0, [.ref q1, .ref q2, .ref q3, .ref q4, .int 0, .null, .null, .null, .null, .null, .null, .null, .int 0, .int 0, .int 0])), (q1, .inl (cy, 8, .inl (fun _ => 0))), (q2, .inl (cy, 8, .inl (fun _ => 0))), (q3, .inl (cy, 8, .inl (fun _ => 0))), (q4, .inl (cy, 20, .inl (fun _ => 0))), (q5, .inl (cy, 120, .inl (fun _ => 0)))]) := hD
  refine va_putF (D := D) (ci := 0) (v := .ref q5) (ty := .array .int) (C := RX0) (T := TX0) (N := 15) hx hb hts inX0_init_0 tyX0 tyX0_ok nmX0 hown hK.1 hP hD hS 0 rfl rfl 5 (by decide) (hts (.fieldLink RX0 22 "ChalkSlate" "lineDish" "[I") (by decide +kernel)) (fun _ h9 => h9) rfl hin rfl (by decide +kernel) rfl rfl (Nat.le_of_ble_eq_true rfl) dX0_init_41 (fun H locs hP hD hS => ?_)
  have hP : va_P D vwCl ([(h, .inr (0, [.ref q1, .ref q2, .ref q3, .ref q4, .int 0, .ref q5, .null, .null, .null, .null, .null, .null, .int 0, .int 0, .int 0])), (q1, .inl (cy, 8, .inl (fun _ => 0))), (q2, .inl (cy, 8, .inl (fun _ => 0))), (q3, .inl (cy, 8, .inl (fun _ => 0))), (q4, .inl (cy, 20, .inl (fun _ => 0))), (q5, .inl (cy, 120, .inl (fun _ => 0)))]) H := hP
  have hD : va_D A ([(h, .inr (0, [.ref q1, .ref q2, .ref q3, .ref q4, .int 0, .ref q5, .null, .null, .null, .null, .null, .null, .int 0, .int 0, .int 0])), (q1, .inl (cy, 8, .inl (fun _ => 0))), (q2, .inl (cy, 8, .inl (fun _ => 0))), (q3, .inl (cy, 8, .inl (fun _ => 0))), (q4, .inl (cy, 20, .inl (fun _ => 0))), (q5, .inl (cy, 120, .inl (fun _ => 0)))]) := hD
  refine lv_aload_n hx hb dX0_init_44 rfl (lv_at hl 0 rfl) ?_
  refine lv_bipush (v := 120) hx hb dX0_init_45 (by decide) ?_
  refine va_newa (atype := .int) (N' := 120) (a0 := (120, .inl (fun _ => 0))) hx hb (hts (.arrayClass .int) (by decide +kernel)) rfl hK.1 hP hD hS hA (fun _ => rfl) (by decide) (by decide) (by decide) (Nat.le_of_ble_eq_true rfl) (Nat.le_of_ble_eq_true rfl) dX0_init_47 (fun q6 cA H hK9 hP hD hS => ?_)
  rw [show cA = cy from Option.some.inj ((hK9.2 1 _ rfl).2.symm.trans (hK9.2 0 _ rfl).2)] at hP hD
  have hP : va_P D vwCl ([(h, .inr (0, [.ref q1, .ref q2, .ref q3, .ref q4, .int 0, .ref q5, .null, .null, .null, .null, .null, .null, .int 0, .int 0, .int 0])), (q1, .inl (cy, 8, .inl (fun _ => 0))), (q2, .inl (cy, 8, .inl (fun _ => 0))), (q3, .inl (cy, 8, .inl (fun _ => 0))), (q4, .inl (cy, 20, .inl (fun _ => 0))), (q5, .inl (cy, 120, .inl (fun _ => 0))), (q6, .inl (cy, 120, .inl (fun _ => 0)))]) H := hP
  have hD : va_D A ([(h, .inr (0, [.ref q1, .ref q2, .ref q3, .ref q4, .int 0, .ref q5, .null, .null, .null, .null, .null, .null, .int 0, .int 0, .int 0])), (q1, .inl (cy, 8, .inl (fun _ => 0))), (q2, .inl (cy, 8, .inl (fun _ => 0))), (q3, .inl (cy, 8, .inl (fun _ => 0))), (q4, .inl (cy, 20, .inl (fun _ => 0))), (q5, .inl (cy, 120, .inl (fun _ => 0))), (q6, .inl (cy, 120, .inl (fun _ => 0)))]) := hD
  refine va_putF (D := D) (ci := 0) (v := .ref q6) (ty := .array .int) (C := RX0) (T := TX0) (N := 15) hx hb hts inX0_init_0 tyX0 tyX0_ok nmX0 hown hK.1 hP hD hS 0 rfl rfl 6 (by decide) (hts (.fieldLink RX0 25 "ChalkSlate" "lineKind" "[I") (by decide +kernel)) (fun _ h9 => h9) rfl hin rfl (by decide +kernel) rfl rfl (Nat.le_of_ble_eq_true rfl) dX0_init_49 (fun H locs hP hD hS => ?_)
  have hP : va_P D vwCl ([(h, .inr (0, [.ref q1, .ref q2, .ref q3, .ref q4, .int 0, .ref q5, .ref q6, .null, .null, .null, .null, .null, .int 0, .int 0, .int 0])), (q1, .inl (cy, 8, .inl (fun _ => 0))), (q2, .inl (cy, 8, .inl (fun _ => 0))), (q3, .inl (cy, 8, .inl (fun _ => 0))), (q4, .inl (cy, 20, .inl (fun _ => 0))), (q5, .inl (cy, 120, .inl (fun _ => 0))), (q6, .inl (cy, 120, .inl (fun _ => 0)))]) H := hP
  have hD : va_D A ([(h, .inr (0, [.ref q1, .ref q2, .ref q3, .ref q4, .int 0, .ref q5, .ref q6, .null, .null, .null, .null, .null, .int 0, .int 0, .int 0])), (q1, .inl (cy, 8, .inl (fun _ => 0))), (q2, .inl (cy, 8, .inl (fun _ => 0))), (q3, .inl (cy, 8, .inl (fun _ => 0))), (q4, .inl (cy, 20, .inl (fun _ => 0))), (q5, .inl (cy, 120, .inl (fun _ => 0))), (q6, .inl (cy, 120, .inl (fun _ => 0)))]) := hD
  refine lv_aload_n hx hb dX0_init_52 rfl (lv_at hl 0 rfl) ?_
  refine lv_bipush (v := 120) hx hb dX0_init_53 (by decide) ?_
  refine va_newa (atype := .int) (N' := 120) (a0 := (120, .inl (fun _ => 0))) hx hb (hts (.arrayClass .int) (by decide +kernel)) rfl hK.1 hP hD hS hA (fun _ => rfl) (by decide) (by decide) (by decide) (Nat.le_of_ble_eq_true rfl) (Nat.le_of_ble_eq_true rfl) dX0_init_55 (fun q7 cA H hK9 hP hD hS => ?_)
  rw [show cA = cy from Option.some.inj ((hK9.2 1 _ rfl).2.symm.trans (hK9.2 0 _ rfl).2)] at hP hD
  have hP : va_P D vwCl ([(h, .inr (0, [.ref q1, .ref q2, .ref q3, .ref q4, .int 0, .ref q5, .ref q6, .null, .null, .null, .null, .null, .int 0, .int 0, .int 0])), (q1, .inl (cy, 8, .inl (fun _ => 0))), (q2, .inl (cy, 8, .inl (fun _ => 0))), (q3, .inl (cy, 8, .inl (fun _ => 0))), (q4, .inl (cy, 20, .inl (fun _ => 0))), (q5, .inl (cy, 120, .inl (fun _ => 0))), (q6, .inl (cy, 120, .inl (fun _ => 0))), (q7, .inl (cy, 120, .inl (fun _ => 0)))]) H := hP
  have hD : va_D A ([(h, .inr (0, [.ref q1, .ref q2, .ref q3, .ref q4, .int 0, .ref q5, .ref q6, .null, .null, .null, .null, .null, .int 0, .int 0, .int 0])), (q1, .inl (cy, 8, .inl (fun _ => 0))), (q2, .inl (cy, 8, .inl (fun _ => 0))), (q3, .inl (cy, 8, .inl (fun _ => 0))), (q4, .inl (cy, 20, .inl (fun _ => 0))), (q5, .inl (cy, 120, .inl (fun _ => 0))), (q6, .inl (cy, 120, .inl (fun _ => 0))), (q7, .inl (cy, 120, .inl (fun _ => 0)))]) := hD
  refine va_putF (D := D) (ci := 0) (v := .ref q7) (ty := .array .int) (C := RX0) (T := TX0) (N := 15) hx hb hts inX0_init_0 tyX0 tyX0_ok nmX0 hown hK.1 hP hD hS 0 rfl rfl 7 (by decide) (hts (.fieldLink RX0 28 "ChalkSlate" "linePot" "[I") (by decide +kernel)) (fun _ h9 => h9) rfl hin rfl (by decide +kernel) rfl rfl (Nat.le_of_ble_eq_true rfl) dX0_init_57 (fun H locs hP hD hS => ?_)
  have hP : va_P D vwCl ([(h, .inr (0, [.ref q1, .ref q2, .ref q3, .ref q4, .int 0, .ref q5, .ref q6, .ref q7, .null, .null, .null, .null, .int 0, .int 0, .int 0])), (q1, .inl (cy, 8, .inl (fun _ => 0))), (q2, .inl (cy, 8, .inl (fun _ => 0))), (q3, .inl (cy, 8, .inl (fun _ => 0))), (q4, .inl (cy, 20, .inl (fun _ => 0))), (q5, .inl (cy, 120, .inl (fun _ => 0))), (q6, .inl (cy, 120, .inl (fun _ => 0))), (q7, .inl (cy, 120, .inl (fun _ => 0)))]) H := hP
  have hD : va_D A ([(h, .inr (0, [.ref q1, .ref q2, .ref q3, .ref q4, .int 0, .ref q5, .ref q6, .ref q7, .null, .null, .null, .null, .int 0, .int 0, .int 0])), (q1, .inl (cy, 8, .inl (fun _ => 0))), (q2, .inl (cy, 8, .inl (fun _ => 0))), (q3, .inl (cy, 8, .inl (fun _ => 0))), (q4, .inl (cy, 20, .inl (fun _ => 0))), (q5, .inl (cy, 120, .inl (fun _ => 0))), (q6, .inl (cy, 120, .inl (fun _ => 0))), (q7, .inl (cy, 120, .inl (fun _ => 0)))]) := hD
  refine lv_aload_n hx hb dX0_init_60 rfl (lv_at hl 0 rfl) ?_
  refine lv_bipush (v := 120) hx hb dX0_init_61 (by decide) ?_
  refine va_newa (atype := .int) (N' := 120) (a0 := (120, .inl (fun _ => 0))) hx hb (hts (.arrayClass .int) (by decide +kernel)) rfl hK.1 hP hD hS hA (fun _ => rfl) (by decide) (by decide) (by decide) (Nat.le_of_ble_eq_true rfl) (Nat.le_of_ble_eq_true rfl) dX0_init_63 (fun q8 cA H hK9 hP hD hS => ?_)
  rw [show cA = cy from Option.some.inj ((hK9.2 1 _ rfl).2.symm.trans (hK9.2 0 _ rfl).2)] at hP hD
  have hP : va_P D vwCl ([(h, .inr (0, [.ref q1, .ref q2, .ref q3, .ref q4, .int 0, .ref q5, .ref q6, .ref q7, .null, .null, .null, .null, .int 0, .int 0, .int 0])), (q1, .inl (cy, 8, .inl (fun _ => 0))), (q2, .inl (cy, 8, .inl (fun _ => 0))), (q3, .inl (cy, 8, .inl (fun _ => 0))), (q4, .inl (cy, 20, .inl (fun _ => 0))), (q5, .inl (cy, 120, .inl (fun _ => 0))), (q6, .inl (cy, 120, .inl (fun _ => 0))), (q7, .inl (cy, 120, .inl (fun _ => 0))), (q8, .inl (cy, 120, .inl (fun _ => 0)))]) H := hP
  have hD : va_D A ([(h, .inr (0, [.ref q1, .ref q2, .ref q3, .ref q4, .int 0, .ref q5, .ref q6, .ref q7, .null, .null, .null, .null, .int 0, .int 0, .int 0])), (q1, .inl (cy, 8, .inl (fun _ => 0))), (q2, .inl (cy, 8, .inl (fun _ => 0))), (q3, .inl (cy, 8, .inl (fun _ => 0))), (q4, .inl (cy, 20, .inl (fun _ => 0))), (q5, .inl (cy, 120, .inl (fun _ => 0))), (q6, .inl (cy, 120, .inl (fun _ => 0))), (q7, .inl (cy, 120, .inl (fun _ => 0))), (q8, .inl (cy, 120, .inl (fun _ => 0)))]) := hD
  refine va_putF (D := D) (ci := 0) (v := .ref q8) (ty := .array .int) (C := RX0) (T := TX0) (N := 15) hx hb hts inX0_init_0 tyX0 tyX0_ok nmX0 hown hK.1 hP hD hS 0 rfl rfl 8 (by decide) (hts (.fieldLink RX0 31 "ChalkSlate" "lineAhead" "[I") (by decide +kernel)) (fun _ h9 => h9) rfl hin rfl (by decide +kernel) rfl rfl (Nat.le_of_ble_eq_true rfl) dX0_init_65 (fun H locs hP hD hS => ?_)
  have hP : va_P D vwCl ([(h, .inr (0, [.ref q1, .ref q2, .ref q3, .ref q4, .int 0, .ref q5, .ref q6, .ref q7, .ref q8, .null, .null, .null, .int 0, .int 0, .int 0])), (q1, .inl (cy, 8, .inl (fun _ => 0))), (q2, .inl (cy, 8, .inl (fun _ => 0))), (q3, .inl (cy, 8, .inl (fun _ => 0))), (q4, .inl (cy, 20, .inl (fun _ => 0))), (q5, .inl (cy, 120, .inl (fun _ => 0))), (q6, .inl (cy, 120, .inl (fun _ => 0))), (q7, .inl (cy, 120, .inl (fun _ => 0))), (q8, .inl (cy, 120, .inl (fun _ => 0)))]) H := hP
  have hD : va_D A ([(h, .inr (0, [.ref q1, .ref q2, .ref q3, .ref q4, .int 0, .ref q5, .ref q6, .ref q7, .ref q8, .null, .null, .null, .int 0, .int 0, .int 0])), (q1, .inl (cy, 8, .inl (fun _ => 0))), (q2, .inl (cy, 8, .inl (fun _ => 0))), (q3, .inl (cy, 8, .inl (fun _ => 0))), (q4, .inl (cy, 20, .inl (fun _ => 0))), (q5, .inl (cy, 120, .inl (fun _ => 0))), (q6, .inl (cy, 120, .inl (fun _ => 0))), (q7, .inl (cy, 120, .inl (fun _ => 0))), (q8, .inl (cy, 120, .inl (fun _ => 0)))]) := hD
  refine lv_aload_n hx hb dX0_init_68 rfl (lv_at hl 0 rfl) ?_
  refine lv_bipush (v := 120) hx hb dX0_init_69 (by decide) ?_
  refine va_newa (atype := .int) (N' := 120) (a0 := (120, .inl (fun _ => 0))) hx hb (hts (.arrayClass .int) (by decide +kernel)) rfl hK.1 hP hD hS hA (fun _ => rfl) (by decide) (by decide) (by decide) (Nat.le_of_ble_eq_true rfl) (Nat.le_of_ble_eq_true rfl) dX0_init_71 (fun q9 cA H hK9 hP hD hS => ?_)
  rw [show cA = cy from Option.some.inj ((hK9.2 1 _ rfl).2.symm.trans (hK9.2 0 _ rfl).2)] at hP hD
  have hP : va_P D vwCl ([(h, .inr (0, [.ref q1, .ref q2, .ref q3, .ref q4, .int 0, .ref q5, .ref q6, .ref q7, .ref q8, .null, .null, .null, .int 0, .int 0, .int 0])), (q1, .inl (cy, 8, .inl (fun _ => 0))), (q2, .inl (cy, 8, .inl (fun _ => 0))), (q3, .inl (cy, 8, .inl (fun _ => 0))), (q4, .inl (cy, 20, .inl (fun _ => 0))), (q5, .inl (cy, 120, .inl (fun _ => 0))), (q6, .inl (cy, 120, .inl (fun _ => 0))), (q7, .inl (cy, 120, .inl (fun _ => 0))), (q8, .inl (cy, 120, .inl (fun _ => 0))), (q9, .inl (cy, 120, .inl (fun _ => 0)))]) H := hP
  have hD : va_D A ([(h, .inr (0, [.ref q1, .ref q2, .ref q3, .ref q4, .int 0, .ref q5, .ref q6, .ref q7, .ref q8, .null, .null, .null, .int 0, .int 0, .int 0])), (q1, .inl (cy, 8, .inl (fun _ => 0))), (q2, .inl (cy, 8, .inl (fun _ => 0))), (q3, .inl (cy, 8, .inl (fun _ => 0))), (q4, .inl (cy, 20, .inl (fun _ => 0))), (q5, .inl (cy, 120, .inl (fun _ => 0))), (q6, .inl (cy, 120, .inl (fun _ => 0))), (q7, .inl (cy, 120, .inl (fun _ => 0))), (q8, .inl (cy, 120, .inl (fun _ => 0))), (q9, .inl (cy, 120, .inl (fun _ => 0)))]) := hD
  refine va_putF (D := D) (ci := 0) (v := .ref q9) (ty := .array .int) (C := RX0) (T := TX0) (N := 15) hx hb hts inX0_init_0 tyX0 tyX0_ok nmX0 hown hK.1 hP hD hS 0 rfl rfl 9 (by decide) (hts (.fieldLink RX0 34 "ChalkSlate" "lineBehind" "[I") (by decide +kernel)) (fun _ h9 => h9) rfl hin rfl (by decide +kernel) rfl rfl (Nat.le_of_ble_eq_true rfl) dX0_init_73 (fun H locs hP hD hS => ?_)
  have hP : va_P D vwCl ([(h, .inr (0, [.ref q1, .ref q2, .ref q3, .ref q4, .int 0, .ref q5, .ref q6, .ref q7, .ref q8, .ref q9, .null, .null, .int 0, .int 0, .int 0])), (q1, .inl (cy, 8, .inl (fun _ => 0))), (q2, .inl (cy, 8, .inl (fun _ => 0))), (q3, .inl (cy, 8, .inl (fun _ => 0))), (q4, .inl (cy, 20, .inl (fun _ => 0))), (q5, .inl (cy, 120, .inl (fun _ => 0))), (q6, .inl (cy, 120, .inl (fun _ => 0))), (q7, .inl (cy, 120, .inl (fun _ => 0))), (q8, .inl (cy, 120, .inl (fun _ => 0))), (q9, .inl (cy, 120, .inl (fun _ => 0)))]) H := hP
  have hD : va_D A ([(h, .inr (0, [.ref q1, .ref q2, .ref q3, .ref q4, .int 0, .ref q5, .ref q6, .ref q7, .ref q8, .ref q9, .null, .null, .int 0, .int 0, .int 0])), (q1, .inl (cy, 8, .inl (fun _ => 0))), (q2, .inl (cy, 8, .inl (fun _ => 0))), (q3, .inl (cy, 8, .inl (fun _ => 0))), (q4, .inl (cy, 20, .inl (fun _ => 0))), (q5, .inl (cy, 120, .inl (fun _ => 0))), (q6, .inl (cy, 120, .inl (fun _ => 0))), (q7, .inl (cy, 120, .inl (fun _ => 0))), (q8, .inl (cy, 120, .inl (fun _ => 0))), (q9, .inl (cy, 120, .inl (fun _ => 0)))]) := hD
  refine lv_aload_n hx hb dX0_init_76 rfl (lv_at hl 0 rfl) ?_
  refine lv_bipush (v := 120) hx hb dX0_init_77 (by decide) ?_
  refine va_newa (atype := .int) (N' := 120) (a0 := (120, .inl (fun _ => 0))) hx hb (hts (.arrayClass .int) (by decide +kernel)) rfl hK.1 hP hD hS hA (fun _ => rfl) (by decide) (by decide) (by decide) (Nat.le_of_ble_eq_true rfl) (Nat.le_of_ble_eq_true rfl) dX0_init_79 (fun q10 cA H hK9 hP hD hS => ?_)
  rw [show cA = cy from Option.some.inj ((hK9.2 1 _ rfl).2.symm.trans (hK9.2 0 _ rfl).2)] at hP hD
  have hP : va_P D vwCl ([(h, .inr (0, [.ref q1, .ref q2, .ref q3, .ref q4, .int 0, .ref q5, .ref q6, .ref q7, .ref q8, .ref q9, .null, .null, .int 0, .int 0, .int 0])), (q1, .inl (cy, 8, .inl (fun _ => 0))), (q2, .inl (cy, 8, .inl (fun _ => 0))), (q3, .inl (cy, 8, .inl (fun _ => 0))), (q4, .inl (cy, 20, .inl (fun _ => 0))), (q5, .inl (cy, 120, .inl (fun _ => 0))), (q6, .inl (cy, 120, .inl (fun _ => 0))), (q7, .inl (cy, 120, .inl (fun _ => 0))), (q8, .inl (cy, 120, .inl (fun _ => 0))), (q9, .inl (cy, 120, .inl (fun _ => 0))), (q10, .inl (cy, 120, .inl (fun _ => 0)))]) H := hP
  have hD : va_D A ([(h, .inr (0, [.ref q1, .ref q2, .ref q3, .ref q4, .int 0, .ref q5, .ref q6, .ref q7, .ref q8, .ref q9, .null, .null, .int 0, .int 0, .int 0])), (q1, .inl (cy, 8, .inl (fun _ => 0))), (q2, .inl (cy, 8, .inl (fun _ => 0))), (q3, .inl (cy, 8, .inl (fun _ => 0))), (q4, .inl (cy, 20, .inl (fun _ => 0))), (q5, .inl (cy, 120, .inl (fun _ => 0))), (q6, .inl (cy, 120, .inl (fun _ => 0))), (q7, .inl (cy, 120, .inl (fun _ => 0))), (q8, .inl (cy, 120, .inl (fun _ => 0))), (q9, .inl (cy, 120, .inl (fun _ => 0))), (q10, .inl (cy, 120, .inl (fun _ => 0)))]) := hD
  refine va_putF (D := D) (ci := 0) (v := .ref q10) (ty := .array .int) (C := RX0) (T := TX0) (N := 15) hx hb hts inX0_init_0 tyX0 tyX0_ok nmX0 hown hK.1 hP hD hS 0 rfl rfl 10 (by decide) (hts (.fieldLink RX0 37 "ChalkSlate" "lineTakesBack" "[I") (by decide +kernel)) (fun _ h9 => h9) rfl hin rfl (by decide +kernel) rfl rfl (Nat.le_of_ble_eq_true rfl) dX0_init_81 (fun H locs hP hD hS => ?_)
  have hP : va_P D vwCl ([(h, .inr (0, [.ref q1, .ref q2, .ref q3, .ref q4, .int 0, .ref q5, .ref q6, .ref q7, .ref q8, .ref q9, .ref q10, .null, .int 0, .int 0, .int 0])), (q1, .inl (cy, 8, .inl (fun _ => 0))), (q2, .inl (cy, 8, .inl (fun _ => 0))), (q3, .inl (cy, 8, .inl (fun _ => 0))), (q4, .inl (cy, 20, .inl (fun _ => 0))), (q5, .inl (cy, 120, .inl (fun _ => 0))), (q6, .inl (cy, 120, .inl (fun _ => 0))), (q7, .inl (cy, 120, .inl (fun _ => 0))), (q8, .inl (cy, 120, .inl (fun _ => 0))), (q9, .inl (cy, 120, .inl (fun _ => 0))), (q10, .inl (cy, 120, .inl (fun _ => 0)))]) H := hP
  have hD : va_D A ([(h, .inr (0, [.ref q1, .ref q2, .ref q3, .ref q4, .int 0, .ref q5, .ref q6, .ref q7, .ref q8, .ref q9, .ref q10, .null, .int 0, .int 0, .int 0])), (q1, .inl (cy, 8, .inl (fun _ => 0))), (q2, .inl (cy, 8, .inl (fun _ => 0))), (q3, .inl (cy, 8, .inl (fun _ => 0))), (q4, .inl (cy, 20, .inl (fun _ => 0))), (q5, .inl (cy, 120, .inl (fun _ => 0))), (q6, .inl (cy, 120, .inl (fun _ => 0))), (q7, .inl (cy, 120, .inl (fun _ => 0))), (q8, .inl (cy, 120, .inl (fun _ => 0))), (q9, .inl (cy, 120, .inl (fun _ => 0))), (q10, .inl (cy, 120, .inl (fun _ => 0)))]) := hD
  refine lv_aload_n hx hb dX0_init_84 rfl (lv_at hl 0 rfl) ?_
  refine lv_bipush (v := 120) hx hb dX0_init_85 (by decide) ?_
  refine va_newa (atype := .int) (N' := 120) (a0 := (120, .inl (fun _ => 0))) hx hb (hts (.arrayClass .int) (by decide +kernel)) rfl hK.1 hP hD hS hA (fun _ => rfl) (by decide) (by decide) (by decide) (Nat.le_of_ble_eq_true rfl) (Nat.le_of_ble_eq_true rfl) dX0_init_87 (fun q11 cA H hK9 hP hD hS => ?_)
  rw [show cA = cy from Option.some.inj ((hK9.2 1 _ rfl).2.symm.trans (hK9.2 0 _ rfl).2)] at hP hD
  have hP : va_P D vwCl ([(h, .inr (0, [.ref q1, .ref q2, .ref q3, .ref q4, .int 0, .ref q5, .ref q6, .ref q7, .ref q8, .ref q9, .ref q10, .null, .int 0, .int 0, .int 0])), (q1, .inl (cy, 8, .inl (fun _ => 0))), (q2, .inl (cy, 8, .inl (fun _ => 0))), (q3, .inl (cy, 8, .inl (fun _ => 0))), (q4, .inl (cy, 20, .inl (fun _ => 0))), (q5, .inl (cy, 120, .inl (fun _ => 0))), (q6, .inl (cy, 120, .inl (fun _ => 0))), (q7, .inl (cy, 120, .inl (fun _ => 0))), (q8, .inl (cy, 120, .inl (fun _ => 0))), (q9, .inl (cy, 120, .inl (fun _ => 0))), (q10, .inl (cy, 120, .inl (fun _ => 0))), (q11, .inl (cy, 120, .inl (fun _ => 0)))]) H := hP
  have hD : va_D A ([(h, .inr (0, [.ref q1, .ref q2, .ref q3, .ref q4, .int 0, .ref q5, .ref q6, .ref q7, .ref q8, .ref q9, .ref q10, .null, .int 0, .int 0, .int 0])), (q1, .inl (cy, 8, .inl (fun _ => 0))), (q2, .inl (cy, 8, .inl (fun _ => 0))), (q3, .inl (cy, 8, .inl (fun _ => 0))), (q4, .inl (cy, 20, .inl (fun _ => 0))), (q5, .inl (cy, 120, .inl (fun _ => 0))), (q6, .inl (cy, 120, .inl (fun _ => 0))), (q7, .inl (cy, 120, .inl (fun _ => 0))), (q8, .inl (cy, 120, .inl (fun _ => 0))), (q9, .inl (cy, 120, .inl (fun _ => 0))), (q10, .inl (cy, 120, .inl (fun _ => 0))), (q11, .inl (cy, 120, .inl (fun _ => 0)))]) := hD
  refine va_putF (D := D) (ci := 0) (v := .ref q11) (ty := .array .int) (C := RX0) (T := TX0) (N := 15) hx hb hts inX0_init_0 tyX0 tyX0_ok nmX0 hown hK.1 hP hD hS 0 rfl rfl 11 (by decide) (hts (.fieldLink RX0 40 "ChalkSlate" "lineTakenBackBy" "[I") (by decide +kernel)) (fun _ h9 => h9) rfl hin rfl (by decide +kernel) rfl rfl (Nat.le_of_ble_eq_true rfl) dX0_init_89 (fun H locs hP hD hS => ?_)
  have hP : va_P D vwCl ([(h, .inr (0, [.ref q1, .ref q2, .ref q3, .ref q4, .int 0, .ref q5, .ref q6, .ref q7, .ref q8, .ref q9, .ref q10, .ref q11, .int 0, .int 0, .int 0])), (q1, .inl (cy, 8, .inl (fun _ => 0))), (q2, .inl (cy, 8, .inl (fun _ => 0))), (q3, .inl (cy, 8, .inl (fun _ => 0))), (q4, .inl (cy, 20, .inl (fun _ => 0))), (q5, .inl (cy, 120, .inl (fun _ => 0))), (q6, .inl (cy, 120, .inl (fun _ => 0))), (q7, .inl (cy, 120, .inl (fun _ => 0))), (q8, .inl (cy, 120, .inl (fun _ => 0))), (q9, .inl (cy, 120, .inl (fun _ => 0))), (q10, .inl (cy, 120, .inl (fun _ => 0))), (q11, .inl (cy, 120, .inl (fun _ => 0)))]) H := hP
  have hD : va_D A ([(h, .inr (0, [.ref q1, .ref q2, .ref q3, .ref q4, .int 0, .ref q5, .ref q6, .ref q7, .ref q8, .ref q9, .ref q10, .ref q11, .int 0, .int 0, .int 0])), (q1, .inl (cy, 8, .inl (fun _ => 0))), (q2, .inl (cy, 8, .inl (fun _ => 0))), (q3, .inl (cy, 8, .inl (fun _ => 0))), (q4, .inl (cy, 20, .inl (fun _ => 0))), (q5, .inl (cy, 120, .inl (fun _ => 0))), (q6, .inl (cy, 120, .inl (fun _ => 0))), (q7, .inl (cy, 120, .inl (fun _ => 0))), (q8, .inl (cy, 120, .inl (fun _ => 0))), (q9, .inl (cy, 120, .inl (fun _ => 0))), (q10, .inl (cy, 120, .inl (fun _ => 0))), (q11, .inl (cy, 120, .inl (fun _ => 0)))]) := hD
  refine lv_aload_n hx hb dX0_init_92 rfl (lv_at hl 0 rfl) ?_
  refine va_get (D := D) (ci := 0) (v := .ref q3) (C := RX0) (T := TX0) (N := 15) hx hb hts inX0_init_0 hown hK.1 hP 0 rfl rfl 2 (by decide) (hts (.fieldLink RX0 16 "ChalkSlate" "stamp" "[I") (by decide +kernel)) (fun _ h9 => h9) rfl dX0_init_93 ?_
  refine lv_iconst (v := (-1)) hx hb dX0_init_96 (by decide) ?_
  refine wr_SV (ws0' := [(h, .inr (0, [.ref q1, .ref q2, .ref q3, .ref q4, .int 0, .ref q5, .ref q6, .ref q7, .ref q8, .ref q9, .ref q10, .ref q11, .int 0, .int 0, .int 0])), (q1, .inl (cy, 8, .inl (fun _ => 0))), (q2, .inl (cy, 8, .inl (fun _ => 0))), (q3, .inl (cy, 8, .inl (fillP (-1) (fun _ => 0) 8))), (q4, .inl (cy, 20, .inl (fun _ => 0))), (q5, .inl (cy, 120, .inl (fun _ => 0))), (q6, .inl (cy, 120, .inl (fun _ => 0))), (q7, .inl (cy, 120, .inl (fun _ => 0))), (q8, .inl (cy, 120, .inl (fun _ => 0))), (q9, .inl (cy, 120, .inl (fun _ => 0))), (q10, .inl (cy, 120, .inl (fun _ => 0))), (q11, .inl (cy, 120, .inl (fun _ => 0)))]) (As := [.ref q3, .int (-1)]) (rest := []) ⟨hx, hb, hml, hown, hts⟩ (fun sz => mJ7_fill_53178 l D cy q3 8 (fun _ => 0) (-1) (Nat.le_of_ble_eq_true rfl) sz) (va_cwS 2 hts gX0_init_J7_fill_53178 rfl rfl rfl (by decide +kernel) ⟨Nat.le_of_ble_eq_true rfl, Nat.le_of_ble_eq_true rfl⟩) hP hK hD hS hA [3] [0, 1, 2, 4, 5, 6, 7, 8, 9, 10, 11] [0, 1, 2, 11, 3, 4, 5, 6, 7, 8, 9, 10] rfl rfl rfl (by decide) rfl rfl rfl rfl rfl hl.1 rfl (Nat.le_of_ble_eq_true rfl) dX0_init_97 (Nat.le_of_ble_eq_true rfl) (Nat.le_of_ble_eq_true rfl) (fun H locs hP hD hS => ?_)
  refine W.widen (k := 11) (n := 884) (Nat.le_of_ble_eq_true rfl) (Nat.le_of_ble_eq_true rfl) ?_
  exact W.vret hx hb hr (fun t ht hW => ⟨⟨(fun k => [q1, q2, q3, q4, q5, q6, q7, q8, q9, q10, q11].getD k 0), rfl, trivial, (by show va_P D vwCl (cC h (fun k => [q1, q2, q3, q4, q5, q6, q7, q8, q9, q10, q11].getD k 0) cy initR 0 0 0 0) t.heap; rw [ht]; exact hP), hD⟩, hS.F ht⟩) hS.2.2 dX0_init_100

set_option maxRecDepth 100000 in
theorem inX1_init_1 : ∀ w ∈ wsX10, w ∈ wsX1_init := by decide +kernel

set_option maxHeartbeats 4000000 in
set_option maxRecDepth 100000 in
theorem mX1_init (l : Launch) (D : va_G) (cy : ClassId) (q mo : Nat) (sz : Nat) : Met l yX1_init wsX1_init { frames := 1, cells := 9, slots := 744, locals := 20 } (va_Pc [.ref q, .ref mo] (wrB D cy ([(q, .inr (1, [.int 0, .int 0, .null, .null, .null, .null, .null, .null, .null, .null, .null, .int 0, .int 0, .int 0, .null]))]) sz)) (va_Qv (fun _ : (Nat → Nat) => True) (fun u t => va_P D vwCl (cS q u cy initR 0 0 0 0 0 mo) t.heap ∧ va_D (va_A ([(q, .inr (1, [.int 0, .int 0, .null, .null, .null, .null, .null, .null, .null, .null, .null, .int 0, .int 0, .int 0, .null]))]) sz) (cS q u cy initR 0 0 0 0 0 mo)) (va_A ([(q, .inr (1, [.int 0, .int 0, .null, .null, .null, .null, .null, .null, .null, .null, .null, .int 0, .int 0, .int 0, .null]))]) sz)) 9 744 (va_A ([(q, .inr (1, [.int 0, .int 0, .null, .null, .null, .null, .null, .null, .null, .null, .null, .int 0, .int 0, .int 0, .null]))]) sz) := by
  refine Met.ofW (cc := cX1_init) (maxL := 3) (ret := none) (by decide) rfl ?_
  intro p e s m args below meth c s₁ B hml hv
  obtain ⟨rfl, hsz, hP, hK, hD0⟩ := hv
  have hx := B.exec
  have hb := B.bytes
  have hr := B.returns
  have hts := atoms_spec (ws := wsX1_init) B.pre
  have hown : s.vm.findClass RX1 = some m.cls := findClass_of_methodNamed B.named
  have hlocks := B.notSynchronized
  have hin : meth.name = "<init>" := (name_of_methodNamed B.named B.method).1
  subst hsz
  have hD := hD0.self (sz := s.heap.size)
  generalize hAe : va_A ([(q, .inr (1, [.int 0, .int 0, .null, .null, .null, .null, .null, .null, .null, .null, .null, .int 0, .int 0, .int 0, .null]))]) s.heap.size = A at hD ⊢
  have hA : ∀ q : Nat, s.heap.size ≤ q → A q := fun q h => by rw [← hAe]; exact Or.inr h
  have hS : va_S A s.heap s.heap [] := va_S.rf
  have hl := lv_entry ([.ref q, .ref mo]) (n := 3) (Nat.le_of_ble_eq_true rfl)
  rw [lg_entry_eq]
  generalize (lg_sl ([.ref q, .ref mo]) ++ List.replicate (3 - (lg_sl ([.ref q, .ref mo])).length) Slot.unset).toArray = ls at hl ⊢
  have hl : lv_has ls 3 [(0, .ref q), (1, .ref mo)] := hl
  refine lv_aload_n hx hb dX1_init_0 rfl (lv_at hl 0 rfl) ?_
  refine lv_aload_n hx hb dX1_init_1 rfl (lv_at hl 1 rfl) ?_
  refine va_putF (D := D) (ci := 1) (v := .ref mo) (ty := .object "ChalkSlateModel") (C := RX1) (T := TX1) (N := 15) hx hb hts inX1_init_1 tyX1 tyX1_ok nmX1 hown hK.1 hP hD hS 0 rfl rfl 14 (by decide) (hts (.fieldLink RX1 3 "ChalkSlateModel$State" "this$0" "LChalkSlateModel;") (by decide +kernel)) (fun _ h9 => h9) rfl hin rfl (by decide +kernel) rfl rfl (Nat.le_of_ble_eq_true rfl) dX1_init_2 (fun H locs hP hD hS => ?_)
  have hP : va_P D vwCl ([(q, .inr (1, [.int 0, .int 0, .null, .null, .null, .null, .null, .null, .null, .null, .null, .int 0, .int 0, .int 0, .ref mo]))]) H := hP
  have hD : va_D A ([(q, .inr (1, [.int 0, .int 0, .null, .null, .null, .null, .null, .null, .null, .null, .null, .int 0, .int 0, .int 0, .ref mo]))]) := hD
  refine lv_aload_n hx hb dX1_init_5 rfl (lv_at hl 0 rfl) ?_
  refine W.objInit hx hb hown (hts (.methodLink RX1 9 objectInit) (by decide +kernel)) (hts (.instanceMethod objectInit) (by decide +kernel)) (hts (.code objectInit ⟨#[0xb1]⟩ 1 none) (by decide +kernel)) rfl (by rw [hml]; exact hl.1) rfl dX1_init_6 (Nat.le_of_ble_eq_true rfl) (Nat.le_of_ble_eq_true rfl) ?_
  refine W.eq (g2 := F0 m 9 ls []) rfl ?_
  refine lv_aload_n hx hb dX1_init_9 rfl (lv_at hl 0 rfl) ?_
  refine lv_bipush (v := 8) hx hb dX1_init_10 (by decide) ?_
  refine va_newa (atype := .int) (N' := 8) (a0 := (8, .inl (fun _ => 0))) hx hb (hts (.arrayClass .int) (by decide +kernel)) rfl hK.1 hP hD hS hA (fun _ => rfl) (by decide) (by decide) (by decide) (Nat.le_of_ble_eq_true rfl) (Nat.le_of_ble_eq_true rfl) dX1_init_12 (fun q1 cA H hK9 hP hD hS => ?_)
  rw [show cA = cy from Option.some.inj ((hK9.2 1 _ rfl).2.symm.trans (hK9.2 0 _ rfl).2)] at hP hD
  have hP : va_P D vwCl ([(q, .inr (1, [.int 0, .int 0, .null, .null, .null, .null, .null, .null, .null, .null, .null, .int 0, .int 0, .int 0, .ref mo])), (q1, .inl (cy, 8, .inl (fun _ => 0)))]) H := hP
  have hD : va_D A ([(q, .inr (1, [.int 0, .int 0, .null, .null, .null, .null, .null, .null, .null, .null, .null, .int 0, .int 0, .int 0, .ref mo])), (q1, .inl (cy, 8, .inl (fun _ => 0)))]) := hD
  refine va_putF (D := D) (ci := 1) (v := .ref q1) (ty := .array .int) (C := RX1) (T := TX1) (N := 15) hx hb hts inX1_init_1 tyX1 tyX1_ok nmX1 hown hK.1 hP hD hS 0 rfl rfl 2 (by decide) (hts (.fieldLink RX1 15 "ChalkSlateModel$State" "stove" "[I") (by decide +kernel)) (fun _ h9 => h9) rfl hin rfl (by decide +kernel) rfl rfl (Nat.le_of_ble_eq_true rfl) dX1_init_14 (fun H locs hP hD hS => ?_)
  have hP : va_P D vwCl ([(q, .inr (1, [.int 0, .int 0, .ref q1, .null, .null, .null, .null, .null, .null, .null, .null, .int 0, .int 0, .int 0, .ref mo])), (q1, .inl (cy, 8, .inl (fun _ => 0)))]) H := hP
  have hD : va_D A ([(q, .inr (1, [.int 0, .int 0, .ref q1, .null, .null, .null, .null, .null, .null, .null, .null, .int 0, .int 0, .int 0, .ref mo])), (q1, .inl (cy, 8, .inl (fun _ => 0)))]) := hD
  refine lv_aload_n hx hb dX1_init_17 rfl (lv_at hl 0 rfl) ?_
  refine lv_bipush (v := 8) hx hb dX1_init_18 (by decide) ?_
  refine va_newa (atype := .int) (N' := 8) (a0 := (8, .inl (fun _ => 0))) hx hb (hts (.arrayClass .int) (by decide +kernel)) rfl hK.1 hP hD hS hA (fun _ => rfl) (by decide) (by decide) (by decide) (Nat.le_of_ble_eq_true rfl) (Nat.le_of_ble_eq_true rfl) dX1_init_20 (fun q2 cA H hK9 hP hD hS => ?_)
  rw [show cA = cy from Option.some.inj ((hK9.2 1 _ rfl).2.symm.trans (hK9.2 0 _ rfl).2)] at hP hD
  have hP : va_P D vwCl ([(q, .inr (1, [.int 0, .int 0, .ref q1, .null, .null, .null, .null, .null, .null, .null, .null, .int 0, .int 0, .int 0, .ref mo])), (q1, .inl (cy, 8, .inl (fun _ => 0))), (q2, .inl (cy, 8, .inl (fun _ => 0)))]) H := hP
  have hD : va_D A ([(q, .inr (1, [.int 0, .int 0, .ref q1, .null, .null, .null, .null, .null, .null, .null, .null, .int 0, .int 0, .int 0, .ref mo])), (q1, .inl (cy, 8, .inl (fun _ => 0))), (q2, .inl (cy, 8, .inl (fun _ => 0)))]) := hD
  refine va_putF (D := D) (ci := 1) (v := .ref q2) (ty := .array .int) (C := RX1) (T := TX1) (N := 15) hx hb hts inX1_init_1 tyX1 tyX1_ok nmX1 hown hK.1 hP hD hS 0 rfl rfl 3 (by decide) (hts (.fieldLink RX1 19 "ChalkSlateModel$State" "shelf" "[I") (by decide +kernel)) (fun _ h9 => h9) rfl hin rfl (by decide +kernel) rfl rfl (Nat.le_of_ble_eq_true rfl) dX1_init_22 (fun H locs hP hD hS => ?_)
  have hP : va_P D vwCl ([(q, .inr (1, [.int 0, .int 0, .ref q1, .ref q2, .null, .null, .null, .null, .null, .null, .null, .int 0, .int 0, .int 0, .ref mo])), (q1, .inl (cy, 8, .inl (fun _ => 0))), (q2, .inl (cy, 8, .inl (fun _ => 0)))]) H := hP
  have hD : va_D A ([(q, .inr (1, [.int 0, .int 0, .ref q1, .ref q2, .null, .null, .null, .null, .null, .null, .null, .int 0, .int 0, .int 0, .ref mo])), (q1, .inl (cy, 8, .inl (fun _ => 0))), (q2, .inl (cy, 8, .inl (fun _ => 0)))]) := hD
  refine lv_aload_n hx hb dX1_init_25 rfl (lv_at hl 0 rfl) ?_
  refine lv_bipush (v := 8) hx hb dX1_init_26 (by decide) ?_
  refine va_newa (atype := .int) (N' := 8) (a0 := (8, .inl (fun _ => 0))) hx hb (hts (.arrayClass .int) (by decide +kernel)) rfl hK.1 hP hD hS hA (fun _ => rfl) (by decide) (by decide) (by decide) (Nat.le_of_ble_eq_true rfl) (Nat.le_of_ble_eq_true rfl) dX1_init_28 (fun q3 cA H hK9 hP hD hS => ?_)
  rw [show cA = cy from Option.some.inj ((hK9.2 1 _ rfl).2.symm.trans (hK9.2 0 _ rfl).2)] at hP hD
  have hP : va_P D vwCl ([(q, .inr (1, [.int 0, .int 0, .ref q1, .ref q2, .null, .null, .null, .null, .null, .null, .null, .int 0, .int 0, .int 0, .ref mo])), (q1, .inl (cy, 8, .inl (fun _ => 0))), (q2, .inl (cy, 8, .inl (fun _ => 0))), (q3, .inl (cy, 8, .inl (fun _ => 0)))]) H := hP
  have hD : va_D A ([(q, .inr (1, [.int 0, .int 0, .ref q1, .ref q2, .null, .null, .null, .null, .null, .null, .null, .int 0, .int 0, .int 0, .ref mo])), (q1, .inl (cy, 8, .inl (fun _ => 0))), (q2, .inl (cy, 8, .inl (fun _ => 0))), (q3, .inl (cy, 8, .inl (fun _ => 0)))]) := hD
  refine va_putF (D := D) (ci := 1) (v := .ref q3) (ty := .array .int) (C := RX1) (T := TX1) (N := 15) hx hb hts inX1_init_1 tyX1 tyX1_ok nmX1 hown hK.1 hP hD hS 0 rfl rfl 4 (by decide) (hts (.fieldLink RX1 22 "ChalkSlateModel$State" "stamp" "[I") (by decide +kernel)) (fun _ h9 => h9) rfl hin rfl (by decide +kernel) rfl rfl (Nat.le_of_ble_eq_true rfl) dX1_init_30 (fun H locs hP hD hS => ?_)
  have hP : va_P D vwCl ([(q, .inr (1, [.int 0, .int 0, .ref q1, .ref q2, .ref q3, .null, .null, .null, .null, .null, .null, .int 0, .int 0, .int 0, .ref mo])), (q1, .inl (cy, 8, .inl (fun _ => 0))), (q2, .inl (cy, 8, .inl (fun _ => 0))), (q3, .inl (cy, 8, .inl (fun _ => 0)))]) H := hP
  have hD : va_D A ([(q, .inr (1, [.int 0, .int 0, .ref q1, .ref q2, .ref q3, .null, .null, .null, .null, .null, .null, .int 0, .int 0, .int 0, .ref mo])), (q1, .inl (cy, 8, .inl (fun _ => 0))), (q2, .inl (cy, 8, .inl (fun _ => 0))), (q3, .inl (cy, 8, .inl (fun _ => 0)))]) := hD
  refine lv_aload_n hx hb dX1_init_33 rfl (lv_at hl 0 rfl) ?_
  refine lv_bipush (v := 120) hx hb dX1_init_34 (by decide) ?_
  refine va_newa (atype := .int) (N' := 120) (a0 := (120, .inl (fun _ => 0))) hx hb (hts (.arrayClass .int) (by decide +kernel)) rfl hK.1 hP hD hS hA (fun _ => rfl) (by decide) (by decide) (by decide) (Nat.le_of_ble_eq_true rfl) (Nat.le_of_ble_eq_true rfl) dX1_init_36 (fun q4 cA H hK9 hP hD hS => ?_)
  rw [show cA = cy from Option.some.inj ((hK9.2 1 _ rfl).2.symm.trans (hK9.2 0 _ rfl).2)] at hP hD
  have hP : va_P D vwCl ([(q, .inr (1, [.int 0, .int 0, .ref q1, .ref q2, .ref q3, .null, .null, .null, .null, .null, .null, .int 0, .int 0, .int 0, .ref mo])), (q1, .inl (cy, 8, .inl (fun _ => 0))), (q2, .inl (cy, 8, .inl (fun _ => 0))), (q3, .inl (cy, 8, .inl (fun _ => 0))), (q4, .inl (cy, 120, .inl (fun _ => 0)))]) H := hP
  have hD : va_D A ([(q, .inr (1, [.int 0, .int 0, .ref q1, .ref q2, .ref q3, .null, .null, .null, .null, .null, .null, .int 0, .int 0, .int 0, .ref mo])), (q1, .inl (cy, 8, .inl (fun _ => 0))), (q2, .inl (cy, 8, .inl (fun _ => 0))), (q3, .inl (cy, 8, .inl (fun _ => 0))), (q4, .inl (cy, 120, .inl (fun _ => 0)))]) := hD
  refine va_putF (D := D) (ci := 1) (v := .ref q4) (ty := .array .int) (C := RX1) (T := TX1) (N := 15) hx hb hts inX1_init_1 tyX1 tyX1_ok nmX1 hown hK.1 hP hD hS 0 rfl rfl 5 (by decide) (hts (.fieldLink RX1 25 "ChalkSlateModel$State" "dish" "[I") (by decide +kernel)) (fun _ h9 => h9) rfl hin rfl (by decide +kernel) rfl rfl (Nat.le_of_ble_eq_true rfl) dX1_init_38 (fun H locs hP hD hS => ?_)
  have hP : va_P D vwCl ([(q, .inr (1, [.int 0, .int 0, .ref q1, .ref q2, .ref q3, .ref q4, .null, .null, .null, .null, .null, .int 0, .int 0, .int 0, .ref mo])), (q1, .inl (cy, 8, .inl (fun _ => 0))), (q2, .inl (cy, 8, .inl (fun _ => 0))), (q3, .inl (cy, 8, .inl (fun _ => 0))), (q4, .inl (cy, 120, .inl (fun _ => 0)))]) H := hP
  have hD : va_D A ([(q, .inr (1, [.int 0, .int 0, .ref q1, .ref q2, .ref q3, .ref q4, .null, .null, .null, .null, .null, .int 0, .int 0, .int 0, .ref mo])), (q1, .inl (cy, 8, .inl (fun _ => 0))), (q2, .inl (cy, 8, .inl (fun _ => 0))), (q3, .inl (cy, 8, .inl (fun _ => 0))), (q4, .inl (cy, 120, .inl (fun _ => 0)))]) := hD
  refine lv_aload_n hx hb dX1_init_41 rfl (lv_at hl 0 rfl) ?_
  refine lv_bipush (v := 120) hx hb dX1_init_42 (by decide) ?_
  refine va_newa (atype := .int) (N' := 120) (a0 := (120, .inl (fun _ => 0))) hx hb (hts (.arrayClass .int) (by decide +kernel)) rfl hK.1 hP hD hS hA (fun _ => rfl) (by decide) (by decide) (by decide) (Nat.le_of_ble_eq_true rfl) (Nat.le_of_ble_eq_true rfl) dX1_init_44 (fun q5 cA H hK9 hP hD hS => ?_)
  rw [show cA = cy from Option.some.inj ((hK9.2 1 _ rfl).2.symm.trans (hK9.2 0 _ rfl).2)] at hP hD
  have hP : va_P D vwCl ([(q, .inr (1, [.int 0, .int 0, .ref q1, .ref q2, .ref q3, .ref q4, .null, .null, .null, .null, .null, .int 0, .int 0, .int 0, .ref mo])), (q1, .inl (cy, 8, .inl (fun _ => 0))), (q2, .inl (cy, 8, .inl (fun _ => 0))), (q3, .inl (cy, 8, .inl (fun _ => 0))), (q4, .inl (cy, 120, .inl (fun _ => 0))), (q5, .inl (cy, 120, .inl (fun _ => 0)))]) H := hP
  have hD : va_D A ([(q, .inr (1, [.int 0, .int 0, .ref q1, .ref q2, .ref q3, .ref q4, .null, .null, .null, .null, .null, .int 0, .int 0, .int 0, .ref mo])), (q1, .inl (cy, 8, .inl (fun _ => 0))), (q2, .inl (cy, 8, .inl (fun _ => 0))), (q3, .inl (cy, 8, .inl (fun _ => 0))), (q4, .inl (cy, 120, .inl (fun _ => 0))), (q5, .inl (cy, 120, .inl (fun _ => 0)))]) := hD
  refine va_putF (D := D) (ci := 1) (v := .ref q5) (ty := .array .int) (C := RX1) (T := TX1) (N := 15) hx hb hts inX1_init_1 tyX1 tyX1_ok nmX1 hown hK.1 hP hD hS 0 rfl rfl 6 (by decide) (hts (.fieldLink RX1 28 "ChalkSlateModel$State" "kind" "[I") (by decide +kernel)) (fun _ h9 => h9) rfl hin rfl (by decide +kernel) rfl rfl (Nat.le_of_ble_eq_true rfl) dX1_init_46 (fun H locs hP hD hS => ?_)
  have hP : va_P D vwCl ([(q, .inr (1, [.int 0, .int 0, .ref q1, .ref q2, .ref q3, .ref q4, .ref q5, .null, .null, .null, .null, .int 0, .int 0, .int 0, .ref mo])), (q1, .inl (cy, 8, .inl (fun _ => 0))), (q2, .inl (cy, 8, .inl (fun _ => 0))), (q3, .inl (cy, 8, .inl (fun _ => 0))), (q4, .inl (cy, 120, .inl (fun _ => 0))), (q5, .inl (cy, 120, .inl (fun _ => 0)))]) H := hP
  have hD : va_D A ([(q, .inr (1, [.int 0, .int 0, .ref q1, .ref q2, .ref q3, .ref q4, .ref q5, .null, .null, .null, .null, .int 0, .int 0, .int 0, .ref mo])), (q1, .inl (cy, 8, .inl (fun _ => 0))), (q2, .inl (cy, 8, .inl (fun _ => 0))), (q3, .inl (cy, 8, .inl (fun _ => 0))), (q4, .inl (cy, 120, .inl (fun _ => 0))), (q5, .inl (cy, 120, .inl (fun _ => 0)))]) := hD
  refine lv_aload_n hx hb dX1_init_49 rfl (lv_at hl 0 rfl) ?_
  refine lv_bipush (v := 120) hx hb dX1_init_50 (by decide) ?_
  refine va_newa (atype := .int) (N' := 120) (a0 := (120, .inl (fun _ => 0))) hx hb (hts (.arrayClass .int) (by decide +kernel)) rfl hK.1 hP hD hS hA (fun _ => rfl) (by decide) (by decide) (by decide) (Nat.le_of_ble_eq_true rfl) (Nat.le_of_ble_eq_true rfl) dX1_init_52 (fun q6 cA H hK9 hP hD hS => ?_)
  rw [show cA = cy from Option.some.inj ((hK9.2 1 _ rfl).2.symm.trans (hK9.2 0 _ rfl).2)] at hP hD
  have hP : va_P D vwCl ([(q, .inr (1, [.int 0, .int 0, .ref q1, .ref q2, .ref q3, .ref q4, .ref q5, .null, .null, .null, .null, .int 0, .int 0, .int 0, .ref mo])), (q1, .inl (cy, 8, .inl (fun _ => 0))), (q2, .inl (cy, 8, .inl (fun _ => 0))), (q3, .inl (cy, 8, .inl (fun _ => 0))), (q4, .inl (cy, 120, .inl (fun _ => 0))), (q5, .inl (cy, 120, .inl (fun _ => 0))), (q6, .inl (cy, 120, .inl (fun _ => 0)))]) H := hP
  have hD : va_D A ([(q, .inr (1, [.int 0, .int 0, .ref q1, .ref q2, .ref q3, .ref q4, .ref q5, .null, .null, .null, .null, .int 0, .int 0, .int 0, .ref mo])), (q1, .inl (cy, 8, .inl (fun _ => 0))), (q2, .inl (cy, 8, .inl (fun _ => 0))), (q3, .inl (cy, 8, .inl (fun _ => 0))), (q4, .inl (cy, 120, .inl (fun _ => 0))), (q5, .inl (cy, 120, .inl (fun _ => 0))), (q6, .inl (cy, 120, .inl (fun _ => 0)))]) := hD
  refine va_putF (D := D) (ci := 1) (v := .ref q6) (ty := .array .int) (C := RX1) (T := TX1) (N := 15) hx hb hts inX1_init_1 tyX1 tyX1_ok nmX1 hown hK.1 hP hD hS 0 rfl rfl 7 (by decide) (hts (.fieldLink RX1 31 "ChalkSlateModel$State" "pot" "[I") (by decide +kernel)) (fun _ h9 => h9) rfl hin rfl (by decide +kernel) rfl rfl (Nat.le_of_ble_eq_true rfl) dX1_init_54 (fun H locs hP hD hS => ?_)
  have hP : va_P D vwCl ([(q, .inr (1, [.int 0, .int 0, .ref q1, .ref q2, .ref q3, .ref q4, .ref q5, .ref q6, .null, .null, .null, .int 0, .int 0, .int 0, .ref mo])), (q1, .inl (cy, 8, .inl (fun _ => 0))), (q2, .inl (cy, 8, .inl (fun _ => 0))), (q3, .inl (cy, 8, .inl (fun _ => 0))), (q4, .inl (cy, 120, .inl (fun _ => 0))), (q5, .inl (cy, 120, .inl (fun _ => 0))), (q6, .inl (cy, 120, .inl (fun _ => 0)))]) H := hP
  have hD : va_D A ([(q, .inr (1, [.int 0, .int 0, .ref q1, .ref q2, .ref q3, .ref q4, .ref q5, .ref q6, .null, .null, .null, .int 0, .int 0, .int 0, .ref mo])), (q1, .inl (cy, 8, .inl (fun _ => 0))), (q2, .inl (cy, 8, .inl (fun _ => 0))), (q3, .inl (cy, 8, .inl (fun _ => 0))), (q4, .inl (cy, 120, .inl (fun _ => 0))), (q5, .inl (cy, 120, .inl (fun _ => 0))), (q6, .inl (cy, 120, .inl (fun _ => 0)))]) := hD
  refine lv_aload_n hx hb dX1_init_57 rfl (lv_at hl 0 rfl) ?_
  refine lv_bipush (v := 120) hx hb dX1_init_58 (by decide) ?_
  refine va_newa (atype := .int) (N' := 120) (a0 := (120, .inl (fun _ => 0))) hx hb (hts (.arrayClass .int) (by decide +kernel)) rfl hK.1 hP hD hS hA (fun _ => rfl) (by decide) (by decide) (by decide) (Nat.le_of_ble_eq_true rfl) (Nat.le_of_ble_eq_true rfl) dX1_init_60 (fun q7 cA H hK9 hP hD hS => ?_)
  rw [show cA = cy from Option.some.inj ((hK9.2 1 _ rfl).2.symm.trans (hK9.2 0 _ rfl).2)] at hP hD
  have hP : va_P D vwCl ([(q, .inr (1, [.int 0, .int 0, .ref q1, .ref q2, .ref q3, .ref q4, .ref q5, .ref q6, .null, .null, .null, .int 0, .int 0, .int 0, .ref mo])), (q1, .inl (cy, 8, .inl (fun _ => 0))), (q2, .inl (cy, 8, .inl (fun _ => 0))), (q3, .inl (cy, 8, .inl (fun _ => 0))), (q4, .inl (cy, 120, .inl (fun _ => 0))), (q5, .inl (cy, 120, .inl (fun _ => 0))), (q6, .inl (cy, 120, .inl (fun _ => 0))), (q7, .inl (cy, 120, .inl (fun _ => 0)))]) H := hP
  have hD : va_D A ([(q, .inr (1, [.int 0, .int 0, .ref q1, .ref q2, .ref q3, .ref q4, .ref q5, .ref q6, .null, .null, .null, .int 0, .int 0, .int 0, .ref mo])), (q1, .inl (cy, 8, .inl (fun _ => 0))), (q2, .inl (cy, 8, .inl (fun _ => 0))), (q3, .inl (cy, 8, .inl (fun _ => 0))), (q4, .inl (cy, 120, .inl (fun _ => 0))), (q5, .inl (cy, 120, .inl (fun _ => 0))), (q6, .inl (cy, 120, .inl (fun _ => 0))), (q7, .inl (cy, 120, .inl (fun _ => 0)))]) := hD
  refine va_putF (D := D) (ci := 1) (v := .ref q7) (ty := .array .int) (C := RX1) (T := TX1) (N := 15) hx hb hts inX1_init_1 tyX1 tyX1_ok nmX1 hown hK.1 hP hD hS 0 rfl rfl 8 (by decide) (hts (.fieldLink RX1 34 "ChalkSlateModel$State" "ahead" "[I") (by decide +kernel)) (fun _ h9 => h9) rfl hin rfl (by decide +kernel) rfl rfl (Nat.le_of_ble_eq_true rfl) dX1_init_62 (fun H locs hP hD hS => ?_)
  have hP : va_P D vwCl ([(q, .inr (1, [.int 0, .int 0, .ref q1, .ref q2, .ref q3, .ref q4, .ref q5, .ref q6, .ref q7, .null, .null, .int 0, .int 0, .int 0, .ref mo])), (q1, .inl (cy, 8, .inl (fun _ => 0))), (q2, .inl (cy, 8, .inl (fun _ => 0))), (q3, .inl (cy, 8, .inl (fun _ => 0))), (q4, .inl (cy, 120, .inl (fun _ => 0))), (q5, .inl (cy, 120, .inl (fun _ => 0))), (q6, .inl (cy, 120, .inl (fun _ => 0))), (q7, .inl (cy, 120, .inl (fun _ => 0)))]) H := hP
  have hD : va_D A ([(q, .inr (1, [.int 0, .int 0, .ref q1, .ref q2, .ref q3, .ref q4, .ref q5, .ref q6, .ref q7, .null, .null, .int 0, .int 0, .int 0, .ref mo])), (q1, .inl (cy, 8, .inl (fun _ => 0))), (q2, .inl (cy, 8, .inl (fun _ => 0))), (q3, .inl (cy, 8, .inl (fun _ => 0))), (q4, .inl (cy, 120, .inl (fun _ => 0))), (q5, .inl (cy, 120, .inl (fun _ => 0))), (q6, .inl (cy, 120, .inl (fun _ => 0))), (q7, .inl (cy, 120, .inl (fun _ => 0)))]) := hD
  refine lv_aload_n hx hb dX1_init_65 rfl (lv_at hl 0 rfl) ?_
  refine lv_bipush (v := 120) hx hb dX1_init_66 (by decide) ?_
  refine va_newa (atype := .int) (N' := 120) (a0 := (120, .inl (fun _ => 0))) hx hb (hts (.arrayClass .int) (by decide +kernel)) rfl hK.1 hP hD hS hA (fun _ => rfl) (by decide) (by decide) (by decide) (Nat.le_of_ble_eq_true rfl) (Nat.le_of_ble_eq_true rfl) dX1_init_68 (fun q8 cA H hK9 hP hD hS => ?_)
  rw [show cA = cy from Option.some.inj ((hK9.2 1 _ rfl).2.symm.trans (hK9.2 0 _ rfl).2)] at hP hD
  have hP : va_P D vwCl ([(q, .inr (1, [.int 0, .int 0, .ref q1, .ref q2, .ref q3, .ref q4, .ref q5, .ref q6, .ref q7, .null, .null, .int 0, .int 0, .int 0, .ref mo])), (q1, .inl (cy, 8, .inl (fun _ => 0))), (q2, .inl (cy, 8, .inl (fun _ => 0))), (q3, .inl (cy, 8, .inl (fun _ => 0))), (q4, .inl (cy, 120, .inl (fun _ => 0))), (q5, .inl (cy, 120, .inl (fun _ => 0))), (q6, .inl (cy, 120, .inl (fun _ => 0))), (q7, .inl (cy, 120, .inl (fun _ => 0))), (q8, .inl (cy, 120, .inl (fun _ => 0)))]) H := hP
  have hD : va_D A ([(q, .inr (1, [.int 0, .int 0, .ref q1, .ref q2, .ref q3, .ref q4, .ref q5, .ref q6, .ref q7, .null, .null, .int 0, .int 0, .int 0, .ref mo])), (q1, .inl (cy, 8, .inl (fun _ => 0))), (q2, .inl (cy, 8, .inl (fun _ => 0))), (q3, .inl (cy, 8, .inl (fun _ => 0))), (q4, .inl (cy, 120, .inl (fun _ => 0))), (q5, .inl (cy, 120, .inl (fun _ => 0))), (q6, .inl (cy, 120, .inl (fun _ => 0))), (q7, .inl (cy, 120, .inl (fun _ => 0))), (q8, .inl (cy, 120, .inl (fun _ => 0)))]) := hD
  refine va_putF (D := D) (ci := 1) (v := .ref q8) (ty := .array .int) (C := RX1) (T := TX1) (N := 15) hx hb hts inX1_init_1 tyX1 tyX1_ok nmX1 hown hK.1 hP hD hS 0 rfl rfl 9 (by decide) (hts (.fieldLink RX1 37 "ChalkSlateModel$State" "behind" "[I") (by decide +kernel)) (fun _ h9 => h9) rfl hin rfl (by decide +kernel) rfl rfl (Nat.le_of_ble_eq_true rfl) dX1_init_70 (fun H locs hP hD hS => ?_)
  have hP : va_P D vwCl ([(q, .inr (1, [.int 0, .int 0, .ref q1, .ref q2, .ref q3, .ref q4, .ref q5, .ref q6, .ref q7, .ref q8, .null, .int 0, .int 0, .int 0, .ref mo])), (q1, .inl (cy, 8, .inl (fun _ => 0))), (q2, .inl (cy, 8, .inl (fun _ => 0))), (q3, .inl (cy, 8, .inl (fun _ => 0))), (q4, .inl (cy, 120, .inl (fun _ => 0))), (q5, .inl (cy, 120, .inl (fun _ => 0))), (q6, .inl (cy, 120, .inl (fun _ => 0))), (q7, .inl (cy, 120, .inl (fun _ => 0))), (q8, .inl (cy, 120, .inl (fun _ => 0)))]) H := hP
  have hD : va_D A ([(q, .inr (1, [.int 0, .int 0, .ref q1, .ref q2, .ref q3, .ref q4, .ref q5, .ref q6, .ref q7, .ref q8, .null, .int 0, .int 0, .int 0, .ref mo])), (q1, .inl (cy, 8, .inl (fun _ => 0))), (q2, .inl (cy, 8, .inl (fun _ => 0))), (q3, .inl (cy, 8, .inl (fun _ => 0))), (q4, .inl (cy, 120, .inl (fun _ => 0))), (q5, .inl (cy, 120, .inl (fun _ => 0))), (q6, .inl (cy, 120, .inl (fun _ => 0))), (q7, .inl (cy, 120, .inl (fun _ => 0))), (q8, .inl (cy, 120, .inl (fun _ => 0)))]) := hD
  refine lv_aload_n hx hb dX1_init_73 rfl (lv_at hl 0 rfl) ?_
  refine lv_bipush (v := 120) hx hb dX1_init_74 (by decide) ?_
  refine va_newa (atype := .int) (N' := 120) (a0 := (120, .inl (fun _ => 0))) hx hb (hts (.arrayClass .int) (by decide +kernel)) rfl hK.1 hP hD hS hA (fun _ => rfl) (by decide) (by decide) (by decide) (Nat.le_of_ble_eq_true rfl) (Nat.le_of_ble_eq_true rfl) dX1_init_76 (fun q9 cA H hK9 hP hD hS => ?_)
  rw [show cA = cy from Option.some.inj ((hK9.2 1 _ rfl).2.symm.trans (hK9.2 0 _ rfl).2)] at hP hD
  have hP : va_P D vwCl ([(q, .inr (1, [.int 0, .int 0, .ref q1, .ref q2, .ref q3, .ref q4, .ref q5, .ref q6, .ref q7, .ref q8, .null, .int 0, .int 0, .int 0, .ref mo])), (q1, .inl (cy, 8, .inl (fun _ => 0))), (q2, .inl (cy, 8, .inl (fun _ => 0))), (q3, .inl (cy, 8, .inl (fun _ => 0))), (q4, .inl (cy, 120, .inl (fun _ => 0))), (q5, .inl (cy, 120, .inl (fun _ => 0))), (q6, .inl (cy, 120, .inl (fun _ => 0))), (q7, .inl (cy, 120, .inl (fun _ => 0))), (q8, .inl (cy, 120, .inl (fun _ => 0))), (q9, .inl (cy, 120, .inl (fun _ => 0)))]) H := hP
  have hD : va_D A ([(q, .inr (1, [.int 0, .int 0, .ref q1, .ref q2, .ref q3, .ref q4, .ref q5, .ref q6, .ref q7, .ref q8, .null, .int 0, .int 0, .int 0, .ref mo])), (q1, .inl (cy, 8, .inl (fun _ => 0))), (q2, .inl (cy, 8, .inl (fun _ => 0))), (q3, .inl (cy, 8, .inl (fun _ => 0))), (q4, .inl (cy, 120, .inl (fun _ => 0))), (q5, .inl (cy, 120, .inl (fun _ => 0))), (q6, .inl (cy, 120, .inl (fun _ => 0))), (q7, .inl (cy, 120, .inl (fun _ => 0))), (q8, .inl (cy, 120, .inl (fun _ => 0))), (q9, .inl (cy, 120, .inl (fun _ => 0)))]) := hD
  refine va_putF (D := D) (ci := 1) (v := .ref q9) (ty := .array .int) (C := RX1) (T := TX1) (N := 15) hx hb hts inX1_init_1 tyX1 tyX1_ok nmX1 hown hK.1 hP hD hS 0 rfl rfl 10 (by decide) (hts (.fieldLink RX1 40 "ChalkSlateModel$State" "takes" "[I") (by decide +kernel)) (fun _ h9 => h9) rfl hin rfl (by decide +kernel) rfl rfl (Nat.le_of_ble_eq_true rfl) dX1_init_78 (fun H locs hP hD hS => ?_)
  have hP : va_P D vwCl ([(q, .inr (1, [.int 0, .int 0, .ref q1, .ref q2, .ref q3, .ref q4, .ref q5, .ref q6, .ref q7, .ref q8, .ref q9, .int 0, .int 0, .int 0, .ref mo])), (q1, .inl (cy, 8, .inl (fun _ => 0))), (q2, .inl (cy, 8, .inl (fun _ => 0))), (q3, .inl (cy, 8, .inl (fun _ => 0))), (q4, .inl (cy, 120, .inl (fun _ => 0))), (q5, .inl (cy, 120, .inl (fun _ => 0))), (q6, .inl (cy, 120, .inl (fun _ => 0))), (q7, .inl (cy, 120, .inl (fun _ => 0))), (q8, .inl (cy, 120, .inl (fun _ => 0))), (q9, .inl (cy, 120, .inl (fun _ => 0)))]) H := hP
  have hD : va_D A ([(q, .inr (1, [.int 0, .int 0, .ref q1, .ref q2, .ref q3, .ref q4, .ref q5, .ref q6, .ref q7, .ref q8, .ref q9, .int 0, .int 0, .int 0, .ref mo])), (q1, .inl (cy, 8, .inl (fun _ => 0))), (q2, .inl (cy, 8, .inl (fun _ => 0))), (q3, .inl (cy, 8, .inl (fun _ => 0))), (q4, .inl (cy, 120, .inl (fun _ => 0))), (q5, .inl (cy, 120, .inl (fun _ => 0))), (q6, .inl (cy, 120, .inl (fun _ => 0))), (q7, .inl (cy, 120, .inl (fun _ => 0))), (q8, .inl (cy, 120, .inl (fun _ => 0))), (q9, .inl (cy, 120, .inl (fun _ => 0)))]) := hD
  refine lv_iconst (v := 0) hx hb dX1_init_81 (by decide) ?_
  refine lv_istore_n (lv' := [(2, .int 0), (0, .ref q), (1, .ref mo)]) hx hb dX1_init_82 rfl hl (by decide) rfl (fun ls hl => ?_)
  have loop : ∀ (k i : Nat) (f0 : Nat → Int32), i + k = 8 → f0 = fillP (-1) (fun _ => 0) i → ∀ (H : Heap) (locs : List Loc), va_P D vwCl ([(q, .inr (1, [.int 0, .int 0, .ref q1, .ref q2, .ref q3, .ref q4, .ref q5, .ref q6, .ref q7, .ref q8, .ref q9, .int 0, .int 0, .int 0, .ref mo])), (q1, .inl (cy, 8, .inl (fun _ => 0))), (q2, .inl (cy, 8, .inl (fun _ => 0))), (q3, .inl (cy, 8, .inl f0)), (q4, .inl (cy, 120, .inl (fun _ => 0))), (q5, .inl (cy, 120, .inl (fun _ => 0))), (q6, .inl (cy, 120, .inl (fun _ => 0))), (q7, .inl (cy, 120, .inl (fun _ => 0))), (q8, .inl (cy, 120, .inl (fun _ => 0))), (q9, .inl (cy, 120, .inl (fun _ => 0)))]) H → va_D A ([(q, .inr (1, [.int 0, .int 0, .ref q1, .ref q2, .ref q3, .ref q4, .ref q5, .ref q6, .ref q7, .ref q8, .ref q9, .int 0, .int 0, .int 0, .ref mo])), (q1, .inl (cy, 8, .inl (fun _ => 0))), (q2, .inl (cy, 8, .inl (fun _ => 0))), (q3, .inl (cy, 8, .inl f0)), (q4, .inl (cy, 120, .inl (fun _ => 0))), (q5, .inl (cy, 120, .inl (fun _ => 0))), (q6, .inl (cy, 120, .inl (fun _ => 0))), (q7, .inl (cy, 120, .inl (fun _ => 0))), (q8, .inl (cy, 120, .inl (fun _ => 0))), (q9, .inl (cy, 120, .inl (fun _ => 0)))]) → va_S A s.heap H locs → ∀ ls : Array Slot, lv_has ls 3 [(0, .ref q), (1, .ref mo), (2, .int (nI i))] → W p l e (headSpec wsX1_init { frames := 1, cells := 9, slots := 744, locals := 20 }).room s m ([.ref q, .ref mo] : List Value).toArray below meth c H locs 9 744 (MQ below (va_Qv (fun _ : (Nat → Nat) => True) (fun u t => va_P D vwCl (cS q u cy initR 0 0 0 0 0 mo) t.heap ∧ va_D A (cS q u cy initR 0 0 0 0 0 mo)) A) ([.ref q, .ref mo] : List Value).toArray s 9 744 A) (F0 m 83 ls []) := by
    intro k
    induction k with
    | zero =>
      intro i f0 hik hf H locs hP hD hS ls hl
      have hin : i = 8 := by omega
      refine lv_iload_n hx hb dX1_init_83 rfl (lv_at hl 2 rfl) ?_
      refine lv_bipush (v := 8) hx hb dX1_init_84 (by decide) ?_
      refine lv_icmp_ge (tgt := 102) hx hb dX1_init_86 (by decide) (fun c1 => ?_) (fun c1 => absurd (nI_le (a := 8) (by omega) (by omega)) c1)
      rw [show f0 = fillP (-1) (fun _ => 0) 8 by rw [hf, hin]] at hP hD
      refine W.widen (k := 9) (n := 744) (Nat.le_of_ble_eq_true rfl) (Nat.le_of_ble_eq_true rfl) ?_
      exact W.vret hx hb hr (fun t ht hW => ⟨⟨(fun k => [q1, q2, q3, 0, q4, q5, q6, q7, q8, q9].getD k 0), rfl, trivial, (by show va_P D vwCl (cS q (fun k => [q1, q2, q3, 0, q4, q5, q6, q7, q8, q9].getD k 0) cy initR 0 0 0 0 0 mo) t.heap; rw [ht]; exact hP), hD⟩, hS.F ht⟩) hS.2.2 dX1_init_102
    | succ k ih =>
      intro i f0 hik hf H locs hP hD hS ls hl
      refine lv_iload_n hx hb dX1_init_83 rfl (lv_at hl 2 rfl) ?_
      refine lv_bipush (v := 8) hx hb dX1_init_84 (by decide) ?_
      refine lv_icmp_ge (tgt := 102) hx hb dX1_init_86 (by decide) (fun c2 => absurd c2 (nI_ge (b := 8) (by omega) (by omega))) (fun c2 => ?_)
      refine lv_aload_n hx hb dX1_init_89 rfl (lv_at hl 0 rfl) ?_
      refine va_get (D := D) (ci := 1) (v := .ref q3) (C := RX1) (T := TX1) (N := 15) hx hb hts inX1_init_1 hown hK.1 hP 0 rfl rfl 4 (by decide) (hts (.fieldLink RX1 22 "ChalkSlateModel$State" "stamp" "[I") (by decide +kernel)) (fun _ h9 => h9) rfl dX1_init_90 ?_
      refine lv_iload_n hx hb dX1_init_93 rfl (lv_at hl 2 rfl) ?_
      refine lv_iconst (v := (-1)) hx hb dX1_init_94 (by decide) ?_
      refine va_iast hx hb hK.1 hP hD hS 3 0 rfl rfl (vp_in_nI (by omega) (by omega)) dX1_init_95 (fun H locs hP hD hS => ?_)
      rw [nI_clamp (n := i) (by omega)] at hP hD
      have hP : va_P D vwCl ([(q, .inr (1, [.int 0, .int 0, .ref q1, .ref q2, .ref q3, .ref q4, .ref q5, .ref q6, .ref q7, .ref q8, .ref q9, .int 0, .int 0, .int 0, .ref mo])), (q1, .inl (cy, 8, .inl (fun _ => 0))), (q2, .inl (cy, 8, .inl (fun _ => 0))), (q3, .inl (cy, 8, .inl (upd f0 i (-1)))), (q4, .inl (cy, 120, .inl (fun _ => 0))), (q5, .inl (cy, 120, .inl (fun _ => 0))), (q6, .inl (cy, 120, .inl (fun _ => 0))), (q7, .inl (cy, 120, .inl (fun _ => 0))), (q8, .inl (cy, 120, .inl (fun _ => 0))), (q9, .inl (cy, 120, .inl (fun _ => 0)))]) H := hP
      have hD : va_D A ([(q, .inr (1, [.int 0, .int 0, .ref q1, .ref q2, .ref q3, .ref q4, .ref q5, .ref q6, .ref q7, .ref q8, .ref q9, .int 0, .int 0, .int 0, .ref mo])), (q1, .inl (cy, 8, .inl (fun _ => 0))), (q2, .inl (cy, 8, .inl (fun _ => 0))), (q3, .inl (cy, 8, .inl (upd f0 i (-1)))), (q4, .inl (cy, 120, .inl (fun _ => 0))), (q5, .inl (cy, 120, .inl (fun _ => 0))), (q6, .inl (cy, 120, .inl (fun _ => 0))), (q7, .inl (cy, 120, .inl (fun _ => 0))), (q8, .inl (cy, 120, .inl (fun _ => 0))), (q9, .inl (cy, 120, .inl (fun _ => 0)))]) := hD
      refine lv_iinc (v := nI (i + 1)) (lv' := [(2, .int (nI (i + 1))), (0, .ref q), (1, .ref mo)]) hx hb dX1_init_96 hl (k := 2) rfl ((nI_succ i).symm) (by decide) rfl (fun ls hl => ?_)
      refine lv_goto (tgt := 83) hx hb dX1_init_99 (by decide) ?_
      refine W.cs (cells' := 9) (slots' := 744) (by omega) (by omega) ?_
      exact ih (i + 1) (upd f0 i (-1)) (by omega) (by rw [fillP, ← hf]) H locs hP hD hS ls (lv_sub hl [1, 2, 0] rfl)
  refine W.cs (cells' := 9) (slots' := 744) (by omega) (by omega) ?_
  exact loop 8 0 (fun _ => 0) (Nat.zero_add _) (rfl) H locs hP hD hS ls (lv_sub hl [1, 2, 0] rfl)

set_option maxRecDepth 100000 in
theorem inX2_init_2 : ∀ w ∈ wsX20, w ∈ wsX2_init := by decide +kernel

set_option maxRecDepth 100000 in
theorem inX2_init_1 : ∀ w ∈ wsX10, w ∈ wsX2_init := by decide +kernel

set_option maxHeartbeats 4000000 in
set_option maxRecDepth 100000 in
theorem mX2_init (l : Launch) (D : va_G) (cy : ClassId) (mo sz : Nat) : Met l yX2_init wsX2_init { frames := 2, cells := 20, slots := 1518, locals := 42 } (va_Pc [.ref mo] (wrB D cy ([(mo, .inr (2, [.int 0, .int 0, .int 0, .null, .null]))]) sz)) (va_Qv (fun _ : Nat × (Nat → Nat) × Nat × (Nat → Nat) => True) (fun u t => va_P D vwCl (cW u.1 u.2.1 cy initR 0 0 0 0 0 mo 0 0 0 u.2.2.1 u.2.2.2 initR 0 0 0 0 0) t.heap ∧ va_D (va_A ([(mo, .inr (2, [.int 0, .int 0, .int 0, .null, .null]))]) sz) (cW u.1 u.2.1 cy initR 0 0 0 0 0 mo 0 0 0 u.2.2.1 u.2.2.2 initR 0 0 0 0 0)) (va_A ([(mo, .inr (2, [.int 0, .int 0, .int 0, .null, .null]))]) sz)) 20 1518 (va_A ([(mo, .inr (2, [.int 0, .int 0, .int 0, .null, .null]))]) sz) := by
  refine Met.ofW (cc := cX2_init) (maxL := 1) (ret := none) (by decide) rfl ?_
  intro p e s m args below meth c s₁ B hml hv
  obtain ⟨rfl, hsz, hP, hK, hD0⟩ := hv
  have hx := B.exec
  have hb := B.bytes
  have hr := B.returns
  have hts := atoms_spec (ws := wsX2_init) B.pre
  have hown : s.vm.findClass RX2 = some m.cls := findClass_of_methodNamed B.named
  have hlocks := B.notSynchronized
  have hin : meth.name = "<init>" := (name_of_methodNamed B.named B.method).1
  subst hsz
  have hD := hD0.self (sz := s.heap.size)
  generalize hAe : va_A [(mo, .inr (2, [.int 0, .int 0, .int 0, .null, .null]))] s.heap.size = A at hD ⊢
  have hA : ∀ q : Nat, s.heap.size ≤ q → A q := fun q h => by rw [← hAe]; exact Or.inr h
  have hS : va_S A s.heap s.heap [] := va_S.rf
  have hl := lv_entry ([.ref mo]) (n := 1) (Nat.le_of_ble_eq_true rfl)
  rw [lg_entry_eq]
  generalize (lg_sl ([.ref mo]) ++ List.replicate (1 - (lg_sl ([.ref mo])).length) Slot.unset).toArray = ls at hl ⊢
  have hl : lv_has ls 1 [(0, .ref mo)] := hl
  refine lv_aload_n hx hb dX2_init_0 rfl (lv_at hl 0 rfl) ?_
  refine W.objInit hx hb hown (hts (.methodLink RX2 1 objectInit) (by decide +kernel)) (hts (.instanceMethod objectInit) (by decide +kernel)) (hts (.code objectInit ⟨#[0xb1]⟩ 1 none) (by decide +kernel)) rfl (by rw [hml]; exact hl.1) rfl dX2_init_1 (Nat.le_of_ble_eq_true rfl) (Nat.le_of_ble_eq_true rfl) ?_
  refine W.eq (g2 := F0 m 4 ls []) rfl ?_
  refine lv_aload_n hx hb dX2_init_4 rfl (lv_at hl 0 rfl) ?_
  refine va_new (ci := 1) (fs := [.int 0, .int 0, .null, .null, .null, .null, .null, .null, .null, .null, .null, .int 0, .int 0, .int 0, .null]) (C := RX1) (T := TX1) (N := 15) hx hb hts inX2_init_1 tyX1 tyX1_ok hown (hts (.classLink RX2 7 RX1) (by decide +kernel)) (hts (.instantiable RX1 15) (by decide +kernel)) (hts (.initialized RX1) (by decide +kernel)) hK.1 hP hD hS hA rfl (fun j hj => by rcases (show j = 0 ∨ j = 1 ∨ j = 2 ∨ j = 3 ∨ j = 4 ∨ j = 5 ∨ j = 6 ∨ j = 7 ∨ j = 8 ∨ j = 9 ∨ j = 10 ∨ j = 11 ∨ j = 12 ∨ j = 13 ∨ j = 14 by omega) with rfl | rfl | rfl | rfl | rfl | rfl | rfl | rfl | rfl | rfl | rfl | rfl | rfl | rfl | rfl <;> rfl) (Nat.le_of_ble_eq_true rfl) (Nat.le_of_ble_eq_true rfl) dX2_init_5 (fun q0 H hP hD hS => ?_)
  refine lv_dup hx hb dX2_init_8 rfl ?_
  refine lv_aload_n hx hb dX2_init_9 rfl (lv_at hl 0 rfl) ?_
  have hFc := va_free (wc := [(q0, .inr (1, [.int 0, .int 0, .null, .null, .null, .null, .null, .null, .null, .null, .null, .int 0, .int 0, .int 0, .null]))]) hD hS hA [1] rfl
  refine va_callv (va_runI (As := [.ref mo]) (rest := [.ref q0, .ref mo]) ⟨hx, hb, hml, hown, hts⟩ (mX1_init l D cy q0 mo H.size) (cwI 1 hts gX2_init_X1_init rfl rfl rfl (hts (.initialized RX1) (by decide +kernel)) (hts (.methodLink RX2 9 yX1_init) (by decide +kernel)) (hts (.instanceMethod yX1_init) (by decide +kernel)) rfl (by decide +kernel) ⟨Nat.le_of_ble_eq_true rfl, Nat.le_of_ble_eq_true rfl⟩) (wr_preS (ws := [(q0, .inr (1, [.int 0, .int 0, .null, .null, .null, .null, .null, .null, .null, .null, .null, .int 0, .int 0, .int 0, .null]))]) (hP.sub [1] rfl) (hD.sub [1] (by decide) rfl) hK) rfl rfl hl.1 rfl (lv_room (Nat.le_of_ble_eq_true rfl)) dX2_init_10 ⟨Nat.le_of_ble_eq_true rfl, Nat.le_of_ble_eq_true rfl⟩) hS (fun q _ h => hFc q h) hFc (fun b0 t H1 locs ht hvm hw hB hz1 hk1 hS => ?_)
  obtain ⟨hP1, hD1⟩ := hB
  rw [ht] at hP1
  obtain ⟨hP, hD⟩ := va_join (wr := [(mo, .inr (2, [.int 0, .int 0, .int 0, .null, .null]))]) (w1 := cS q0 b0 cy initR 0 0 0 0 0 mo) hP hD [1] [0] rfl rfl (by decide) (by decide) hk1 hFc hP1 hD1
  generalize H1 = H at hP hS ⊢
  refine va_putF (D := D) (ci := 2) (v := .ref q0) (ty := .object "ChalkSlateModel$State") (C := RX2) (T := TX2) (N := 5) hx hb hts inX2_init_2 tyX2 tyX2_ok nmX2 hown hK.1 hP hD hS 0 rfl rfl 3 (by decide) (hts (.fieldLink RX2 12 "ChalkSlateModel" "s" "LChalkSlateModel$State;") (by decide +kernel)) (fun _ h9 => h9) rfl hin rfl (by decide +kernel) rfl rfl (Nat.le_of_ble_eq_true rfl) dX2_init_13 (fun H locs hP hD hS => ?_)
  have hP : va_P D vwCl ((mo, .inr (2, [.int 0, .int 0, .int 0, .ref q0, .null])) :: cS q0 b0 cy initR 0 0 0 0 0 mo) H := hP
  have hD : va_D A ((mo, .inr (2, [.int 0, .int 0, .int 0, .ref q0, .null])) :: cS q0 b0 cy initR 0 0 0 0 0 mo) := hD
  refine lv_aload_n hx hb dX2_init_16 rfl (lv_at hl 0 rfl) ?_
  refine va_new (ci := 1) (fs := [.int 0, .int 0, .null, .null, .null, .null, .null, .null, .null, .null, .null, .int 0, .int 0, .int 0, .null]) (C := RX1) (T := TX1) (N := 15) hx hb hts inX2_init_1 tyX1 tyX1_ok hown (hts (.classLink RX2 7 RX1) (by decide +kernel)) (hts (.instantiable RX1 15) (by decide +kernel)) (hts (.initialized RX1) (by decide +kernel)) hK.1 hP hD hS hA rfl (fun j hj => by rcases (show j = 0 ∨ j = 1 ∨ j = 2 ∨ j = 3 ∨ j = 4 ∨ j = 5 ∨ j = 6 ∨ j = 7 ∨ j = 8 ∨ j = 9 ∨ j = 10 ∨ j = 11 ∨ j = 12 ∨ j = 13 ∨ j = 14 by omega) with rfl | rfl | rfl | rfl | rfl | rfl | rfl | rfl | rfl | rfl | rfl | rfl | rfl | rfl | rfl <;> rfl) (Nat.le_of_ble_eq_true rfl) (Nat.le_of_ble_eq_true rfl) dX2_init_17 (fun q1 H hP hD hS => ?_)
  refine lv_dup hx hb dX2_init_20 rfl ?_
  refine lv_aload_n hx hb dX2_init_21 rfl (lv_at hl 0 rfl) ?_
  have hFc := va_free (wc := [(q1, .inr (1, [.int 0, .int 0, .null, .null, .null, .null, .null, .null, .null, .null, .null, .int 0, .int 0, .int 0, .null]))]) hD hS hA [11] rfl
  refine va_callv (va_runI (As := [.ref mo]) (rest := [.ref q1, .ref mo]) ⟨hx, hb, hml, hown, hts⟩ (mX1_init l D cy q1 mo H.size) (cwI 1 hts gX2_init_X1_init rfl rfl rfl (hts (.initialized RX1) (by decide +kernel)) (hts (.methodLink RX2 9 yX1_init) (by decide +kernel)) (hts (.instanceMethod yX1_init) (by decide +kernel)) rfl (by decide +kernel) ⟨Nat.le_of_ble_eq_true rfl, Nat.le_of_ble_eq_true rfl⟩) (wr_preS (ws := [(q1, .inr (1, [.int 0, .int 0, .null, .null, .null, .null, .null, .null, .null, .null, .null, .int 0, .int 0, .int 0, .null]))]) (hP.sub [11] rfl) (hD.sub [11] (by decide) rfl) hK) rfl rfl hl.1 rfl (lv_room (Nat.le_of_ble_eq_true rfl)) dX2_init_22 ⟨Nat.le_of_ble_eq_true rfl, Nat.le_of_ble_eq_true rfl⟩) hS (fun q _ h => hFc q h) hFc (fun b1 t H1 locs ht hvm hw hB hz1 hk1 hS => ?_)
  obtain ⟨hP1, hD1⟩ := hB
  rw [ht] at hP1
  obtain ⟨hP, hD⟩ := va_join (wr := (mo, .inr (2, [.int 0, .int 0, .int 0, .ref q0, .null])) :: cS q0 b0 cy initR 0 0 0 0 0 mo) (w1 := cS q1 b1 cy initR 0 0 0 0 0 mo) hP hD [11] [0, 1, 2, 3, 4, 5, 6, 7, 8, 9, 10] rfl rfl (by decide) (by decide) hk1 hFc hP1 hD1
  generalize H1 = H at hP hS ⊢
  refine va_putF (D := D) (ci := 2) (v := .ref q1) (ty := .object "ChalkSlateModel$State") (C := RX2) (T := TX2) (N := 5) hx hb hts inX2_init_2 tyX2 tyX2_ok nmX2 hown hK.1 hP hD hS 0 rfl rfl 4 (by decide) (hts (.fieldLink RX2 18 "ChalkSlateModel" "then" "LChalkSlateModel$State;") (by decide +kernel)) (fun _ h9 => h9) rfl hin rfl (by decide +kernel) rfl rfl (Nat.le_of_ble_eq_true rfl) dX2_init_25 (fun H locs hP hD hS => ?_)
  have hP : va_P D vwCl (((mo, .inr (2, [.int 0, .int 0, .int 0, .ref q0, .ref q1])) :: cS q0 b0 cy initR 0 0 0 0 0 mo) ++ cS q1 b1 cy initR 0 0 0 0 0 mo) H := hP
  have hD : va_D A (((mo, .inr (2, [.int 0, .int 0, .int 0, .ref q0, .ref q1])) :: cS q0 b0 cy initR 0 0 0 0 0 mo) ++ cS q1 b1 cy initR 0 0 0 0 0 mo) := hD
  have hP : va_P D vwCl (cW q0 b0 cy initR 0 0 0 0 0 mo 0 0 0 q1 b1 initR 0 0 0 0 0) H := hP.sub (ws' := cW q0 b0 cy initR 0 0 0 0 0 mo 0 0 0 q1 b1 initR 0 0 0 0 0) [1, 2, 3, 4, 5, 6, 7, 8, 9, 10, 0, 11, 12, 13, 14, 15, 16, 17, 18, 19, 20] rfl
  have hD : va_D A (cW q0 b0 cy initR 0 0 0 0 0 mo 0 0 0 q1 b1 initR 0 0 0 0 0) := hD.sub (ws' := cW q0 b0 cy initR 0 0 0 0 0 mo 0 0 0 q1 b1 initR 0 0 0 0 0) [1, 2, 3, 4, 5, 6, 7, 8, 9, 10, 0, 11, 12, 13, 14, 15, 16, 17, 18, 19, 20] (by decide) rfl
  refine W.widen (k := 20) (n := 1518) (Nat.le_of_ble_eq_true rfl) (Nat.le_of_ble_eq_true rfl) ?_
  exact W.vret hx hb hr (fun t ht hW => ⟨⟨(q0, b0, q1, b1), rfl, trivial, (by show va_P D vwCl (cW q0 b0 cy initR 0 0 0 0 0 mo 0 0 0 q1 b1 initR 0 0 0 0 0) t.heap; rw [ht]; exact hP), hD⟩, hS.F ht⟩) hS.2.2 dX2_init_28
