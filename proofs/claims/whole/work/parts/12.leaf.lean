set_option maxHeartbeats 4000000 in
set_option maxRecDepth 100000 in
theorem mX0_isBelow (l : Launch) (D : va_G) (cy : ClassId) (x y : Int32)  : RdI l yX0_isBelow wsX0_isBelow 0 0 [.int x, .int y] D cy (([] : va_W)) (isBelowS x y) := by
  refine Met.ofW (cc := cX0_isBelow) (maxL := 2) (ret := (some .boolean)) (by decide) rfl ?_
  intro p e s m args below meth c s₁ B hml hv
  obtain ⟨rfl, hP, hK⟩ := hv
  have hx := B.exec
  have hb := B.bytes
  have hr := B.returns
  have hts := atoms_spec (ws := wsX0_isBelow) B.pre
  have hown : s.vm.findClass RX0 = some m.cls := findClass_of_methodNamed B.named
  have hlocks := B.notSynchronized
  have hl := lv_entry ([.int x, .int y]) (n := 2) (Nat.le_of_ble_eq_true rfl)
  rw [lg_entry_eq]
  generalize (lg_sl ([.int x, .int y]) ++ List.replicate (2 - (lg_sl ([.int x, .int y])).length) Slot.unset).toArray = ls at hl ⊢
  have hl : lv_has ls 2 [(0, .int x), (1, .int y)] := hl
  refine lv_iload_n hx hb dX0_isBelow_0 rfl (lv_at hl 0 rfl) ?_
  refine lv_if_lt (tgt := 13) hx hb dX0_isBelow_1 (by decide) (fun c1 => ?_) (fun c1 => ?_)
  · refine lv_iconst (v := 0) hx hb dX0_isBelow_13 (by decide) ?_
    exact W.zret (v := 0) hx hb hr rfl (fun t ht hW => ⟨0, rfl, by rw [isBelowS, if_pos c1], ht⟩) (fun q hq => absurd hq List.not_mem_nil) dX0_isBelow_14
  · refine lv_iload_n hx hb dX0_isBelow_4 rfl (lv_at hl 0 rfl) ?_
    refine lv_iload_n hx hb dX0_isBelow_5 rfl (lv_at hl 1 rfl) ?_
    refine lv_icmp_ge (tgt := 13) hx hb dX0_isBelow_6 (by decide) (fun c2 => ?_) (fun c2 => ?_)
    · refine lv_iconst (v := 0) hx hb dX0_isBelow_13 (by decide) ?_
      exact W.zret (v := 0) hx hb hr rfl (fun t ht hW => ⟨0, rfl, by rw [isBelowS, if_neg c1, if_pos c2], ht⟩) (fun q hq => absurd hq List.not_mem_nil) dX0_isBelow_14
    · refine lv_iconst (v := 1) hx hb dX0_isBelow_9 (by decide) ?_
      refine lv_goto (tgt := 14) hx hb dX0_isBelow_10 (by decide) ?_
      exact W.zret (v := 1) hx hb hr rfl (fun t ht hW => ⟨1, rfl, by rw [isBelowS, if_neg c1, if_neg c2], ht⟩) (fun q hq => absurd hq List.not_mem_nil) dX0_isBelow_14

set_option maxHeartbeats 4000000 in
set_option maxRecDepth 100000 in
theorem mX0_at (l : Launch) (D : va_G) (cy : ClassId) (q z : Nat) (f : Nat → Int32) (i : Int32) (hz : z < 1000000) : RdI l yX0_at wsX0_at 1 21 [.ref q, .int i] D cy ([(q, .inl (cy, z, .inl f))]) (atS z f i) := by
  refine Met.ofW (cc := cX0_at) (maxL := 2) (ret := (some .int)) (by decide) rfl ?_
  intro p e s m args below meth c s₁ B hml hv
  obtain ⟨rfl, hP, hK⟩ := hv
  have hx := B.exec
  have hb := B.bytes
  have hr := B.returns
  have hts := atoms_spec (ws := wsX0_at) B.pre
  have hown : s.vm.findClass RX0 = some m.cls := findClass_of_methodNamed B.named
  have hlocks := B.notSynchronized
  have hl := lv_entry ([.ref q, .int i]) (n := 2) (Nat.le_of_ble_eq_true rfl)
  rw [lg_entry_eq]
  generalize (lg_sl ([.ref q, .int i]) ++ List.replicate (2 - (lg_sl ([.ref q, .int i])).length) Slot.unset).toArray = ls at hl ⊢
  have hl : lv_has ls 2 [(0, .ref q), (1, .int i)] := hl
  refine lv_iload_n hx hb dX0_at_0 rfl (lv_at hl 1 rfl) ?_
  refine lv_aload_n hx hb dX0_at_1 rfl (lv_at hl 0 rfl) ?_
  refine va_alen hx hb hK.1 hP 0 0 rfl rfl (v := nI z) rfl dX0_at_2 ?_
  refine rd_S (As := [.int i, .int (nI z)]) (rest := []) ⟨hx, hb, hml, hown, hts⟩ (mX0_isBelow l D cy i (nI z)) (va_cwS 2 hts gX0_at_X0_isBelow rfl rfl rfl (by decide +kernel) ⟨Nat.le_of_ble_eq_true rfl, Nat.le_of_ble_eq_true rfl⟩) (hP.sub (ws' := []) [] rfl) hK rfl hl.1 rfl (Nat.le_of_ble_eq_true rfl) dX0_at_3 (Nat.zero_le _) (Nat.zero_le _) ?_
  refine lv_if_eq (tgt := 15) hx hb dX0_at_6 (by decide) (fun c1 => ?_) (fun c1 => ?_)
  · refine lv_iconst (v := (-1)) hx hb dX0_at_15 (by decide) ?_
    exact W.iret (v := (-1)) hx hb hr (fun t ht hW => ⟨(-1), rfl, by rw [atS, if_pos c1], ht⟩) (fun q hq => absurd hq List.not_mem_nil) dX0_at_16
  · refine lv_aload_n hx hb dX0_at_9 rfl (lv_at hl 0 rfl) ?_
    refine lv_iload_n hx hb dX0_at_10 rfl (lv_at hl 1 rfl) ?_
    refine va_iald hx hb hK.1 hP 0 0 rfl rfl (below_in hz c1) dX0_at_11 ?_
    refine lv_goto (tgt := 16) hx hb dX0_at_12 (by decide) ?_
    exact W.iret (v := f i.toNatClampNeg) hx hb hr (fun t ht hW => ⟨(f i.toNatClampNeg), rfl, by rw [atS, if_neg c1], ht⟩) (fun q hq => absurd hq List.not_mem_nil) dX0_at_16

set_option maxHeartbeats 4000000 in
set_option maxRecDepth 100000 in
theorem mX0_put (l : Launch) (D : va_G) (cy : ClassId) (q z : Nat) (f : Nat → Int32) (i x : Int32) (hz : z < 1000000) (sz : Nat) : WrV l yX0_put wsX0_put 1 21 [.ref q, .int i, .int x] D cy ([(q, .inl (cy, z, .inl f))]) ([(q, .inl (cy, z, .inl (putS z f i x)))]) sz := by
  refine Met.ofW (cc := cX0_put) (maxL := 3) (ret := none) (by decide) rfl ?_
  intro p e s m args below meth c s₁ B hml hv
  obtain ⟨rfl, hsz, hP, hK, hD0⟩ := hv
  have hx := B.exec
  have hb := B.bytes
  have hr := B.returns
  have hts := atoms_spec (ws := wsX0_put) B.pre
  have hown : s.vm.findClass RX0 = some m.cls := findClass_of_methodNamed B.named
  have hlocks := B.notSynchronized
  subst hsz
  have hD := hD0.self (sz := s.heap.size)
  generalize hAe : va_A ([(q, .inl (cy, z, .inl f))]) s.heap.size = A at hD ⊢
  have hA : ∀ q : Nat, s.heap.size ≤ q → A q := fun q h => by rw [← hAe]; exact Or.inr h
  have hS : va_S A s.heap s.heap [] := va_S.rf
  have hl := lv_entry ([.ref q, .int i, .int x]) (n := 3) (Nat.le_of_ble_eq_true rfl)
  rw [lg_entry_eq]
  generalize (lg_sl ([.ref q, .int i, .int x]) ++ List.replicate (3 - (lg_sl ([.ref q, .int i, .int x])).length) Slot.unset).toArray = ls at hl ⊢
  have hl : lv_has ls 3 [(0, .ref q), (1, .int i), (2, .int x)] := hl
  refine lv_iload_n hx hb dX0_put_0 rfl (lv_at hl 1 rfl) ?_
  refine lv_aload_n hx hb dX0_put_1 rfl (lv_at hl 0 rfl) ?_
  refine va_alen hx hb hK.1 hP 0 0 rfl rfl (v := nI z) rfl dX0_put_2 ?_
  refine rd_S (As := [.int i, .int (nI z)]) (rest := []) ⟨hx, hb, hml, hown, hts⟩ (mX0_isBelow l D cy i (nI z)) (va_cwS 2 hts gX0_put_X0_isBelow rfl rfl rfl (by decide +kernel) ⟨Nat.le_of_ble_eq_true rfl, Nat.le_of_ble_eq_true rfl⟩) (hP.sub (ws' := []) [] rfl) hK rfl hl.1 rfl (Nat.le_of_ble_eq_true rfl) dX0_put_3 (Nat.zero_le _) (Nat.zero_le _) ?_
  refine lv_if_eq (tgt := 13) hx hb dX0_put_6 (by decide) (fun c1 => ?_) (fun c1 => ?_)
  · have hput : putS z f i x = f := by rw [putS, if_pos c1]
    have hP : va_P D vwCl [(q, .inl (cy, z, .inl (putS z f i x)))] s.heap := by rw [hput]; exact hP
    exact W.vret hx hb hr (fun t ht hW => ⟨⟨(), rfl, trivial, by show va_P D vwCl _ t.heap; rw [ht]; exact hP⟩, hS.F ht⟩) hS.2.2 dX0_put_13
  · refine lv_aload_n hx hb dX0_put_9 rfl (lv_at hl 0 rfl) ?_
    refine lv_iload_n hx hb dX0_put_10 rfl (lv_at hl 1 rfl) ?_
    refine lv_iload_n hx hb dX0_put_11 rfl (lv_at hl 2 rfl) ?_
    refine va_iast hx hb hK.1 hP hD hS 0 0 rfl rfl (below_in hz c1) dX0_put_12 (fun H locs hP hD hS => ?_)
    have hP : va_P D vwCl ([(q, .inl (cy, z, .inl (upd f i.toNatClampNeg x)))]) H := hP
    have hD : va_D A ([(q, .inl (cy, z, .inl (upd f i.toNatClampNeg x)))]) := hD
    have hput : putS z f i x = upd f i.toNatClampNeg x := by rw [putS, if_neg c1]
    have hP : va_P D vwCl [(q, .inl (cy, z, .inl (putS z f i x)))] H := by rw [hput]; exact hP
    exact W.vret hx hb hr (fun t ht hW => ⟨⟨(), rfl, trivial, by show va_P D vwCl _ t.heap; rw [ht]; exact hP⟩, hS.F ht⟩) hS.2.2 dX0_put_13

set_option maxHeartbeats 4000000 in
set_option maxRecDepth 100000 in
theorem mX0_isPot (l : Launch) (D : va_G) (cy : ClassId) (x : Int32)  : RdI l yX0_isPot wsX0_isPot 1 21 [.int x] D cy (([] : va_W)) (isPotS x) := by
  refine Met.ofW (cc := cX0_isPot) (maxL := 1) (ret := (some .boolean)) (by decide) rfl ?_
  intro p e s m args below meth c s₁ B hml hv
  obtain ⟨rfl, hP, hK⟩ := hv
  have hx := B.exec
  have hb := B.bytes
  have hr := B.returns
  have hts := atoms_spec (ws := wsX0_isPot) B.pre
  have hown : s.vm.findClass RX0 = some m.cls := findClass_of_methodNamed B.named
  have hlocks := B.notSynchronized
  have hl := lv_entry ([.int x]) (n := 1) (Nat.le_of_ble_eq_true rfl)
  rw [lg_entry_eq]
  generalize (lg_sl ([.int x]) ++ List.replicate (1 - (lg_sl ([.int x])).length) Slot.unset).toArray = ls at hl ⊢
  have hl : lv_has ls 1 [(0, .int x)] := hl
  refine lv_iload_n hx hb dX0_isPot_0 rfl (lv_at hl 0 rfl) ?_
  refine lv_bipush (v := 8) hx hb dX0_isPot_1 (by decide) ?_
  refine rd_S (As := [.int x, .int 8]) (rest := []) ⟨hx, hb, hml, hown, hts⟩ (mX0_isBelow l D cy x 8) (va_cwS 2 hts gX0_isPot_X0_isBelow rfl rfl rfl (by decide +kernel) ⟨Nat.le_of_ble_eq_true rfl, Nat.le_of_ble_eq_true rfl⟩) hP hK rfl hl.1 rfl (Nat.le_of_ble_eq_true rfl) dX0_isPot_3 (Nat.zero_le _) (Nat.zero_le _) ?_
  exact W.zret (v := isBelowS x 8) hx hb hr (nar_below _ _) (fun t ht hW => ⟨(isBelowS x 8), rfl, rfl, ht⟩) (fun q hq => absurd hq List.not_mem_nil) dX0_isPot_6

set_option maxHeartbeats 4000000 in
set_option maxRecDepth 100000 in
theorem mX0_stateAfter (l : Launch) (D : va_G) (cy : ClassId) (x y : Int32)  : RdI l yX0_stateAfter wsX0_stateAfter 0 0 [.int x, .int y] D cy (([] : va_W)) (stateAfterS x y) := by
  refine Met.ofW (cc := cX0_stateAfter) (maxL := 2) (ret := (some .int)) (by decide) rfl ?_
  intro p e s m args below meth c s₁ B hml hv
  obtain ⟨rfl, hP, hK⟩ := hv
  have hx := B.exec
  have hb := B.bytes
  have hr := B.returns
  have hts := atoms_spec (ws := wsX0_stateAfter) B.pre
  have hown : s.vm.findClass RX0 = some m.cls := findClass_of_methodNamed B.named
  have hlocks := B.notSynchronized
  have hl := lv_entry ([.int x, .int y]) (n := 2) (Nat.le_of_ble_eq_true rfl)
  rw [lg_entry_eq]
  generalize (lg_sl ([.int x, .int y]) ++ List.replicate (2 - (lg_sl ([.int x, .int y])).length) Slot.unset).toArray = ls at hl ⊢
  have hl : lv_has ls 2 [(0, .int x), (1, .int y)] := hl
  refine lv_iload_n hx hb dX0_stateAfter_0 rfl (lv_at hl 0 rfl) ?_
  by_cases hsw : x.toInt < 0 ∨ 4 < x.toInt
  · refine lv_tableOut (tgt := 42) hx hb dX0_stateAfter_1 hsw (by decide) ?_
    refine lv_iload_n hx hb dX0_stateAfter_42 rfl (lv_at hl 1 rfl) ?_
    exact W.iret (v := y) hx hb hr (fun t ht hW => ⟨y, rfl, by rw [stateAfterS, if_neg (sw_ne hsw (by decide)), if_neg (sw_ne hsw (by decide)), if_neg (sw_ne hsw (by decide))], ht⟩) (fun q hq => absurd hq List.not_mem_nil) dX0_stateAfter_43
  · obtain ⟨hsw1, hsw2⟩ := not_or.mp hsw
    have hsw3 : x = 0 ∨ x = 1 ∨ x = 2 ∨ x = 3 ∨ x = 4 := sw_4 hsw1 hsw2
    rcases hsw3 with hsw3 | hsw3 | hsw3 | hsw3 | hsw3
    · refine lv_tableIn (off := 35) (tgt := 36) hx hb dX0_stateAfter_1 hsw1 hsw2 (by rw [hsw3]; rfl) (by decide) ?_
      refine lv_iconst (v := 0) hx hb dX0_stateAfter_36 (by decide) ?_
      exact W.iret (v := 0) hx hb hr (fun t ht hW => ⟨0, rfl, by rw [stateAfterS, hsw3]; rfl, ht⟩) (fun q hq => absurd hq List.not_mem_nil) dX0_stateAfter_37
    · refine lv_tableIn (off := 41) (tgt := 42) hx hb dX0_stateAfter_1 hsw1 hsw2 (by rw [hsw3]; rfl) (by decide) ?_
      refine lv_iload_n hx hb dX0_stateAfter_42 rfl (lv_at hl 1 rfl) ?_
      exact W.iret (v := y) hx hb hr (fun t ht hW => ⟨y, rfl, by rw [stateAfterS, hsw3]; rfl, ht⟩) (fun q hq => absurd hq List.not_mem_nil) dX0_stateAfter_43
    · refine lv_tableIn (off := 37) (tgt := 38) hx hb dX0_stateAfter_1 hsw1 hsw2 (by rw [hsw3]; rfl) (by decide) ?_
      refine lv_iconst (v := 1) hx hb dX0_stateAfter_38 (by decide) ?_
      exact W.iret (v := 1) hx hb hr (fun t ht hW => ⟨1, rfl, by rw [stateAfterS, hsw3]; rfl, ht⟩) (fun q hq => absurd hq List.not_mem_nil) dX0_stateAfter_39
    · refine lv_tableIn (off := 41) (tgt := 42) hx hb dX0_stateAfter_1 hsw1 hsw2 (by rw [hsw3]; rfl) (by decide) ?_
      refine lv_iload_n hx hb dX0_stateAfter_42 rfl (lv_at hl 1 rfl) ?_
      exact W.iret (v := y) hx hb hr (fun t ht hW => ⟨y, rfl, by rw [stateAfterS, hsw3]; rfl, ht⟩) (fun q hq => absurd hq List.not_mem_nil) dX0_stateAfter_43
    · refine lv_tableIn (off := 39) (tgt := 40) hx hb dX0_stateAfter_1 hsw1 hsw2 (by rw [hsw3]; rfl) (by decide) ?_
      refine lv_iconst (v := 2) hx hb dX0_stateAfter_40 (by decide) ?_
      exact W.iret (v := 2) hx hb hr (fun t ht hW => ⟨2, rfl, by rw [stateAfterS, hsw3]; rfl, ht⟩) (fun q hq => absurd hq List.not_mem_nil) dX0_stateAfter_41

set_option maxHeartbeats 4000000 in
set_option maxRecDepth 100000 in
theorem mX0_sumOf (l : Launch) (D : va_G) (cy : ClassId) (q z : Nat) (f : Nat → Int32) (hz : z < 1000000) : RdI l yX0_sumOf wsX0_sumOf 0 0 [.ref q] D cy ([(q, .inl (cy, z, .inl f))]) (sumS f z) := by
  refine Met.ofW (cc := cX0_sumOf) (maxL := 3) (ret := (some .int)) (by decide) rfl ?_
  intro p e s m args below meth c s₁ B hml hv
  obtain ⟨rfl, hP, hK⟩ := hv
  have hx := B.exec
  have hb := B.bytes
  have hr := B.returns
  have hts := atoms_spec (ws := wsX0_sumOf) B.pre
  have hown : s.vm.findClass RX0 = some m.cls := findClass_of_methodNamed B.named
  have hlocks := B.notSynchronized
  have hl := lv_entry ([.ref q]) (n := 3) (Nat.le_of_ble_eq_true rfl)
  rw [lg_entry_eq]
  generalize (lg_sl ([.ref q]) ++ List.replicate (3 - (lg_sl ([.ref q])).length) Slot.unset).toArray = ls at hl ⊢
  have hl : lv_has ls 3 [(0, .ref q)] := hl
  refine lv_iconst (v := 0) hx hb dX0_sumOf_0 (by decide) ?_
  refine lv_istore_n (lv' := [(1, .int 0), (0, .ref q)]) hx hb dX0_sumOf_1 rfl hl (by decide) rfl (fun ls hl => ?_)
  refine lv_iconst (v := 0) hx hb dX0_sumOf_2 (by decide) ?_
  refine lv_istore_n (lv' := [(2, .int 0), (1, .int 0), (0, .ref q)]) hx hb dX0_sumOf_3 rfl hl (by decide) rfl (fun ls hl => ?_)
  have loop : ∀ (k i : Nat) (acc : Int32), i + k = z → acc = sumS f i → ∀ ls : Array Slot, lv_has ls 3 [(0, .ref q), (1, .int acc), (2, .int (nI i))] → W p l e (headSpec wsX0_sumOf { frames := 0, cells := 0, slots := 0, locals := 0 }).room s m ([.ref q] : List Value).toArray below meth c s.heap [] 0 0 (MQ below (vp_Si (fun r => r = sumS f z)) ([.ref q] : List Value).toArray s 0 0 (fun _ => False)) (F0 m 4 ls []) := by
    intro k
    induction k with
    | zero =>
      intro i acc hik hacc ls hl
      have hin : i = z := by omega
      refine lv_iload_n hx hb dX0_sumOf_4 rfl (lv_at hl 2 rfl) ?_
      refine lv_aload_n hx hb dX0_sumOf_5 rfl (lv_at hl 0 rfl) ?_
      refine va_alen hx hb hK.1 hP 0 0 rfl rfl (v := nI z) rfl dX0_sumOf_6 ?_
      refine lv_icmp_ge (tgt := 22) hx hb dX0_sumOf_7 (by decide) (fun c1 => ?_) (fun c1 => absurd (nI_le (by omega) (by omega)) c1)
      refine lv_iload_n hx hb dX0_sumOf_22 rfl (lv_at hl 1 rfl) ?_
      exact W.iret (v := acc) hx hb hr (fun t ht hW => ⟨acc, rfl, by rw [hacc, hin], ht⟩) (fun q hq => absurd hq List.not_mem_nil) dX0_sumOf_23
    | succ k ih =>
      intro i acc hik hacc ls hl
      refine lv_iload_n hx hb dX0_sumOf_4 rfl (lv_at hl 2 rfl) ?_
      refine lv_aload_n hx hb dX0_sumOf_5 rfl (lv_at hl 0 rfl) ?_
      refine va_alen hx hb hK.1 hP 0 0 rfl rfl (v := nI z) rfl dX0_sumOf_6 ?_
      refine lv_icmp_ge (tgt := 22) hx hb dX0_sumOf_7 (by decide) (fun c2 => absurd c2 (nI_ge (by omega) (by omega))) (fun c2 => ?_)
      refine lv_iload_n hx hb dX0_sumOf_10 rfl (lv_at hl 1 rfl) ?_
      refine lv_aload_n hx hb dX0_sumOf_11 rfl (lv_at hl 0 rfl) ?_
      refine lv_iload_n hx hb dX0_sumOf_12 rfl (lv_at hl 2 rfl) ?_
      refine va_iald hx hb hK.1 hP 0 0 rfl rfl (vp_in_nI (by omega) (by omega)) dX0_sumOf_13 ?_
      rw [nI_clamp (n := i) (by omega)]
      refine lv_iadd hx hb dX0_sumOf_14 ?_
      refine lv_istore_n (lv' := [(1, .int (acc + (f i))), (0, .ref q), (2, .int (nI i))]) hx hb dX0_sumOf_15 rfl hl (by decide) rfl (fun ls hl => ?_)
      refine lv_iinc (v := nI (i + 1)) (lv' := [(2, .int (nI (i + 1))), (1, .int (acc + (f i))), (0, .ref q)]) hx hb dX0_sumOf_16 hl (k := 2) rfl ((nI_succ i).symm) (by decide) rfl (fun ls hl => ?_)
      refine lv_goto (tgt := 4) hx hb dX0_sumOf_19 (by decide) ?_
      exact ih (i + 1) (acc + (f i)) (by omega) (by rw [sumS, ← hacc]) ls (lv_sub hl [2, 1, 0] rfl)
  exact loop z 0 0 (Nat.zero_add _) (rfl) ls (lv_sub hl [2, 1, 0] rfl)

theorem put_0 {p : Program} {l : Launch} {e : Env} {R : Room} {s : State} {m : MethodId} {args : Array Value} {below : List Frame} {meth : Method} {c : Code} {H : Heap} {locs : List Loc} {cells slots : Nat} {Q : State → Prop} {cc : ByteArray} {nL index : Nat} {Ts : List Cond} {own : String} {rest st : List Value} {D : va_G} {cy : ClassId} {pc : Nat} {ls : Array Slot} {A : Nat → Prop} {H0 : Heap} {h : Nat} {a : Nat → Nat} {RR : Nat → Nat → Int32} {nd n dr : Nat} {fl i x : Int32}
    (S : CallFix p m c cc nL s args Ts own) (cw : CallB R s args own index yX0_put cX0_put 3 none wsX0_put { frames := 1, cells := 0, slots := 0, locals := 21 } 0 0 3 ∧ (Cond.static yX0_put).before args s = true)
    (hP : va_P D vwCl (cC h a cy RR nd n dr fl) H) (hK : KK D cy s) (hD : va_D A (cC h a cy RR nd n dr fl)) (hS : va_S A H0 H locs) (hA : ∀ q, H0.size ≤ q → A q)
    (hsize : ls.size = nL) (hst : st = .int x :: .int i :: .ref (a 0) :: rest) (hw : (rest.map fun v => v.category).sum ≤ 8) (hdg : decode cc pc = .ok (.invokestatic index, 3)) (hc : cells ≤ R.cells) (hs : slots ≤ R.slots)
    (kk : ∀ (H1 : Heap) (locs1 : List Loc), va_P D vwCl (cC h a cy (stepR RR 0 8 i x) nd n dr fl) H1 → va_D A (cC h a cy (stepR RR 0 8 i x) nd n dr fl) → va_S A H0 H1 locs1 → W p l e R s m args below meth c H1 locs1 cells slots Q (F0 m (pc + 3) ls rest)) : W p l e R s m args below meth c H locs cells slots Q (F0 m pc ls st) :=
  wr_SV (ws0' := cC h a cy (stepR RR 0 8 i x) nd n dr fl) (As := [.ref (a 0), .int i, .int x]) (rest := rest) S (fun sz => mX0_put l D cy (a 0) 8 (RR 0) i x (Nat.le_of_ble_eq_true rfl) sz) cw hP hK hD hS hA [1] [0, 2, 3, 4, 5, 6, 7, 8, 9, 10, 11] [0, 11, 1, 2, 3, 4, 5, 6, 7, 8, 9, 10] rfl rfl rfl (by decide) rfl rfl rfl rfl rfl hsize hst hw hdg hc hs kk

theorem put_1 {p : Program} {l : Launch} {e : Env} {R : Room} {s : State} {m : MethodId} {args : Array Value} {below : List Frame} {meth : Method} {c : Code} {H : Heap} {locs : List Loc} {cells slots : Nat} {Q : State → Prop} {cc : ByteArray} {nL index : Nat} {Ts : List Cond} {own : String} {rest st : List Value} {D : va_G} {cy : ClassId} {pc : Nat} {ls : Array Slot} {A : Nat → Prop} {H0 : Heap} {h : Nat} {a : Nat → Nat} {RR : Nat → Nat → Int32} {nd n dr : Nat} {fl i x : Int32}
    (S : CallFix p m c cc nL s args Ts own) (cw : CallB R s args own index yX0_put cX0_put 3 none wsX0_put { frames := 1, cells := 0, slots := 0, locals := 21 } 0 0 3 ∧ (Cond.static yX0_put).before args s = true)
    (hP : va_P D vwCl (cC h a cy RR nd n dr fl) H) (hK : KK D cy s) (hD : va_D A (cC h a cy RR nd n dr fl)) (hS : va_S A H0 H locs) (hA : ∀ q, H0.size ≤ q → A q)
    (hsize : ls.size = nL) (hst : st = .int x :: .int i :: .ref (a 1) :: rest) (hw : (rest.map fun v => v.category).sum ≤ 8) (hdg : decode cc pc = .ok (.invokestatic index, 3)) (hc : cells ≤ R.cells) (hs : slots ≤ R.slots)
    (kk : ∀ (H1 : Heap) (locs1 : List Loc), va_P D vwCl (cC h a cy (stepR RR 1 8 i x) nd n dr fl) H1 → va_D A (cC h a cy (stepR RR 1 8 i x) nd n dr fl) → va_S A H0 H1 locs1 → W p l e R s m args below meth c H1 locs1 cells slots Q (F0 m (pc + 3) ls rest)) : W p l e R s m args below meth c H locs cells slots Q (F0 m pc ls st) :=
  wr_SV (ws0' := cC h a cy (stepR RR 1 8 i x) nd n dr fl) (As := [.ref (a 1), .int i, .int x]) (rest := rest) S (fun sz => mX0_put l D cy (a 1) 8 (RR 1) i x (Nat.le_of_ble_eq_true rfl) sz) cw hP hK hD hS hA [2] [0, 1, 3, 4, 5, 6, 7, 8, 9, 10, 11] [0, 1, 11, 2, 3, 4, 5, 6, 7, 8, 9, 10] rfl rfl rfl (by decide) rfl rfl rfl rfl rfl hsize hst hw hdg hc hs kk

theorem put_2 {p : Program} {l : Launch} {e : Env} {R : Room} {s : State} {m : MethodId} {args : Array Value} {below : List Frame} {meth : Method} {c : Code} {H : Heap} {locs : List Loc} {cells slots : Nat} {Q : State → Prop} {cc : ByteArray} {nL index : Nat} {Ts : List Cond} {own : String} {rest st : List Value} {D : va_G} {cy : ClassId} {pc : Nat} {ls : Array Slot} {A : Nat → Prop} {H0 : Heap} {h : Nat} {a : Nat → Nat} {RR : Nat → Nat → Int32} {nd n dr : Nat} {fl i x : Int32}
    (S : CallFix p m c cc nL s args Ts own) (cw : CallB R s args own index yX0_put cX0_put 3 none wsX0_put { frames := 1, cells := 0, slots := 0, locals := 21 } 0 0 3 ∧ (Cond.static yX0_put).before args s = true)
    (hP : va_P D vwCl (cC h a cy RR nd n dr fl) H) (hK : KK D cy s) (hD : va_D A (cC h a cy RR nd n dr fl)) (hS : va_S A H0 H locs) (hA : ∀ q, H0.size ≤ q → A q)
    (hsize : ls.size = nL) (hst : st = .int x :: .int i :: .ref (a 2) :: rest) (hw : (rest.map fun v => v.category).sum ≤ 8) (hdg : decode cc pc = .ok (.invokestatic index, 3)) (hc : cells ≤ R.cells) (hs : slots ≤ R.slots)
    (kk : ∀ (H1 : Heap) (locs1 : List Loc), va_P D vwCl (cC h a cy (stepR RR 2 8 i x) nd n dr fl) H1 → va_D A (cC h a cy (stepR RR 2 8 i x) nd n dr fl) → va_S A H0 H1 locs1 → W p l e R s m args below meth c H1 locs1 cells slots Q (F0 m (pc + 3) ls rest)) : W p l e R s m args below meth c H locs cells slots Q (F0 m pc ls st) :=
  wr_SV (ws0' := cC h a cy (stepR RR 2 8 i x) nd n dr fl) (As := [.ref (a 2), .int i, .int x]) (rest := rest) S (fun sz => mX0_put l D cy (a 2) 8 (RR 2) i x (Nat.le_of_ble_eq_true rfl) sz) cw hP hK hD hS hA [3] [0, 1, 2, 4, 5, 6, 7, 8, 9, 10, 11] [0, 1, 2, 11, 3, 4, 5, 6, 7, 8, 9, 10] rfl rfl rfl (by decide) rfl rfl rfl rfl rfl hsize hst hw hdg hc hs kk

theorem put_3 {p : Program} {l : Launch} {e : Env} {R : Room} {s : State} {m : MethodId} {args : Array Value} {below : List Frame} {meth : Method} {c : Code} {H : Heap} {locs : List Loc} {cells slots : Nat} {Q : State → Prop} {cc : ByteArray} {nL index : Nat} {Ts : List Cond} {own : String} {rest st : List Value} {D : va_G} {cy : ClassId} {pc : Nat} {ls : Array Slot} {A : Nat → Prop} {H0 : Heap} {h : Nat} {a : Nat → Nat} {RR : Nat → Nat → Int32} {nd n dr : Nat} {fl i x : Int32}
    (S : CallFix p m c cc nL s args Ts own) (cw : CallB R s args own index yX0_put cX0_put 3 none wsX0_put { frames := 1, cells := 0, slots := 0, locals := 21 } 0 0 3 ∧ (Cond.static yX0_put).before args s = true)
    (hP : va_P D vwCl (cC h a cy RR nd n dr fl) H) (hK : KK D cy s) (hD : va_D A (cC h a cy RR nd n dr fl)) (hS : va_S A H0 H locs) (hA : ∀ q, H0.size ≤ q → A q)
    (hsize : ls.size = nL) (hst : st = .int x :: .int i :: .ref (a 3) :: rest) (hw : (rest.map fun v => v.category).sum ≤ 8) (hdg : decode cc pc = .ok (.invokestatic index, 3)) (hc : cells ≤ R.cells) (hs : slots ≤ R.slots)
    (kk : ∀ (H1 : Heap) (locs1 : List Loc), va_P D vwCl (cC h a cy (stepR RR 3 20 i x) nd n dr fl) H1 → va_D A (cC h a cy (stepR RR 3 20 i x) nd n dr fl) → va_S A H0 H1 locs1 → W p l e R s m args below meth c H1 locs1 cells slots Q (F0 m (pc + 3) ls rest)) : W p l e R s m args below meth c H locs cells slots Q (F0 m pc ls st) :=
  wr_SV (ws0' := cC h a cy (stepR RR 3 20 i x) nd n dr fl) (As := [.ref (a 3), .int i, .int x]) (rest := rest) S (fun sz => mX0_put l D cy (a 3) 20 (RR 3) i x (Nat.le_of_ble_eq_true rfl) sz) cw hP hK hD hS hA [4] [0, 1, 2, 3, 5, 6, 7, 8, 9, 10, 11] [0, 1, 2, 3, 11, 4, 5, 6, 7, 8, 9, 10] rfl rfl rfl (by decide) rfl rfl rfl rfl rfl hsize hst hw hdg hc hs kk

theorem put_4 {p : Program} {l : Launch} {e : Env} {R : Room} {s : State} {m : MethodId} {args : Array Value} {below : List Frame} {meth : Method} {c : Code} {H : Heap} {locs : List Loc} {cells slots : Nat} {Q : State → Prop} {cc : ByteArray} {nL index : Nat} {Ts : List Cond} {own : String} {rest st : List Value} {D : va_G} {cy : ClassId} {pc : Nat} {ls : Array Slot} {A : Nat → Prop} {H0 : Heap} {h : Nat} {a : Nat → Nat} {RR : Nat → Nat → Int32} {nd n dr : Nat} {fl i x : Int32}
    (S : CallFix p m c cc nL s args Ts own) (cw : CallB R s args own index yX0_put cX0_put 3 none wsX0_put { frames := 1, cells := 0, slots := 0, locals := 21 } 0 0 3 ∧ (Cond.static yX0_put).before args s = true)
    (hP : va_P D vwCl (cC h a cy RR nd n dr fl) H) (hK : KK D cy s) (hD : va_D A (cC h a cy RR nd n dr fl)) (hS : va_S A H0 H locs) (hA : ∀ q, H0.size ≤ q → A q)
    (hsize : ls.size = nL) (hst : st = .int x :: .int i :: .ref (a 4) :: rest) (hw : (rest.map fun v => v.category).sum ≤ 8) (hdg : decode cc pc = .ok (.invokestatic index, 3)) (hc : cells ≤ R.cells) (hs : slots ≤ R.slots)
    (kk : ∀ (H1 : Heap) (locs1 : List Loc), va_P D vwCl (cC h a cy (stepR RR 4 120 i x) nd n dr fl) H1 → va_D A (cC h a cy (stepR RR 4 120 i x) nd n dr fl) → va_S A H0 H1 locs1 → W p l e R s m args below meth c H1 locs1 cells slots Q (F0 m (pc + 3) ls rest)) : W p l e R s m args below meth c H locs cells slots Q (F0 m pc ls st) :=
  wr_SV (ws0' := cC h a cy (stepR RR 4 120 i x) nd n dr fl) (As := [.ref (a 4), .int i, .int x]) (rest := rest) S (fun sz => mX0_put l D cy (a 4) 120 (RR 4) i x (Nat.le_of_ble_eq_true rfl) sz) cw hP hK hD hS hA [5] [0, 1, 2, 3, 4, 6, 7, 8, 9, 10, 11] [0, 1, 2, 3, 4, 11, 5, 6, 7, 8, 9, 10] rfl rfl rfl (by decide) rfl rfl rfl rfl rfl hsize hst hw hdg hc hs kk

theorem put_5 {p : Program} {l : Launch} {e : Env} {R : Room} {s : State} {m : MethodId} {args : Array Value} {below : List Frame} {meth : Method} {c : Code} {H : Heap} {locs : List Loc} {cells slots : Nat} {Q : State → Prop} {cc : ByteArray} {nL index : Nat} {Ts : List Cond} {own : String} {rest st : List Value} {D : va_G} {cy : ClassId} {pc : Nat} {ls : Array Slot} {A : Nat → Prop} {H0 : Heap} {h : Nat} {a : Nat → Nat} {RR : Nat → Nat → Int32} {nd n dr : Nat} {fl i x : Int32}
    (S : CallFix p m c cc nL s args Ts own) (cw : CallB R s args own index yX0_put cX0_put 3 none wsX0_put { frames := 1, cells := 0, slots := 0, locals := 21 } 0 0 3 ∧ (Cond.static yX0_put).before args s = true)
    (hP : va_P D vwCl (cC h a cy RR nd n dr fl) H) (hK : KK D cy s) (hD : va_D A (cC h a cy RR nd n dr fl)) (hS : va_S A H0 H locs) (hA : ∀ q, H0.size ≤ q → A q)
    (hsize : ls.size = nL) (hst : st = .int x :: .int i :: .ref (a 5) :: rest) (hw : (rest.map fun v => v.category).sum ≤ 8) (hdg : decode cc pc = .ok (.invokestatic index, 3)) (hc : cells ≤ R.cells) (hs : slots ≤ R.slots)
    (kk : ∀ (H1 : Heap) (locs1 : List Loc), va_P D vwCl (cC h a cy (stepR RR 5 120 i x) nd n dr fl) H1 → va_D A (cC h a cy (stepR RR 5 120 i x) nd n dr fl) → va_S A H0 H1 locs1 → W p l e R s m args below meth c H1 locs1 cells slots Q (F0 m (pc + 3) ls rest)) : W p l e R s m args below meth c H locs cells slots Q (F0 m pc ls st) :=
  wr_SV (ws0' := cC h a cy (stepR RR 5 120 i x) nd n dr fl) (As := [.ref (a 5), .int i, .int x]) (rest := rest) S (fun sz => mX0_put l D cy (a 5) 120 (RR 5) i x (Nat.le_of_ble_eq_true rfl) sz) cw hP hK hD hS hA [6] [0, 1, 2, 3, 4, 5, 7, 8, 9, 10, 11] [0, 1, 2, 3, 4, 5, 11, 6, 7, 8, 9, 10] rfl rfl rfl (by decide) rfl rfl rfl rfl rfl hsize hst hw hdg hc hs kk

theorem put_6 {p : Program} {l : Launch} {e : Env} {R : Room} {s : State} {m : MethodId} {args : Array Value} {below : List Frame} {meth : Method} {c : Code} {H : Heap} {locs : List Loc} {cells slots : Nat} {Q : State → Prop} {cc : ByteArray} {nL index : Nat} {Ts : List Cond} {own : String} {rest st : List Value} {D : va_G} {cy : ClassId} {pc : Nat} {ls : Array Slot} {A : Nat → Prop} {H0 : Heap} {h : Nat} {a : Nat → Nat} {RR : Nat → Nat → Int32} {nd n dr : Nat} {fl i x : Int32}
    (S : CallFix p m c cc nL s args Ts own) (cw : CallB R s args own index yX0_put cX0_put 3 none wsX0_put { frames := 1, cells := 0, slots := 0, locals := 21 } 0 0 3 ∧ (Cond.static yX0_put).before args s = true)
    (hP : va_P D vwCl (cC h a cy RR nd n dr fl) H) (hK : KK D cy s) (hD : va_D A (cC h a cy RR nd n dr fl)) (hS : va_S A H0 H locs) (hA : ∀ q, H0.size ≤ q → A q)
    (hsize : ls.size = nL) (hst : st = .int x :: .int i :: .ref (a 6) :: rest) (hw : (rest.map fun v => v.category).sum ≤ 8) (hdg : decode cc pc = .ok (.invokestatic index, 3)) (hc : cells ≤ R.cells) (hs : slots ≤ R.slots)
    (kk : ∀ (H1 : Heap) (locs1 : List Loc), va_P D vwCl (cC h a cy (stepR RR 6 120 i x) nd n dr fl) H1 → va_D A (cC h a cy (stepR RR 6 120 i x) nd n dr fl) → va_S A H0 H1 locs1 → W p l e R s m args below meth c H1 locs1 cells slots Q (F0 m (pc + 3) ls rest)) : W p l e R s m args below meth c H locs cells slots Q (F0 m pc ls st) :=
  wr_SV (ws0' := cC h a cy (stepR RR 6 120 i x) nd n dr fl) (As := [.ref (a 6), .int i, .int x]) (rest := rest) S (fun sz => mX0_put l D cy (a 6) 120 (RR 6) i x (Nat.le_of_ble_eq_true rfl) sz) cw hP hK hD hS hA [7] [0, 1, 2, 3, 4, 5, 6, 8, 9, 10, 11] [0, 1, 2, 3, 4, 5, 6, 11, 7, 8, 9, 10] rfl rfl rfl (by decide) rfl rfl rfl rfl rfl hsize hst hw hdg hc hs kk

theorem put_7 {p : Program} {l : Launch} {e : Env} {R : Room} {s : State} {m : MethodId} {args : Array Value} {below : List Frame} {meth : Method} {c : Code} {H : Heap} {locs : List Loc} {cells slots : Nat} {Q : State → Prop} {cc : ByteArray} {nL index : Nat} {Ts : List Cond} {own : String} {rest st : List Value} {D : va_G} {cy : ClassId} {pc : Nat} {ls : Array Slot} {A : Nat → Prop} {H0 : Heap} {h : Nat} {a : Nat → Nat} {RR : Nat → Nat → Int32} {nd n dr : Nat} {fl i x : Int32}
    (S : CallFix p m c cc nL s args Ts own) (cw : CallB R s args own index yX0_put cX0_put 3 none wsX0_put { frames := 1, cells := 0, slots := 0, locals := 21 } 0 0 3 ∧ (Cond.static yX0_put).before args s = true)
    (hP : va_P D vwCl (cC h a cy RR nd n dr fl) H) (hK : KK D cy s) (hD : va_D A (cC h a cy RR nd n dr fl)) (hS : va_S A H0 H locs) (hA : ∀ q, H0.size ≤ q → A q)
    (hsize : ls.size = nL) (hst : st = .int x :: .int i :: .ref (a 7) :: rest) (hw : (rest.map fun v => v.category).sum ≤ 8) (hdg : decode cc pc = .ok (.invokestatic index, 3)) (hc : cells ≤ R.cells) (hs : slots ≤ R.slots)
    (kk : ∀ (H1 : Heap) (locs1 : List Loc), va_P D vwCl (cC h a cy (stepR RR 7 120 i x) nd n dr fl) H1 → va_D A (cC h a cy (stepR RR 7 120 i x) nd n dr fl) → va_S A H0 H1 locs1 → W p l e R s m args below meth c H1 locs1 cells slots Q (F0 m (pc + 3) ls rest)) : W p l e R s m args below meth c H locs cells slots Q (F0 m pc ls st) :=
  wr_SV (ws0' := cC h a cy (stepR RR 7 120 i x) nd n dr fl) (As := [.ref (a 7), .int i, .int x]) (rest := rest) S (fun sz => mX0_put l D cy (a 7) 120 (RR 7) i x (Nat.le_of_ble_eq_true rfl) sz) cw hP hK hD hS hA [8] [0, 1, 2, 3, 4, 5, 6, 7, 9, 10, 11] [0, 1, 2, 3, 4, 5, 6, 7, 11, 8, 9, 10] rfl rfl rfl (by decide) rfl rfl rfl rfl rfl hsize hst hw hdg hc hs kk

theorem put_8 {p : Program} {l : Launch} {e : Env} {R : Room} {s : State} {m : MethodId} {args : Array Value} {below : List Frame} {meth : Method} {c : Code} {H : Heap} {locs : List Loc} {cells slots : Nat} {Q : State → Prop} {cc : ByteArray} {nL index : Nat} {Ts : List Cond} {own : String} {rest st : List Value} {D : va_G} {cy : ClassId} {pc : Nat} {ls : Array Slot} {A : Nat → Prop} {H0 : Heap} {h : Nat} {a : Nat → Nat} {RR : Nat → Nat → Int32} {nd n dr : Nat} {fl i x : Int32}
    (S : CallFix p m c cc nL s args Ts own) (cw : CallB R s args own index yX0_put cX0_put 3 none wsX0_put { frames := 1, cells := 0, slots := 0, locals := 21 } 0 0 3 ∧ (Cond.static yX0_put).before args s = true)
    (hP : va_P D vwCl (cC h a cy RR nd n dr fl) H) (hK : KK D cy s) (hD : va_D A (cC h a cy RR nd n dr fl)) (hS : va_S A H0 H locs) (hA : ∀ q, H0.size ≤ q → A q)
    (hsize : ls.size = nL) (hst : st = .int x :: .int i :: .ref (a 8) :: rest) (hw : (rest.map fun v => v.category).sum ≤ 8) (hdg : decode cc pc = .ok (.invokestatic index, 3)) (hc : cells ≤ R.cells) (hs : slots ≤ R.slots)
    (kk : ∀ (H1 : Heap) (locs1 : List Loc), va_P D vwCl (cC h a cy (stepR RR 8 120 i x) nd n dr fl) H1 → va_D A (cC h a cy (stepR RR 8 120 i x) nd n dr fl) → va_S A H0 H1 locs1 → W p l e R s m args below meth c H1 locs1 cells slots Q (F0 m (pc + 3) ls rest)) : W p l e R s m args below meth c H locs cells slots Q (F0 m pc ls st) :=
  wr_SV (ws0' := cC h a cy (stepR RR 8 120 i x) nd n dr fl) (As := [.ref (a 8), .int i, .int x]) (rest := rest) S (fun sz => mX0_put l D cy (a 8) 120 (RR 8) i x (Nat.le_of_ble_eq_true rfl) sz) cw hP hK hD hS hA [9] [0, 1, 2, 3, 4, 5, 6, 7, 8, 10, 11] [0, 1, 2, 3, 4, 5, 6, 7, 8, 11, 9, 10] rfl rfl rfl (by decide) rfl rfl rfl rfl rfl hsize hst hw hdg hc hs kk

theorem put_9 {p : Program} {l : Launch} {e : Env} {R : Room} {s : State} {m : MethodId} {args : Array Value} {below : List Frame} {meth : Method} {c : Code} {H : Heap} {locs : List Loc} {cells slots : Nat} {Q : State → Prop} {cc : ByteArray} {nL index : Nat} {Ts : List Cond} {own : String} {rest st : List Value} {D : va_G} {cy : ClassId} {pc : Nat} {ls : Array Slot} {A : Nat → Prop} {H0 : Heap} {h : Nat} {a : Nat → Nat} {RR : Nat → Nat → Int32} {nd n dr : Nat} {fl i x : Int32}
    (S : CallFix p m c cc nL s args Ts own) (cw : CallB R s args own index yX0_put cX0_put 3 none wsX0_put { frames := 1, cells := 0, slots := 0, locals := 21 } 0 0 3 ∧ (Cond.static yX0_put).before args s = true)
    (hP : va_P D vwCl (cC h a cy RR nd n dr fl) H) (hK : KK D cy s) (hD : va_D A (cC h a cy RR nd n dr fl)) (hS : va_S A H0 H locs) (hA : ∀ q, H0.size ≤ q → A q)
    (hsize : ls.size = nL) (hst : st = .int x :: .int i :: .ref (a 9) :: rest) (hw : (rest.map fun v => v.category).sum ≤ 8) (hdg : decode cc pc = .ok (.invokestatic index, 3)) (hc : cells ≤ R.cells) (hs : slots ≤ R.slots)
    (kk : ∀ (H1 : Heap) (locs1 : List Loc), va_P D vwCl (cC h a cy (stepR RR 9 120 i x) nd n dr fl) H1 → va_D A (cC h a cy (stepR RR 9 120 i x) nd n dr fl) → va_S A H0 H1 locs1 → W p l e R s m args below meth c H1 locs1 cells slots Q (F0 m (pc + 3) ls rest)) : W p l e R s m args below meth c H locs cells slots Q (F0 m pc ls st) :=
  wr_SV (ws0' := cC h a cy (stepR RR 9 120 i x) nd n dr fl) (As := [.ref (a 9), .int i, .int x]) (rest := rest) S (fun sz => mX0_put l D cy (a 9) 120 (RR 9) i x (Nat.le_of_ble_eq_true rfl) sz) cw hP hK hD hS hA [10] [0, 1, 2, 3, 4, 5, 6, 7, 8, 9, 11] [0, 1, 2, 3, 4, 5, 6, 7, 8, 9, 11, 10] rfl rfl rfl (by decide) rfl rfl rfl rfl rfl hsize hst hw hdg hc hs kk

theorem put_10 {p : Program} {l : Launch} {e : Env} {R : Room} {s : State} {m : MethodId} {args : Array Value} {below : List Frame} {meth : Method} {c : Code} {H : Heap} {locs : List Loc} {cells slots : Nat} {Q : State → Prop} {cc : ByteArray} {nL index : Nat} {Ts : List Cond} {own : String} {rest st : List Value} {D : va_G} {cy : ClassId} {pc : Nat} {ls : Array Slot} {A : Nat → Prop} {H0 : Heap} {h : Nat} {a : Nat → Nat} {RR : Nat → Nat → Int32} {nd n dr : Nat} {fl i x : Int32}
    (S : CallFix p m c cc nL s args Ts own) (cw : CallB R s args own index yX0_put cX0_put 3 none wsX0_put { frames := 1, cells := 0, slots := 0, locals := 21 } 0 0 3 ∧ (Cond.static yX0_put).before args s = true)
    (hP : va_P D vwCl (cC h a cy RR nd n dr fl) H) (hK : KK D cy s) (hD : va_D A (cC h a cy RR nd n dr fl)) (hS : va_S A H0 H locs) (hA : ∀ q, H0.size ≤ q → A q)
    (hsize : ls.size = nL) (hst : st = .int x :: .int i :: .ref (a 10) :: rest) (hw : (rest.map fun v => v.category).sum ≤ 8) (hdg : decode cc pc = .ok (.invokestatic index, 3)) (hc : cells ≤ R.cells) (hs : slots ≤ R.slots)
    (kk : ∀ (H1 : Heap) (locs1 : List Loc), va_P D vwCl (cC h a cy (stepR RR 10 120 i x) nd n dr fl) H1 → va_D A (cC h a cy (stepR RR 10 120 i x) nd n dr fl) → va_S A H0 H1 locs1 → W p l e R s m args below meth c H1 locs1 cells slots Q (F0 m (pc + 3) ls rest)) : W p l e R s m args below meth c H locs cells slots Q (F0 m pc ls st) :=
  wr_SV (ws0' := cC h a cy (stepR RR 10 120 i x) nd n dr fl) (As := [.ref (a 10), .int i, .int x]) (rest := rest) S (fun sz => mX0_put l D cy (a 10) 120 (RR 10) i x (Nat.le_of_ble_eq_true rfl) sz) cw hP hK hD hS hA [11] [0, 1, 2, 3, 4, 5, 6, 7, 8, 9, 10] [0, 1, 2, 3, 4, 5, 6, 7, 8, 9, 10, 11] rfl rfl rfl (by decide) rfl rfl rfl rfl rfl hsize hst hw hdg hc hs kk
