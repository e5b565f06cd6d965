set_option maxRecDepth 100000 in
theorem inX0_isOpen_0 : ∀ w ∈ wsX00, w ∈ wsX0_isOpen := by decide +kernel

set_option maxHeartbeats 4000000 in
set_option maxRecDepth 100000 in
theorem mX0_isOpen (l : Launch) (D : va_G) (cy : ClassId) (h : Nat) (a : Nat → Nat) (R : Nat → Nat → Int32) (nd n dr : Nat) (fl : Int32) (d : Int32) (hnd : nd < 1000000) (hn : n < 1000000) (hdr : dr < 1000000) : RdI l yX0_isOpen wsX0_isOpen 2 42 [.ref h, .int d] D cy (cC h a cy R nd n dr fl) (isOpenS R d) := by
  refine Met.ofW (cc := cX0_isOpen) (maxL := 2) (ret := (some .boolean)) (by decide) rfl ?_
  intro p e s m args below meth c s₁ B hml hv
  obtain ⟨rfl, hP, hK⟩ := hv
  have hx := B.exec
  have hb := B.bytes
  have hr := B.returns
  have hts := atoms_spec (ws := wsX0_isOpen) B.pre
  have hown : s.vm.findClass RX0 = some m.cls := findClass_of_methodNamed B.named
  have hlocks := B.notSynchronized
  have hl := lv_entry ([.ref h, .int d]) (n := 2) (Nat.le_of_ble_eq_true rfl)
  rw [lg_entry_eq]
  generalize (lg_sl ([.ref h, .int d]) ++ List.replicate (2 - (lg_sl ([.ref h, .int d])).length) Slot.unset).toArray = ls at hl ⊢
  have hl : lv_has ls 2 [(0, .ref h), (1, .int d)] := hl
  refine lv_aload_n hx hb dX0_isOpen_0 rfl (lv_at hl 0 rfl) ?_
  refine va_get (D := D) (ci := 0) (v := .ref (a 3)) (C := RX0) (T := TX0) (N := 15) hx hb hts inX0_isOpen_0 hown hK.1 hP 0 rfl rfl 3 (by decide) (hts (.fieldLink RX0 19 "ChalkSlate" "dishState" "[I") (by decide +kernel)) (fun _ h9 => h9) rfl dX0_isOpen_1 ?_
  refine lv_iload_n hx hb dX0_isOpen_4 rfl (lv_at hl 1 rfl) ?_
  refine rd_S (As := [.ref (a 3), .int d]) (rest := []) ⟨hx, hb, hml, hown, hts⟩ (mX0_at l D cy (a 3) 20 (R 3) d (Nat.le_of_ble_eq_true rfl)) (va_cwS 2 hts gX0_isOpen_X0_at rfl rfl rfl (by decide +kernel) ⟨Nat.le_of_ble_eq_true rfl, Nat.le_of_ble_eq_true rfl⟩) (hP.sub (ws' := [(a 3, .inl (cy, 20, .inl (R 3)))]) [4] rfl) hK rfl hl.1 rfl (Nat.le_of_ble_eq_true rfl) dX0_isOpen_5 (Nat.zero_le _) (Nat.zero_le _) ?_
  refine lv_if_ne (tgt := 15) hx hb dX0_isOpen_8 (by decide) (fun c1 => ?_) (fun c1 => ?_)
  · refine lv_iconst (v := 0) hx hb dX0_isOpen_15 (by decide) ?_
    exact W.zret (v := 0) hx hb hr rfl (fun t ht hW => ⟨0, rfl, by rw [isOpenS, if_neg c1], ht⟩) (fun q hq => absurd hq List.not_mem_nil) dX0_isOpen_16
  · refine lv_iconst (v := 1) hx hb dX0_isOpen_11 (by decide) ?_
    refine lv_goto (tgt := 16) hx hb dX0_isOpen_12 (by decide) ?_
    exact W.zret (v := 1) hx hb hr rfl (fun t ht hW => ⟨1, rfl, by rw [isOpenS, if_pos c1], ht⟩) (fun q hq => absurd hq List.not_mem_nil) dX0_isOpen_16

set_option maxRecDepth 100000 in
theorem inX0_isDish_0 : ∀ w ∈ wsX00, w ∈ wsX0_isDish := by decide +kernel

set_option maxHeartbeats 4000000 in
set_option maxRecDepth 100000 in
theorem mX0_isDish (l : Launch) (D : va_G) (cy : ClassId) (h : Nat) (a : Nat → Nat) (R : Nat → Nat → Int32) (nd n dr : Nat) (fl : Int32) (d : Int32) (hnd : nd < 1000000) (hn : n < 1000000) (hdr : dr < 1000000) : RdI l yX0_isDish wsX0_isDish 1 21 [.ref h, .int d] D cy (cC h a cy R nd n dr fl) (isDishS nd d) := by
  refine Met.ofW (cc := cX0_isDish) (maxL := 2) (ret := (some .boolean)) (by decide) rfl ?_
  intro p e s m args below meth c s₁ B hml hv
  obtain ⟨rfl, hP, hK⟩ := hv
  have hx := B.exec
  have hb := B.bytes
  have hr := B.returns
  have hts := atoms_spec (ws := wsX0_isDish) B.pre
  have hown : s.vm.findClass RX0 = some m.cls := findClass_of_methodNamed B.named
  have hlocks := B.notSynchronized
  have hl := lv_entry ([.ref h, .int d]) (n := 2) (Nat.le_of_ble_eq_true rfl)
  rw [lg_entry_eq]
  generalize (lg_sl ([.ref h, .int d]) ++ List.replicate (2 - (lg_sl ([.ref h, .int d])).length) Slot.unset).toArray = ls at hl ⊢
  have hl : lv_has ls 2 [(0, .ref h), (1, .int d)] := hl
  refine lv_iload_n hx hb dX0_isDish_0 rfl (lv_at hl 1 rfl) ?_
  refine lv_aload_n hx hb dX0_isDish_1 rfl (lv_at hl 0 rfl) ?_
  refine va_get (D := D) (ci := 0) (v := .int (nI nd)) (C := RX0) (T := TX0) (N := 15) hx hb hts inX0_isDish_0 hown hK.1 hP 0 rfl rfl 4 (by decide) (hts (.fieldLink RX0 49 "ChalkSlate" "dishes" "I") (by decide +kernel)) (fun _ h9 => h9) rfl dX0_isDish_2 ?_
  refine rd_S (As := [.int d, .int (nI nd)]) (rest := []) ⟨hx, hb, hml, hown, hts⟩ (mX0_isBelow l D cy d (nI nd)) (va_cwS 2 hts gX0_isDish_X0_isBelow rfl rfl rfl (by decide +kernel) ⟨Nat.le_of_ble_eq_true rfl, Nat.le_of_ble_eq_true rfl⟩) (hP.sub (ws' := []) [] rfl) hK rfl hl.1 rfl (Nat.le_of_ble_eq_true rfl) dX0_isDish_5 (Nat.zero_le _) (Nat.zero_le _) ?_
  exact W.zret (v := isBelowS d (nI nd)) hx hb hr (nar_below _ _) (fun t ht hW => ⟨(isBelowS d (nI nd)), rfl, rfl, ht⟩) (fun q hq => absurd hq List.not_mem_nil) dX0_isDish_8

set_option maxRecDepth 100000 in
theorem inX0_isChangeNotTakenBack_0 : ∀ w ∈ wsX00, w ∈ wsX0_isChangeNotTakenBack := by decide +kernel

set_option maxHeartbeats 4000000 in
set_option maxRecDepth 100000 in
theorem mX0_isChangeNotTakenBack (l : Launch) (D : va_G) (cy : ClassId) (h : Nat) (a : Nat → Nat) (R : Nat → Nat → Int32) (nd n dr : Nat) (fl : Int32) (x d y : Int32) (hnd : nd < 1000000) (hn : n < 1000000) (hdr : dr < 1000000) : RdI l yX0_isChangeNotTakenBack wsX0_isChangeNotTakenBack 2 42 [.ref h, .int x, .int d, .int y] D cy (cC h a cy R nd n dr fl) (isChangeS R x d y) := by
  refine Met.ofW (cc := cX0_isChangeNotTakenBack) (maxL := 4) (ret := (some .boolean)) (by decide) rfl ?_
  intro p e s m args below meth c s₁ B hml hv
  obtain ⟨rfl, hP, hK⟩ := hv
  have hx := B.exec
  have hb := B.bytes
  have hr := B.returns
  have hts := atoms_spec (ws := wsX0_isChangeNotTakenBack) B.pre
  have hown : s.vm.findClass RX0 = some m.cls := findClass_of_methodNamed B.named
  have hlocks := B.notSynchronized
  have hl := lv_entry ([.ref h, .int x, .int d, .int y]) (n := 4) (Nat.le_of_ble_eq_true rfl)
  rw [lg_entry_eq]
  generalize (lg_sl ([.ref h, .int x, .int d, .int y]) ++ List.replicate (4 - (lg_sl ([.ref h, .int x, .int d, .int y])).length) Slot.unset).toArray = ls at hl ⊢
  have hl : lv_has ls 4 [(0, .ref h), (1, .int x), (2, .int d), (3, .int y)] := hl
  refine lv_aload_n hx hb dX0_isChangeNotTakenBack_0 rfl (lv_at hl 0 rfl) ?_
  refine va_get (D := D) (ci := 0) (v := .ref (a 4)) (C := RX0) (T := TX0) (N := 15) hx hb hts inX0_isChangeNotTakenBack_0 hown hK.1 hP 0 rfl rfl 5 (by decide) (hts (.fieldLink RX0 22 "ChalkSlate" "lineDish" "[I") (by decide +kernel)) (fun _ h9 => h9) rfl dX0_isChangeNotTakenBack_1 ?_
  refine lv_iload_n hx hb dX0_isChangeNotTakenBack_4 rfl (lv_at hl 1 rfl) ?_
  refine rd_S (As := [.ref (a 4), .int x]) (rest := []) ⟨hx, hb, hml, hown, hts⟩ (mX0_at l D cy (a 4) 120 (R 4) x (Nat.le_of_ble_eq_true rfl)) (va_cwS 2 hts gX0_isChangeNotTakenBack_X0_at rfl rfl rfl (by decide +kernel) ⟨Nat.le_of_ble_eq_true rfl, Nat.le_of_ble_eq_true rfl⟩) (hP.sub (ws' := [(a 4, .inl (cy, 120, .inl (R 4)))]) [5] rfl) hK rfl hl.1 rfl (Nat.le_of_ble_eq_true rfl) dX0_isChangeNotTakenBack_5 (Nat.zero_le _) (Nat.zero_le _) ?_
  refine lv_iload_n hx hb dX0_isChangeNotTakenBack_8 rfl (lv_at hl 2 rfl) ?_
  refine lv_icmp_ne (tgt := 43) hx hb dX0_isChangeNotTakenBack_9 (by decide) (fun c1 => ?_) (fun c1 => ?_)
  · refine lv_iconst (v := 0) hx hb dX0_isChangeNotTakenBack_43 (by decide) ?_
    exact W.zret (v := 0) hx hb hr rfl (fun t ht hW => ⟨0, rfl, by rw [isChangeS, if_neg c1], ht⟩) (fun q hq => absurd hq List.not_mem_nil) dX0_isChangeNotTakenBack_44
  · refine lv_aload_n hx hb dX0_isChangeNotTakenBack_12 rfl (lv_at hl 0 rfl) ?_
    refine va_get (D := D) (ci := 0) (v := .ref (a 5)) (C := RX0) (T := TX0) (N := 15) hx hb hts inX0_isChangeNotTakenBack_0 hown hK.1 hP 0 rfl rfl 6 (by decide) (hts (.fieldLink RX0 25 "ChalkSlate" "lineKind" "[I") (by decide +kernel)) (fun _ h9 => h9) rfl dX0_isChangeNotTakenBack_13 ?_
    refine lv_iload_n hx hb dX0_isChangeNotTakenBack_16 rfl (lv_at hl 1 rfl) ?_
    refine rd_S (As := [.ref (a 5), .int x]) (rest := []) ⟨hx, hb, hml, hown, hts⟩ (mX0_at l D cy (a 5) 120 (R 5) x (Nat.le_of_ble_eq_true rfl)) (va_cwS 2 hts gX0_isChangeNotTakenBack_X0_at rfl rfl rfl (by decide +kernel) ⟨Nat.le_of_ble_eq_true rfl, Nat.le_of_ble_eq_true rfl⟩) (hP.sub (ws' := [(a 5, .inl (cy, 120, .inl (R 5)))]) [6] rfl) hK rfl hl.1 rfl (Nat.le_of_ble_eq_true rfl) dX0_isChangeNotTakenBack_17 (Nat.zero_le _) (Nat.zero_le _) ?_
    refine lv_iconst (v := 1) hx hb dX0_isChangeNotTakenBack_20 (by decide) ?_
    refine lv_icmp_ne (tgt := 43) hx hb dX0_isChangeNotTakenBack_21 (by decide) (fun c2 => ?_) (fun c2 => ?_)
    · refine lv_iconst (v := 0) hx hb dX0_isChangeNotTakenBack_43 (by decide) ?_
      exact W.zret (v := 0) hx hb hr rfl (fun t ht hW => ⟨0, rfl, by rw [isChangeS, if_pos c1, if_neg c2], ht⟩) (fun q hq => absurd hq List.not_mem_nil) dX0_isChangeNotTakenBack_44
    · refine lv_aload_n hx hb dX0_isChangeNotTakenBack_24 rfl (lv_at hl 0 rfl) ?_
      refine va_get (D := D) (ci := 0) (v := .ref (a 10)) (C := RX0) (T := TX0) (N := 15) hx hb hts inX0_isChangeNotTakenBack_0 hown hK.1 hP 0 rfl rfl 11 (by decide) (hts (.fieldLink RX0 40 "ChalkSlate" "lineTakenBackBy" "[I") (by decide +kernel)) (fun _ h9 => h9) rfl dX0_isChangeNotTakenBack_25 ?_
      refine lv_iload_n hx hb dX0_isChangeNotTakenBack_28 rfl (lv_at hl 1 rfl) ?_
      refine rd_S (As := [.ref (a 10), .int x]) (rest := []) ⟨hx, hb, hml, hown, hts⟩ (mX0_at l D cy (a 10) 120 (R 10) x (Nat.le_of_ble_eq_true rfl)) (va_cwS 2 hts gX0_isChangeNotTakenBack_X0_at rfl rfl rfl (by decide +kernel) ⟨Nat.le_of_ble_eq_true rfl, Nat.le_of_ble_eq_true rfl⟩) (hP.sub (ws' := [(a 10, .inl (cy, 120, .inl (R 10)))]) [11] rfl) hK rfl hl.1 rfl (Nat.le_of_ble_eq_true rfl) dX0_isChangeNotTakenBack_29 (Nat.zero_le _) (Nat.zero_le _) ?_
      refine lv_iload_n hx hb dX0_isChangeNotTakenBack_32 rfl (lv_at hl 3 rfl) ?_
      refine rd_S (As := [.int (atS 120 (R 10) x), .int y]) (rest := []) ⟨hx, hb, hml, hown, hts⟩ (mX0_isBelow l D cy (atS 120 (R 10) x) y) (va_cwS 2 hts gX0_isChangeNotTakenBack_X0_isBelow rfl rfl rfl (by decide +kernel) ⟨Nat.le_of_ble_eq_true rfl, Nat.le_of_ble_eq_true rfl⟩) (hP.sub (ws' := []) [] rfl) hK rfl hl.1 rfl (Nat.le_of_ble_eq_true rfl) dX0_isChangeNotTakenBack_33 (Nat.zero_le _) (Nat.zero_le _) ?_
      refine lv_if_ne (tgt := 43) hx hb dX0_isChangeNotTakenBack_36 (by decide) (fun c3 => ?_) (fun c3 => ?_)
      · refine lv_iconst (v := 0) hx hb dX0_isChangeNotTakenBack_43 (by decide) ?_
        exact W.zret (v := 0) hx hb hr rfl (fun t ht hW => ⟨0, rfl, by rw [isChangeS, if_pos c1, if_pos c2, if_neg c3], ht⟩) (fun q hq => absurd hq List.not_mem_nil) dX0_isChangeNotTakenBack_44
      · refine lv_iconst (v := 1) hx hb dX0_isChangeNotTakenBack_39 (by decide) ?_
        refine lv_goto (tgt := 44) hx hb dX0_isChangeNotTakenBack_40 (by decide) ?_
        exact W.zret (v := 1) hx hb hr rfl (fun t ht hW => ⟨1, rfl, by rw [isChangeS, if_pos c1, if_pos c2, if_pos c3], ht⟩) (fun q hq => absurd hq List.not_mem_nil) dX0_isChangeNotTakenBack_44

set_option maxRecDepth 100000 in
theorem inX0_changesNotTakenBack_0 : ∀ w ∈ wsX00, w ∈ wsX0_changesNotTakenBack := by decide +kernel

set_option maxHeartbeats 4000000 in
set_option maxRecDepth 100000 in
theorem mX0_changesNotTakenBack (l : Launch) (D : va_G) (cy : ClassId) (h : Nat) (a : Nat → Nat) (R : Nat → Nat → Int32) (nd n dr : Nat) (fl : Int32) (d : Int32) (e9 : Nat) (hnd : nd < 1000000) (hn : n < 1000000) (hdr : dr < 1000000) (he : e9 < 1000000) : RdI l yX0_changesNotTakenBack wsX0_changesNotTakenBack 3 65 [.ref h, .int d, .int (nI e9)] D cy (cC h a cy R nd n dr fl) (changesS R d (nI e9) e9) := by
  refine Met.ofW (cc := cX0_changesNotTakenBack) (maxL := 5) (ret := (some .int)) (by decide) rfl ?_
  intro p e s m args below meth c s₁ B hml hv
  obtain ⟨rfl, hP, hK⟩ := hv
  have hx := B.exec
  have hb := B.bytes
  have hr := B.returns
  have hts := atoms_spec (ws := wsX0_changesNotTakenBack) B.pre
  have hown : s.vm.findClass RX0 = some m.cls := findClass_of_methodNamed B.named
  have hlocks := B.notSynchronized
  have hl := lv_entry ([.ref h, .int d, .int (nI e9)]) (n := 5) (Nat.le_of_ble_eq_true rfl)
  rw [lg_entry_eq]
  generalize (lg_sl ([.ref h, .int d, .int (nI e9)]) ++ List.replicate (5 - (lg_sl ([.ref h, .int d, .int (nI e9)])).length) Slot.unset).toArray = ls at hl ⊢
  have hl : lv_has ls 5 [(0, .ref h), (1, .int d), (2, .int (nI e9))] := hl
  refine lv_iconst (v := 0) hx hb dX0_changesNotTakenBack_0 (by decide) ?_
  refine lv_istore_n (lv' := [(3, .int 0), (0, .ref h), (1, .int d), (2, .int (nI e9))]) hx hb dX0_changesNotTakenBack_1 rfl hl (by decide) rfl (fun ls hl => ?_)
  refine lv_iconst (v := 0) hx hb dX0_changesNotTakenBack_2 (by decide) ?_
  refine lv_istore (lv' := [(4, .int 0), (3, .int 0), (0, .ref h), (1, .int d), (2, .int (nI e9))]) hx hb dX0_changesNotTakenBack_3 hl (by decide) rfl (fun ls hl => ?_)
  have loop : ∀ (k i : Nat) (acc : Int32), i + k = e9 → acc = changesS R d (nI e9) i → ∀ ls : Array Slot, lv_has ls 5 [(0, .ref h), (1, .int d), (2, .int (nI e9)), (3, .int acc), (4, .int (nI i))] → W p l e (headSpec wsX0_changesNotTakenBack { frames := 3, cells := 0, slots := 0, locals := 65 }).room s m ([.ref h, .int d, .int (nI e9)] : List Value).toArray below meth c s.heap [] 0 0 (MQ below (vp_Si (fun r => r = changesS R d (nI e9) e9)) ([.ref h, .int d, .int (nI e9)] : List Value).toArray s 0 0 (fun _ => False)) (F0 m 5 ls []) := by
    intro k
    induction k with
    | zero =>
      intro i acc hik hacc ls hl
      have hin : i = e9 := by omega
      refine lv_iload hx hb dX0_changesNotTakenBack_5 (lv_at hl 4 rfl) ?_
      refine lv_iload_n hx hb dX0_changesNotTakenBack_7 rfl (lv_at hl 2 rfl) ?_
      refine lv_icmp_ge (tgt := 31) hx hb dX0_changesNotTakenBack_8 (by decide) (fun c1 => ?_) (fun c1 => absurd (nI_le (by omega) (by omega)) c1)
      refine lv_iload_n hx hb dX0_changesNotTakenBack_31 rfl (lv_at hl 3 rfl) ?_
      exact W.iret (v := acc) hx hb hr (fun t ht hW => ⟨acc, rfl, by rw [hacc, hin], ht⟩) (fun q hq => absurd hq List.not_mem_nil) dX0_changesNotTakenBack_32
    | succ k ih =>
      intro i acc hik hacc ls hl
      refine lv_iload hx hb dX0_changesNotTakenBack_5 (lv_at hl 4 rfl) ?_
      refine lv_iload_n hx hb dX0_changesNotTakenBack_7 rfl (lv_at hl 2 rfl) ?_
      refine lv_icmp_ge (tgt := 31) hx hb dX0_changesNotTakenBack_8 (by decide) (fun c2 => absurd c2 (nI_ge (by omega) (by omega))) (fun c2 => ?_)
      refine lv_aload_n hx hb dX0_changesNotTakenBack_11 rfl (lv_at hl 0 rfl) ?_
      refine lv_iload hx hb dX0_changesNotTakenBack_12 (lv_at hl 4 rfl) ?_
      refine lv_iload_n hx hb dX0_changesNotTakenBack_14 rfl (lv_at hl 1 rfl) ?_
      refine lv_iload_n hx hb dX0_changesNotTakenBack_15 rfl (lv_at hl 2 rfl) ?_
      refine rd_V (q := (RX0, TX0, 15)) (ci := 0) (q0 := 0) (As := [.int (nI i), .int d, .int (nI e9)]) (rest := []) ⟨hx, hb, hml, hown, hts⟩ (mX0_isChangeNotTakenBack l D cy h a R nd n dr fl (nI i) d (nI e9) (by omega) (by omega) (by omega) ) (cwV 3 hts gX0_changesNotTakenBack_X0_isChangeNotTakenBack rfl rfl rfl (by decide +kernel) ⟨Nat.le_of_ble_eq_true rfl, Nat.le_of_ble_eq_true rfl⟩) hP hK rfl rfl rfl hl.1 rfl (Nat.le_of_ble_eq_true rfl) dX0_changesNotTakenBack_16 (Nat.zero_le _) (Nat.zero_le _) ?_
      refine lv_if_eq (tgt := 25) hx hb dX0_changesNotTakenBack_19 (by decide) (fun c3 => ?_) (fun c3 => ?_)
      · refine lv_iinc (v := nI (i + 1)) (lv' := [(4, .int (nI (i + 1))), (0, .ref h), (1, .int d), (2, .int (nI e9)), (3, .int acc)]) hx hb dX0_changesNotTakenBack_25 hl (k := 4) rfl ((nI_succ i).symm) (by decide) rfl (fun ls hl => ?_)
        refine lv_goto (tgt := 5) hx hb dX0_changesNotTakenBack_28 (by decide) ?_
        exact ih (i + 1) acc (by omega) (by rw [changesS, if_pos c3, ← hacc]) ls (lv_sub hl [1, 2, 3, 4, 0] rfl)
      · refine lv_iinc (v := acc + 1) (lv' := [(3, .int (acc + 1)), (0, .ref h), (1, .int d), (2, .int (nI e9)), (4, .int (nI i))]) hx hb dX0_changesNotTakenBack_22 hl (k := 3) rfl (rfl) (by decide) rfl (fun ls hl => ?_)
        refine lv_iinc (v := nI (i + 1)) (lv' := [(4, .int (nI (i + 1))), (3, .int (acc + 1)), (0, .ref h), (1, .int d), (2, .int (nI e9))]) hx hb dX0_changesNotTakenBack_25 hl (k := 4) rfl ((nI_succ i).symm) (by decide) rfl (fun ls hl => ?_)
        refine lv_goto (tgt := 5) hx hb dX0_changesNotTakenBack_28 (by decide) ?_
        exact ih (i + 1) (acc + 1) (by omega) (by rw [changesS, if_neg c3, ← hacc]) ls (lv_sub hl [2, 3, 4, 1, 0] rfl)
  exact loop e9 0 0 (Nat.zero_add _) (rfl) ls (lv_sub hl [2, 3, 4, 1, 0] rfl)

set_option maxRecDepth 100000 in
theorem inX0_linesOf_0 : ∀ w ∈ wsX00, w ∈ wsX0_linesOf := by decide +kernel

set_option maxHeartbeats 4000000 in
set_option maxRecDepth 100000 in
theorem mX0_linesOf (l : Launch) (D : va_G) (cy : ClassId) (h : Nat) (a : Nat → Nat) (R : Nat → Nat → Int32) (nd n dr : Nat) (fl : Int32) (d : Int32) (hnd : nd < 1000000) (hn : n < 1000000) (hdr : dr < 1000000) : RdI l yX0_linesOf wsX0_linesOf 2 42 [.ref h, .int d] D cy (cC h a cy R nd n dr fl) (countS 120 (R 4) d n) := by
  refine Met.ofW (cc := cX0_linesOf) (maxL := 4) (ret := (some .int)) (by decide) rfl ?_
  intro p e s m args below meth c s₁ B hml hv
  obtain ⟨rfl, hP, hK⟩ := hv
  have hx := B.exec
  have hb := B.bytes
  have hr := B.returns
  have hts := atoms_spec (ws := wsX0_linesOf) B.pre
  have hown : s.vm.findClass RX0 = some m.cls := findClass_of_methodNamed B.named
  have hlocks := B.notSynchronized
  have hl := lv_entry ([.ref h, .int d]) (n := 4) (Nat.le_of_ble_eq_true rfl)
  rw [lg_entry_eq]
  generalize (lg_sl ([.ref h, .int d]) ++ List.replicate (4 - (lg_sl ([.ref h, .int d])).length) Slot.unset).toArray = ls at hl ⊢
  have hl : lv_has ls 4 [(0, .ref h), (1, .int d)] := hl
  refine lv_iconst (v := 0) hx hb dX0_linesOf_0 (by decide) ?_
  refine lv_istore_n (lv' := [(2, .int 0), (0, .ref h), (1, .int d)]) hx hb dX0_linesOf_1 rfl hl (by decide) rfl (fun ls hl => ?_)
  refine lv_iconst (v := 0) hx hb dX0_linesOf_2 (by decide) ?_
  refine lv_istore_n (lv' := [(3, .int 0), (2, .int 0), (0, .ref h), (1, .int d)]) hx hb dX0_linesOf_3 rfl hl (by decide) rfl (fun ls hl => ?_)
  have loop : ∀ (k i : Nat) (acc : Int32), i + k = n → acc = countS 120 (R 4) d i → ∀ ls : Array Slot, lv_has ls 4 [(0, .ref h), (1, .int d), (2, .int acc), (3, .int (nI i))] → W p l e (headSpec wsX0_linesOf { frames := 2, cells := 0, slots := 0, locals := 42 }).room s m ([.ref h, .int d] : List Value).toArray below meth c s.heap [] 0 0 (MQ below (vp_Si (fun r => r = countS 120 (R 4) d n)) ([.ref h, .int d] : List Value).toArray s 0 0 (fun _ => False)) (F0 m 4 ls []) := by
    intro k
    induction k with
    | zero =>
      intro i acc hik hacc ls hl
      have hin : i = n := by omega
      refine lv_iload_n hx hb dX0_linesOf_4 rfl (lv_at hl 3 rfl) ?_
      refine lv_aload_n hx hb dX0_linesOf_5 rfl (lv_at hl 0 rfl) ?_
      refine va_get (D := D) (ci := 0) (v := .int (nI n)) (C := RX0) (T := TX0) (N := 15) hx hb hts inX0_linesOf_0 hown hK.1 hP 0 rfl rfl 12 (by decide) (hts (.fieldLink RX0 112 "ChalkSlate" "lines" "I") (by decide +kernel)) (fun _ h9 => h9) rfl dX0_linesOf_6 ?_
      refine lv_icmp_ge (tgt := 33) hx hb dX0_linesOf_9 (by decide) (fun c1 => ?_) (fun c1 => absurd (nI_le (by omega) (by omega)) c1)
      refine lv_iload_n hx hb dX0_linesOf_33 rfl (lv_at hl 2 rfl) ?_
      exact W.iret (v := acc) hx hb hr (fun t ht hW => ⟨acc, rfl, by rw [hacc, hin], ht⟩) (fun q hq => absurd hq List.not_mem_nil) dX0_linesOf_34
    | succ k ih =>
      intro i acc hik hacc ls hl
      refine lv_iload_n hx hb dX0_linesOf_4 rfl (lv_at hl 3 rfl) ?_
      refine lv_aload_n hx hb dX0_linesOf_5 rfl (lv_at hl 0 rfl) ?_
      refine va_get (D := D) (ci := 0) (v := .int (nI n)) (C := RX0) (T := TX0) (N := 15) hx hb hts inX0_linesOf_0 hown hK.1 hP 0 rfl rfl 12 (by decide) (hts (.fieldLink RX0 112 "ChalkSlate" "lines" "I") (by decide +kernel)) (fun _ h9 => h9) rfl dX0_linesOf_6 ?_
      refine lv_icmp_ge (tgt := 33) hx hb dX0_linesOf_9 (by decide) (fun c2 => absurd c2 (nI_ge (by omega) (by omega))) (fun c2 => ?_)
      refine lv_aload_n hx hb dX0_linesOf_12 rfl (lv_at hl 0 rfl) ?_
      refine va_get (D := D) (ci := 0) (v := .ref (a 4)) (C := RX0) (T := TX0) (N := 15) hx hb hts inX0_linesOf_0 hown hK.1 hP 0 rfl rfl 5 (by decide) (hts (.fieldLink RX0 22 "ChalkSlate" "lineDish" "[I") (by decide +kernel)) (fun _ h9 => h9) rfl dX0_linesOf_13 ?_
      refine lv_iload_n hx hb dX0_linesOf_16 rfl (lv_at hl 3 rfl) ?_
      refine rd_S (As := [.ref (a 4), .int (nI i)]) (rest := []) ⟨hx, hb, hml, hown, hts⟩ (mX0_at l D cy (a 4) 120 (R 4) (nI i) (Nat.le_of_ble_eq_true rfl)) (va_cwS 2 hts gX0_linesOf_X0_at rfl rfl rfl (by decide +kernel) ⟨Nat.le_of_ble_eq_true rfl, Nat.le_of_ble_eq_true rfl⟩) (hP.sub (ws' := [(a 4, .inl (cy, 120, .inl (R 4)))]) [5] rfl) hK rfl hl.1 rfl (Nat.le_of_ble_eq_true rfl) dX0_linesOf_17 (Nat.zero_le _) (Nat.zero_le _) ?_
      refine lv_iload_n hx hb dX0_linesOf_20 rfl (lv_at hl 1 rfl) ?_
      refine lv_icmp_ne (tgt := 27) hx hb dX0_linesOf_21 (by decide) (fun c3 => ?_) (fun c3 => ?_)
      · refine lv_iinc (v := nI (i + 1)) (lv' := [(3, .int (nI (i + 1))), (0, .ref h), (1, .int d), (2, .int acc)]) hx hb dX0_linesOf_27 hl (k := 3) rfl ((nI_succ i).symm) (by decide) rfl (fun ls hl => ?_)
        refine lv_goto (tgt := 4) hx hb dX0_linesOf_30 (by decide) ?_
        exact ih (i + 1) acc (by omega) (by rw [countS, if_neg c3, ← hacc]) ls (lv_sub hl [1, 2, 3, 0] rfl)
      · refine lv_iinc (v := acc + 1) (lv' := [(2, .int (acc + 1)), (0, .ref h), (1, .int d), (3, .int (nI i))]) hx hb dX0_linesOf_24 hl (k := 2) rfl (rfl) (by decide) rfl (fun ls hl => ?_)
        refine lv_iinc (v := nI (i + 1)) (lv' := [(3, .int (nI (i + 1))), (2, .int (acc + 1)), (0, .ref h), (1, .int d)]) hx hb dX0_linesOf_27 hl (k := 3) rfl ((nI_succ i).symm) (by decide) rfl (fun ls hl => ?_)
        refine lv_goto (tgt := 4) hx hb dX0_linesOf_30 (by decide) ?_
        exact ih (i + 1) (acc + 1) (by omega) (by rw [countS, if_pos c3, ← hacc]) ls (lv_sub hl [2, 3, 1, 0] rfl)
  exact loop n 0 0 (Nat.zero_add _) (rfl) ls (lv_sub hl [2, 3, 1, 0] rfl)

set_option maxRecDepth 100000 in
theorem inX0_dishesThatAre_0 : ∀ w ∈ wsX00, w ∈ wsX0_dishesThatAre := by decide +kernel

set_option maxHeartbeats 4000000 in
set_option maxRecDepth 100000 in
theorem mX0_dishesThatAre (l : Launch) (D : va_G) (cy : ClassId) (h : Nat) (a : Nat → Nat) (R : Nat → Nat → Int32) (nd n dr : Nat) (fl : Int32) (d : Int32) (hnd : nd < 1000000) (hn : n < 1000000) (hdr : dr < 1000000) : RdI l yX0_dishesThatAre wsX0_dishesThatAre 2 42 [.ref h, .int d] D cy (cC h a cy R nd n dr fl) (countS 20 (R 3) d nd) := by
  refine Met.ofW (cc := cX0_dishesThatAre) (maxL := 4) (ret := (some .int)) (by decide) rfl ?_
  intro p e s m args below meth c s₁ B hml hv
  obtain ⟨rfl, hP, hK⟩ := hv
  have hx := B.exec
  have hb := B.bytes
  have hr := B.returns
  have hts := atoms_spec (ws := wsX0_dishesThatAre) B.pre
  have hown : s.vm.findClass RX0 = some m.cls := findClass_of_methodNamed B.named
  have hlocks := B.notSynchronized
  have hl := lv_entry ([.ref h, .int d]) (n := 4) (Nat.le_of_ble_eq_true rfl)
  rw [lg_entry_eq]
  generalize (lg_sl ([.ref h, .int d]) ++ List.replicate (4 - (lg_sl ([.ref h, .int d])).length) Slot.unset).toArray = ls at hl ⊢
  have hl : lv_has ls 4 [(0, .ref h), (1, .int d)] := hl
  refine lv_iconst (v := 0) hx hb dX0_dishesThatAre_0 (by decide) ?_
  refine lv_istore_n (lv' := [(2, .int 0), (0, .ref h), (1, .int d)]) hx hb dX0_dishesThatAre_1 rfl hl (by decide) rfl (fun ls hl => ?_)
  refine lv_iconst (v := 0) hx hb dX0_dishesThatAre_2 (by decide) ?_
  refine lv_istore_n (lv' := [(3, .int 0), (2, .int 0), (0, .ref h), (1, .int d)]) hx hb dX0_dishesThatAre_3 rfl hl (by decide) rfl (fun ls hl => ?_)
  have loop : ∀ (k i : Nat) (acc : Int32), i + k = nd → acc = countS 20 (R 3) d i → ∀ ls : Array Slot, lv_has ls 4 [(0, .ref h), (1, .int d), (2, .int acc), (3, .int (nI i))] → W p l e (headSpec wsX0_dishesThatAre { frames := 2, cells := 0, slots := 0, locals := 42 }).room s m ([.ref h, .int d] : List Value).toArray below meth c s.heap [] 0 0 (MQ below (vp_Si (fun r => r = countS 20 (R 3) d nd)) ([.ref h, .int d] : List Value).toArray s 0 0 (fun _ => False)) (F0 m 4 ls []) := by
    intro k
    induction k with
    | zero =>
      intro i acc hik hacc ls hl
      have hin : i = nd := by omega
      refine lv_iload_n hx hb dX0_dishesThatAre_4 rfl (lv_at hl 3 rfl) ?_
      refine lv_aload_n hx hb dX0_dishesThatAre_5 rfl (lv_at hl 0 rfl) ?_
      refine va_get (D := D) (ci := 0) (v := .int (nI nd)) (C := RX0) (T := TX0) (N := 15) hx hb hts inX0_dishesThatAre_0 hown hK.1 hP 0 rfl rfl 4 (by decide) (hts (.fieldLink RX0 49 "ChalkSlate" "dishes" "I") (by decide +kernel)) (fun _ h9 => h9) rfl dX0_dishesThatAre_6 ?_
      refine lv_icmp_ge (tgt := 33) hx hb dX0_dishesThatAre_9 (by decide) (fun c1 => ?_) (fun c1 => absurd (nI_le (by omega) (by omega)) c1)
      refine lv_iload_n hx hb dX0_dishesThatAre_33 rfl (lv_at hl 2 rfl) ?_
      exact W.iret (v := acc) hx hb hr (fun t ht hW => ⟨acc, rfl, by rw [hacc, hin], ht⟩) (fun q hq => absurd hq List.not_mem_nil) dX0_dishesThatAre_34
    | succ k ih =>
      intro i acc hik hacc ls hl
      refine lv_iload_n hx hb dX0_dishesThatAre_4 rfl (lv_at hl 3 rfl) ?_
      refine lv_aload_n hx hb dX0_dishesThatAre_5 rfl (lv_at hl 0 rfl) ?_
      refine va_get (D := D) (ci := 0) (v := .int (nI nd)) (C := RX0) (T := TX0) (N := 15) hx hb hts inX0_dishesThatAre_0 hown hK.1 hP 0 rfl rfl 4 (by decide) (hts (.fieldLink RX0 49 "ChalkSlate" "dishes" "I") (by decide +kernel)) (fun _ h9 => h9) rfl dX0_dishesThatAre_6 ?_
      refine lv_icmp_ge (tgt := 33) hx hb dX0_dishesThatAre_9 (by decide) (fun c2 => absurd c2 (nI_ge (by omega) (by omega))) (fun c2 => ?_)
      refine lv_aload_n hx hb dX0_dishesThatAre_12 rfl (lv_at hl 0 rfl) ?_
      refine va_get (D := D) (ci := 0) (v := .ref (a 3)) (C := RX0) (T := TX0) (N := 15) hx hb hts inX0_dishesThatAre_0 hown hK.1 hP 0 rfl rfl 3 (by decide) (hts (.fieldLink RX0 19 "ChalkSlate" "dishState" "[I") (by decide +kernel)) (fun _ h9 => h9) rfl dX0_dishesThatAre_13 ?_
      refine lv_iload_n hx hb dX0_dishesThatAre_16 rfl (lv_at hl 3 rfl) ?_
      refine rd_S (As := [.ref (a 3), .int (nI i)]) (rest := []) ⟨hx, hb, hml, hown, hts⟩ (mX0_at l D cy (a 3) 20 (R 3) (nI i) (Nat.le_of_ble_eq_true rfl)) (va_cwS 2 hts gX0_dishesThatAre_X0_at rfl rfl rfl (by decide +kernel) ⟨Nat.le_of_ble_eq_true rfl, Nat.le_of_ble_eq_true rfl⟩) (hP.sub (ws' := [(a 3, .inl (cy, 20, .inl (R 3)))]) [4] rfl) hK rfl hl.1 rfl (Nat.le_of_ble_eq_true rfl) dX0_dishesThatAre_17 (Nat.zero_le _) (Nat.zero_le _) ?_
      refine lv_iload_n hx hb dX0_dishesThatAre_20 rfl (lv_at hl 1 rfl) ?_
      refine lv_icmp_ne (tgt := 27) hx hb dX0_dishesThatAre_21 (by decide) (fun c3 => ?_) (fun c3 => ?_)
      · refine lv_iinc (v := nI (i + 1)) (lv' := [(3, .int (nI (i + 1))), (0, .ref h), (1, .int d), (2, .int acc)]) hx hb dX0_dishesThatAre_27 hl (k := 3) rfl ((nI_succ i).symm) (by decide) rfl (fun ls hl => ?_)
        refine lv_goto (tgt := 4) hx hb dX0_dishesThatAre_30 (by decide) ?_
        exact ih (i + 1) acc (by omega) (by rw [countS, if_neg c3, ← hacc]) ls (lv_sub hl [1, 2, 3, 0] rfl)
      · refine lv_iinc (v := acc + 1) (lv' := [(2, .int (acc + 1)), (0, .ref h), (1, .int d), (3, .int (nI i))]) hx hb dX0_dishesThatAre_24 hl (k := 2) rfl (rfl) (by decide) rfl (fun ls hl => ?_)
        refine lv_iinc (v := nI (i + 1)) (lv' := [(3, .int (nI (i + 1))), (2, .int (acc + 1)), (0, .ref h), (1, .int d)]) hx hb dX0_dishesThatAre_27 hl (k := 3) rfl ((nI_succ i).symm) (by decide) rfl (fun ls hl => ?_)
        refine lv_goto (tgt := 4) hx hb dX0_dishesThatAre_30 (by decide) ?_
        exact ih (i + 1) (acc + 1) (by omega) (by rw [countS, if_pos c3, ← hacc]) ls (lv_sub hl [2, 3, 1, 0] rfl)
  exact loop nd 0 0 (Nat.zero_add _) (rfl) ls (lv_sub hl [2, 3, 1, 0] rfl)

set_option maxRecDepth 100000 in
theorem inX0_latestLineOf_0 : ∀ w ∈ wsX00, w ∈ wsX0_latestLineOf := by decide +kernel

set_option maxHeartbeats 4000000 in
set_option maxRecDepth 100000 in
theorem mX0_latestLineOf (l : Launch) (D : va_G) (cy : ClassId) (h : Nat) (a : Nat → Nat) (R : Nat → Nat → Int32) (nd n dr : Nat) (fl : Int32) (d : Int32) (hnd : nd < 1000000) (hn : n < 1000000) (hdr : dr < 1000000) : RdI l yX0_latestLineOf wsX0_latestLineOf 2 42 [.ref h, .int d] D cy (cC h a cy R nd n dr fl) (lastS (R 6) d n) := by
  refine Met.ofW (cc := cX0_latestLineOf) (maxL := 3) (ret := (some .int)) (by decide) rfl ?_
  intro p e s m args below meth c s₁ B hml hv
  obtain ⟨rfl, hP, hK⟩ := hv
  have hx := B.exec
  have hb := B.bytes
  have hr := B.returns
  have hts := atoms_spec (ws := wsX0_latestLineOf) B.pre
  have hown : s.vm.findClass RX0 = some m.cls := findClass_of_methodNamed B.named
  have hlocks := B.notSynchronized
  have hl := lv_entry ([.ref h, .int d]) (n := 3) (Nat.le_of_ble_eq_true rfl)
  rw [lg_entry_eq]
  generalize (lg_sl ([.ref h, .int d]) ++ List.replicate (3 - (lg_sl ([.ref h, .int d])).length) Slot.unset).toArray = ls at hl ⊢
  have hl : lv_has ls 3 [(0, .ref h), (1, .int d)] := hl
  refine lv_aload_n hx hb dX0_latestLineOf_0 rfl (lv_at hl 0 rfl) ?_
  refine va_get (D := D) (ci := 0) (v := .int (nI n)) (C := RX0) (T := TX0) (N := 15) hx hb hts inX0_latestLineOf_0 hown hK.1 hP 0 rfl rfl 12 (by decide) (hts (.fieldLink RX0 112 "ChalkSlate" "lines" "I") (by decide +kernel)) (fun _ h9 => h9) rfl dX0_latestLineOf_1 ?_
  refine lv_iconst (v := 1) hx hb dX0_latestLineOf_4 (by decide) ?_
  refine lv_isub hx hb dX0_latestLineOf_5 ?_
  refine lv_istore_n (lv' := [(2, .int ((nI n) - 1)), (0, .ref h), (1, .int d)]) hx hb dX0_latestLineOf_6 rfl hl (by decide) rfl (fun ls hl => ?_)
  have loop : ∀ (i : Nat) (x : Int32), i ≤ n → x = nI i - 1 → lastS (R 6) d n = lastS (R 6) d i → ∀ ls : Array Slot, lv_has ls 3 [(0, .ref h), (1, .int d), (2, .int x)] → W p l e (headSpec wsX0_latestLineOf { frames := 2, cells := 0, slots := 0, locals := 42 }).room s m ([.ref h, .int d] : List Value).toArray below meth c s.heap [] 0 0 (MQ below (vp_Si (fun r => r = lastS (R 6) d n)) ([.ref h, .int d] : List Value).toArray s 0 0 (fun _ => False)) (F0 m 7 ls []) := by
    intro i
    induction i with
    | zero =>
      intro x hik hxx hrel ls hl
      have hx0 : x = -1 := by rw [hxx]; rfl
      subst hx0
      refine lv_iload_n hx hb dX0_latestLineOf_7 rfl (lv_at hl 2 rfl) ?_
      refine lv_if_lt (tgt := 31) hx hb dX0_latestLineOf_8 (by decide) (fun c1 => ?_) (fun c1 => absurd (by decide) c1)
      refine lv_iconst (v := (-1)) hx hb dX0_latestLineOf_31 (by decide) ?_
      exact W.iret (v := (-1)) hx hb hr (fun t ht hW => ⟨(-1), rfl, by rw [hrel, lastS], ht⟩) (fun q hq => absurd hq List.not_mem_nil) dX0_latestLineOf_32
    | succ i ih =>
      intro x hik hxx hrel ls hl
      have hx1 : x = nI i := by rw [hxx, nI_pred]
      subst hx1
      refine lv_iload_n hx hb dX0_latestLineOf_7 rfl (lv_at hl 2 rfl) ?_
      refine lv_if_lt (tgt := 31) hx hb dX0_latestLineOf_8 (by decide) (fun c2 => absurd c2 (nI_pos (by omega))) (fun c2 => ?_)
      refine lv_aload_n hx hb dX0_latestLineOf_11 rfl (lv_at hl 0 rfl) ?_
      refine va_get (D := D) (ci := 0) (v := .ref (a 6)) (C := RX0) (T := TX0) (N := 15) hx hb hts inX0_latestLineOf_0 hown hK.1 hP 0 rfl rfl 7 (by decide) (hts (.fieldLink RX0 28 "ChalkSlate" "linePot" "[I") (by decide +kernel)) (fun _ h9 => h9) rfl dX0_latestLineOf_12 ?_
      refine lv_iload_n hx hb dX0_latestLineOf_15 rfl (lv_at hl 2 rfl) ?_
      refine rd_S (As := [.ref (a 6), .int (nI i)]) (rest := []) ⟨hx, hb, hml, hown, hts⟩ (mX0_at l D cy (a 6) 120 (R 6) (nI i) (Nat.le_of_ble_eq_true rfl)) (va_cwS 2 hts gX0_latestLineOf_X0_at rfl rfl rfl (by decide +kernel) ⟨Nat.le_of_ble_eq_true rfl, Nat.le_of_ble_eq_true rfl⟩) (hP.sub (ws' := [(a 6, .inl (cy, 120, .inl (R 6)))]) [7] rfl) hK rfl hl.1 rfl (Nat.le_of_ble_eq_true rfl) dX0_latestLineOf_16 (Nat.zero_le _) (Nat.zero_le _) ?_
      refine lv_iload_n hx hb dX0_latestLineOf_19 rfl (lv_at hl 1 rfl) ?_
      refine lv_icmp_ne (tgt := 25) hx hb dX0_latestLineOf_20 (by decide) (fun c3 => ?_) (fun c3 => ?_)
      · refine lv_iinc (v := (nI i) + (-1)) (lv' := [(2, .int ((nI i) + (-1))), (0, .ref h), (1, .int d)]) hx hb dX0_latestLineOf_25 hl (k := 2) rfl (rfl) (by decide) rfl (fun ls hl => ?_)
        refine lv_goto (tgt := 7) hx hb dX0_latestLineOf_28 (by decide) ?_
        exact ih _ (by omega) (add_m1 _) (by rw [hrel, lastS, if_neg c3]) ls (lv_sub hl [1, 2, 0] rfl)
      · refine lv_iload_n hx hb dX0_latestLineOf_23 rfl (lv_at hl 2 rfl) ?_
        exact W.iret (v := nI i) hx hb hr (fun t ht hW => ⟨(nI i), rfl, by rw [hrel, lastS, if_pos c3], ht⟩) (fun q hq => absurd hq List.not_mem_nil) dX0_latestLineOf_24
  exact loop n _ (Nat.le_refl _) rfl (rfl) ls (lv_sub hl [1, 2, 0] rfl)

set_option maxRecDepth 100000 in
theorem inX0_lastLineOf_0 : ∀ w ∈ wsX00, w ∈ wsX0_lastLineOf := by decide +kernel

set_option maxHeartbeats 4000000 in
set_option maxRecDepth 100000 in
theorem mX0_lastLineOf (l : Launch) (D : va_G) (cy : ClassId) (h : Nat) (a : Nat → Nat) (R : Nat → Nat → Int32) (nd n dr : Nat) (fl : Int32) (d : Int32) (hnd : nd < 1000000) (hn : n < 1000000) (hdr : dr < 1000000) : RdI l yX0_lastLineOf wsX0_lastLineOf 2 42 [.ref h, .int d] D cy (cC h a cy R nd n dr fl) (lastS (R 4) d n) := by
  refine Met.ofW (cc := cX0_lastLineOf) (maxL := 3) (ret := (some .int)) (by decide) rfl ?_
  intro p e s m args below meth c s₁ B hml hv
  obtain ⟨rfl, hP, hK⟩ := hv
  have hx := B.exec
  have hb := B.bytes
  have hr := B.returns
  have hts := atoms_spec (ws := wsX0_lastLineOf) B.pre
  have hown : s.vm.findClass RX0 = some m.cls := findClass_of_methodNamed B.named
  have hlocks := B.notSynchronized
  have hl := lv_entry ([.ref h, .int d]) (n := 3) (Nat.le_of_ble_eq_true rfl)
  rw [lg_entry_eq]
  generalize (lg_sl ([.ref h, .int d]) ++ List.replicate (3 - (lg_sl ([.ref h, .int d])).length) Slot.unset).toArray = ls at hl ⊢
  have hl : lv_has ls 3 [(0, .ref h), (1, .int d)] := hl
  refine lv_aload_n hx hb dX0_lastLineOf_0 rfl (lv_at hl 0 rfl) ?_
  refine va_get (D := D) (ci := 0) (v := .int (nI n)) (C := RX0) (T := TX0) (N := 15) hx hb hts inX0_lastLineOf_0 hown hK.1 hP 0 rfl rfl 12 (by decide) (hts (.fieldLink RX0 112 "ChalkSlate" "lines" "I") (by decide +kernel)) (fun _ h9 => h9) rfl dX0_lastLineOf_1 ?_
  refine lv_iconst (v := 1) hx hb dX0_lastLineOf_4 (by decide) ?_
  refine lv_isub hx hb dX0_lastLineOf_5 ?_
  refine lv_istore_n (lv' := [(2, .int ((nI n) - 1)), (0, .ref h), (1, .int d)]) hx hb dX0_lastLineOf_6 rfl hl (by decide) rfl (fun ls hl => ?_)
  have loop : ∀ (i : Nat) (x : Int32), i ≤ n → x = nI i - 1 → lastS (R 4) d n = lastS (R 4) d i → ∀ ls : Array Slot, lv_has ls 3 [(0, .ref h), (1, .int d), (2, .int x)] → W p l e (headSpec wsX0_lastLineOf { frames := 2, cells := 0, slots := 0, locals := 42 }).room s m ([.ref h, .int d] : List Value).toArray below meth c s.heap [] 0 0 (MQ below (vp_Si (fun r => r = lastS (R 4) d n)) ([.ref h, .int d] : List Value).toArray s 0 0 (fun _ => False)) (F0 m 7 ls []) := by
    intro i
    induction i with
    | zero =>
      intro x hik hxx hrel ls hl
      have hx0 : x = -1 := by rw [hxx]; rfl
      subst hx0
      refine lv_iload_n hx hb dX0_lastLineOf_7 rfl (lv_at hl 2 rfl) ?_
      refine lv_if_lt (tgt := 31) hx hb dX0_lastLineOf_8 (by decide) (fun c1 => ?_) (fun c1 => absurd (by decide) c1)
      refine lv_iconst (v := (-1)) hx hb dX0_lastLineOf_31 (by decide) ?_
      exact W.iret (v := (-1)) hx hb hr (fun t ht hW => ⟨(-1), rfl, by rw [hrel, lastS], ht⟩) (fun q hq => absurd hq List.not_mem_nil) dX0_lastLineOf_32
    | succ i ih =>
      intro x hik hxx hrel ls hl
      have hx1 : x = nI i := by rw [hxx, nI_pred]
      subst hx1
      refine lv_iload_n hx hb dX0_lastLineOf_7 rfl (lv_at hl 2 rfl) ?_
      refine lv_if_lt (tgt := 31) hx hb dX0_lastLineOf_8 (by decide) (fun c2 => absurd c2 (nI_pos (by omega))) (fun c2 => ?_)
      refine lv_aload_n hx hb dX0_lastLineOf_11 rfl (lv_at hl 0 rfl) ?_
      refine va_get (D := D) (ci := 0) (v := .ref (a 4)) (C := RX0) (T := TX0) (N := 15) hx hb hts inX0_lastLineOf_0 hown hK.1 hP 0 rfl rfl 5 (by decide) (hts (.fieldLink RX0 22 "ChalkSlate" "lineDish" "[I") (by decide +kernel)) (fun _ h9 => h9) rfl dX0_lastLineOf_12 ?_
      refine lv_iload_n hx hb dX0_lastLineOf_15 rfl (lv_at hl 2 rfl) ?_
      refine rd_S (As := [.ref (a 4), .int (nI i)]) (rest := []) ⟨hx, hb, hml, hown, hts⟩ (mX0_at l D cy (a 4) 120 (R 4) (nI i) (Nat.le_of_ble_eq_true rfl)) (va_cwS 2 hts gX0_lastLineOf_X0_at rfl rfl rfl (by decide +kernel) ⟨Nat.le_of_ble_eq_true rfl, Nat.le_of_ble_eq_true rfl⟩) (hP.sub (ws' := [(a 4, .inl (cy, 120, .inl (R 4)))]) [5] rfl) hK rfl hl.1 rfl (Nat.le_of_ble_eq_true rfl) dX0_lastLineOf_16 (Nat.zero_le _) (Nat.zero_le _) ?_
      refine lv_iload_n hx hb dX0_lastLineOf_19 rfl (lv_at hl 1 rfl) ?_
      refine lv_icmp_ne (tgt := 25) hx hb dX0_lastLineOf_20 (by decide) (fun c3 => ?_) (fun c3 => ?_)
      · refine lv_iinc (v := (nI i) + (-1)) (lv' := [(2, .int ((nI i) + (-1))), (0, .ref h), (1, .int d)]) hx hb dX0_lastLineOf_25 hl (k := 2) rfl (rfl) (by decide) rfl (fun ls hl => ?_)
        refine lv_goto (tgt := 7) hx hb dX0_lastLineOf_28 (by decide) ?_
        exact ih _ (by omega) (add_m1 _) (by rw [hrel, lastS, if_neg c3]) ls (lv_sub hl [1, 2, 0] rfl)
      · refine lv_iload_n hx hb dX0_lastLineOf_23 rfl (lv_at hl 2 rfl) ?_
        exact W.iret (v := nI i) hx hb hr (fun t ht hW => ⟨(nI i), rfl, by rw [hrel, lastS, if_pos c3], ht⟩) (fun q hq => absurd hq List.not_mem_nil) dX0_lastLineOf_24
  exact loop n _ (Nat.le_refl _) rfl (rfl) ls (lv_sub hl [1, 2, 0] rfl)

set_option maxRecDepth 100000 in
theorem inX0_holderOf_0 : ∀ w ∈ wsX00, w ∈ wsX0_holderOf := by decide +kernel

set_option maxHeartbeats 4000000 in
set_option maxRecDepth 100000 in
theorem mX0_holderOf (l : Launch) (D : va_G) (cy : ClassId) (h : Nat) (a : Nat → Nat) (R : Nat → Nat → Int32) (nd n dr : Nat) (fl : Int32) (d : Int32) (hnd : nd < 1000000) (hn : n < 1000000) (hdr : dr < 1000000) : RdI l yX0_holderOf wsX0_holderOf 3 63 [.ref h, .int d] D cy (cC h a cy R nd n dr fl) (holderS R d n 0) := by
  refine Met.ofW (cc := cX0_holderOf) (maxL := 4) (ret := (some .int)) (by decide) rfl ?_
  intro p e s m args below meth c s₁ B hml hv
  obtain ⟨rfl, hP, hK⟩ := hv
  have hx := B.exec
  have hb := B.bytes
  have hr := B.returns
  have hts := atoms_spec (ws := wsX0_holderOf) B.pre
  have hown : s.vm.findClass RX0 = some m.cls := findClass_of_methodNamed B.named
  have hlocks := B.notSynchronized
  have hl := lv_entry ([.ref h, .int d]) (n := 4) (Nat.le_of_ble_eq_true rfl)
  rw [lg_entry_eq]
  generalize (lg_sl ([.ref h, .int d]) ++ List.replicate (4 - (lg_sl ([.ref h, .int d])).length) Slot.unset).toArray = ls at hl ⊢
  have hl : lv_has ls 4 [(0, .ref h), (1, .int d)] := hl
  refine lv_iconst (v := 0) hx hb dX0_holderOf_0 (by decide) ?_
  refine lv_istore_n (lv' := [(2, .int 0), (0, .ref h), (1, .int d)]) hx hb dX0_holderOf_1 rfl hl (by decide) rfl (fun ls hl => ?_)
  have loop : ∀ (k i : Nat), i + k = n → holderS R d n 0 = holderS R d k i → ∀ ls : Array Slot, lv_has ls 4 [(0, .ref h), (1, .int d), (2, .int (nI i))] → W p l e (headSpec wsX0_holderOf { frames := 3, cells := 0, slots := 0, locals := 63 }).room s m ([.ref h, .int d] : List Value).toArray below meth c s.heap [] 0 0 (MQ below (vp_Si (fun r => r = holderS R d n 0)) ([.ref h, .int d] : List Value).toArray s 0 0 (fun _ => False)) (F0 m 2 ls []) := by
    intro k
    induction k with
    | zero =>
      intro i hik hrel ls hl
      have hin : i = n := by omega
      refine lv_iload_n hx hb dX0_holderOf_2 rfl (lv_at hl 2 rfl) ?_
      refine lv_aload_n hx hb dX0_holderOf_3 rfl (lv_at hl 0 rfl) ?_
      refine va_get (D := D) (ci := 0) (v := .int (nI n)) (C := RX0) (T := TX0) (N := 15) hx hb hts inX0_holderOf_0 hown hK.1 hP 0 rfl rfl 12 (by decide) (hts (.fieldLink RX0 112 "ChalkSlate" "lines" "I") (by decide +kernel)) (fun _ h9 => h9) rfl dX0_holderOf_4 ?_
      refine lv_icmp_ge (tgt := 59) hx hb dX0_holderOf_7 (by decide) (fun c1 => ?_) (fun c1 => absurd (nI_le (by omega) (by omega)) c1)
      refine lv_iconst (v := (-1)) hx hb dX0_holderOf_59 (by decide) ?_
      exact W.iret (v := (-1)) hx hb hr (fun t ht hW => ⟨(-1), rfl, by rw [hrel, holderS], ht⟩) (fun q hq => absurd hq List.not_mem_nil) dX0_holderOf_60
    | succ k ih =>
      intro i hik hrel ls hl
      refine lv_iload_n hx hb dX0_holderOf_2 rfl (lv_at hl 2 rfl) ?_
      refine lv_aload_n hx hb dX0_holderOf_3 rfl (lv_at hl 0 rfl) ?_
      refine va_get (D := D) (ci := 0) (v := .int (nI n)) (C := RX0) (T := TX0) (N := 15) hx hb hts inX0_holderOf_0 hown hK.1 hP 0 rfl rfl 12 (by decide) (hts (.fieldLink RX0 112 "ChalkSlate" "lines" "I") (by decide +kernel)) (fun _ h9 => h9) rfl dX0_holderOf_4 ?_
      refine lv_icmp_ge (tgt := 59) hx hb dX0_holderOf_7 (by decide) (fun c2 => absurd c2 (nI_ge (by omega) (by omega))) (fun c2 => ?_)
      refine lv_aload_n hx hb dX0_holderOf_10 rfl (lv_at hl 0 rfl) ?_
      refine va_get (D := D) (ci := 0) (v := .ref (a 4)) (C := RX0) (T := TX0) (N := 15) hx hb hts inX0_holderOf_0 hown hK.1 hP 0 rfl rfl 5 (by decide) (hts (.fieldLink RX0 22 "ChalkSlate" "lineDish" "[I") (by decide +kernel)) (fun _ h9 => h9) rfl dX0_holderOf_11 ?_
      refine lv_iload_n hx hb dX0_holderOf_14 rfl (lv_at hl 2 rfl) ?_
      refine rd_S (As := [.ref (a 4), .int (nI i)]) (rest := []) ⟨hx, hb, hml, hown, hts⟩ (mX0_at l D cy (a 4) 120 (R 4) (nI i) (Nat.le_of_ble_eq_true rfl)) (va_cwS 2 hts gX0_holderOf_X0_at rfl rfl rfl (by decide +kernel) ⟨Nat.le_of_ble_eq_true rfl, Nat.le_of_ble_eq_true rfl⟩) (hP.sub (ws' := [(a 4, .inl (cy, 120, .inl (R 4)))]) [5] rfl) hK rfl hl.1 rfl (Nat.le_of_ble_eq_true rfl) dX0_holderOf_15 (Nat.zero_le _) (Nat.zero_le _) ?_
      refine lv_istore_n (lv' := [(3, .int (atS 120 (R 4) (nI i))), (0, .ref h), (1, .int d), (2, .int (nI i))]) hx hb dX0_holderOf_18 rfl hl (by decide) rfl (fun ls hl => ?_)
      refine lv_aload_n hx hb dX0_holderOf_19 rfl (lv_at hl 1 rfl) ?_
      refine va_get (D := D) (ci := 0) (v := .ref (a 5)) (C := RX0) (T := TX0) (N := 15) hx hb hts inX0_holderOf_0 hown hK.1 hP 0 rfl rfl 6 (by decide) (hts (.fieldLink RX0 25 "ChalkSlate" "lineKind" "[I") (by decide +kernel)) (fun _ h9 => h9) rfl dX0_holderOf_20 ?_
      refine lv_iload_n hx hb dX0_holderOf_23 rfl (lv_at hl 3 rfl) ?_
      refine rd_S (As := [.ref (a 5), .int (nI i)]) (rest := []) ⟨hx, hb, hml, hown, hts⟩ (mX0_at l D cy (a 5) 120 (R 5) (nI i) (Nat.le_of_ble_eq_true rfl)) (va_cwS 2 hts gX0_holderOf_X0_at rfl rfl rfl (by decide +kernel) ⟨Nat.le_of_ble_eq_true rfl, Nat.le_of_ble_eq_true rfl⟩) (hP.sub (ws' := [(a 5, .inl (cy, 120, .inl (R 5)))]) [6] rfl) hK rfl hl.1 rfl (Nat.le_of_ble_eq_true rfl) dX0_holderOf_24 (Nat.zero_le _) (Nat.zero_le _) ?_
      refine lv_iconst (v := 1) hx hb dX0_holderOf_27 (by decide) ?_
      refine lv_icmp_ne (tgt := 53) hx hb dX0_holderOf_28 (by decide) (fun c3 => ?_) (fun c3 => ?_)
      · refine lv_iinc (v := nI (i + 1)) (lv' := [(2, .int (nI (i + 1))), (3, .int (atS 120 (R 4) (nI i))), (0, .ref h), (1, .int d)]) hx hb dX0_holderOf_53 hl (k := 3) rfl ((nI_succ i).symm) (by decide) rfl (fun ls hl => ?_)
        refine lv_goto (tgt := 2) hx hb dX0_holderOf_56 (by decide) ?_
        exact ih (i + 1) (by omega) (by rw [hrel, holderS, if_neg c3]) ls (lv_sub hl [2, 3, 0] rfl)
      · refine lv_aload_n hx hb dX0_holderOf_31 rfl (lv_at hl 1 rfl) ?_
        refine va_get (D := D) (ci := 0) (v := .ref (a 6)) (C := RX0) (T := TX0) (N := 15) hx hb hts inX0_holderOf_0 hown hK.1 hP 0 rfl rfl 7 (by decide) (hts (.fieldLink RX0 28 "ChalkSlate" "linePot" "[I") (by decide +kernel)) (fun _ h9 => h9) rfl dX0_holderOf_32 ?_
        refine lv_iload_n hx hb dX0_holderOf_35 rfl (lv_at hl 3 rfl) ?_
        refine rd_S (As := [.ref (a 6), .int (nI i)]) (rest := []) ⟨hx, hb, hml, hown, hts⟩ (mX0_at l D cy (a 6) 120 (R 6) (nI i) (Nat.le_of_ble_eq_true rfl)) (va_cwS 2 hts gX0_holderOf_X0_at rfl rfl rfl (by decide +kernel) ⟨Nat.le_of_ble_eq_true rfl, Nat.le_of_ble_eq_true rfl⟩) (hP.sub (ws' := [(a 6, .inl (cy, 120, .inl (R 6)))]) [7] rfl) hK rfl hl.1 rfl (Nat.le_of_ble_eq_true rfl) dX0_holderOf_36 (Nat.zero_le _) (Nat.zero_le _) ?_
        refine lv_iload_n hx hb dX0_holderOf_39 rfl (lv_at hl 2 rfl) ?_
        refine lv_icmp_ne (tgt := 53) hx hb dX0_holderOf_40 (by decide) (fun c4 => ?_) (fun c4 => ?_)
        · refine lv_iinc (v := nI (i + 1)) (lv' := [(2, .int (nI (i + 1))), (3, .int (atS 120 (R 4) (nI i))), (0, .ref h), (1, .int d)]) hx hb dX0_holderOf_53 hl (k := 3) rfl ((nI_succ i).symm) (by decide) rfl (fun ls hl => ?_)
          refine lv_goto (tgt := 2) hx hb dX0_holderOf_56 (by decide) ?_
          exact ih (i + 1) (by omega) (by rw [hrel, holderS, if_pos c3, if_neg c4]) ls (lv_sub hl [2, 3, 0] rfl)
        · refine lv_aload_n hx hb dX0_holderOf_43 rfl (lv_at hl 1 rfl) ?_
          refine lv_iload_n hx hb dX0_holderOf_44 rfl (lv_at hl 0 rfl) ?_
          refine rd_V (q := (RX0, TX0, 15)) (ci := 0) (q0 := 0) (As := [.int (atS 120 (R 4) (nI i))]) (rest := []) ⟨hx, hb, hml, hown, hts⟩ (mX0_isOpen l D cy h a R nd n dr fl (atS 120 (R 4) (nI i)) (by omega) (by omega) (by omega) ) (cwV 1 hts gX0_holderOf_X0_isOpen rfl rfl rfl (by decide +kernel) ⟨Nat.le_of_ble_eq_true rfl, Nat.le_of_ble_eq_true rfl⟩) hP hK rfl rfl rfl hl.1 rfl (Nat.le_of_ble_eq_true rfl) dX0_holderOf_45 (Nat.zero_le _) (Nat.zero_le _) ?_
          refine lv_if_eq (tgt := 53) hx hb dX0_holderOf_48 (by decide) (fun c5 => ?_) (fun c5 => ?_)
          · refine lv_iinc (v := nI (i + 1)) (lv' := [(2, .int (nI (i + 1))), (3, .int (atS 120 (R 4) (nI i))), (0, .ref h), (1, .int d)]) hx hb dX0_holderOf_53 hl (k := 3) rfl ((nI_succ i).symm) (by decide) rfl (fun ls hl => ?_)
            refine lv_goto (tgt := 2) hx hb dX0_holderOf_56 (by decide) ?_
            exact ih (i + 1) (by omega) (by rw [hrel, holderS, if_pos c3, if_pos c4, if_pos c5]) ls (lv_sub hl [2, 3, 0] rfl)
          · refine lv_iload_n hx hb dX0_holderOf_51 rfl (lv_at hl 0 rfl) ?_
            exact W.iret (v := atS 120 (R 4) (nI i)) hx hb hr (fun t ht hW => ⟨(atS 120 (R 4) (nI i)), rfl, by rw [hrel, holderS, if_pos c3, if_pos c4, if_neg c5], ht⟩) (fun q hq => absurd hq List.not_mem_nil) dX0_holderOf_52
  exact loop n 0 (Nat.zero_add _) (rfl) ls (lv_sub hl [1, 2, 0] rfl)

set_option maxRecDepth 100000 in
theorem inX0_potsHeldBy_0 : ∀ w ∈ wsX00, w ∈ wsX0_potsHeldBy := by decide +kernel

set_option maxHeartbeats 4000000 in
set_option maxRecDepth 100000 in
theorem mX0_potsHeldBy (l : Launch) (D : va_G) (cy : ClassId) (h : Nat) (a : Nat → Nat) (R : Nat → Nat → Int32) (nd n dr : Nat) (fl : Int32) (d : Int32) (hnd : nd < 1000000) (hn : n < 1000000) (hdr : dr < 1000000) : RdI l yX0_potsHeldBy wsX0_potsHeldBy 4 86 [.ref h, .int d] D cy (cC h a cy R nd n dr fl) (potsHeldS R n d 8) := by
  refine Met.ofW (cc := cX0_potsHeldBy) (maxL := 4) (ret := (some .int)) (by decide) rfl ?_
  intro p e s m args below meth c s₁ B hml hv
  obtain ⟨rfl, hP, hK⟩ := hv
  have hx := B.exec
  have hb := B.bytes
  have hr := B.returns
  have hts := atoms_spec (ws := wsX0_potsHeldBy) B.pre
  have hown : s.vm.findClass RX0 = some m.cls := findClass_of_methodNamed B.named
  have hlocks := B.notSynchronized
  have hl := lv_entry ([.ref h, .int d]) (n := 4) (Nat.le_of_ble_eq_true rfl)
  rw [lg_entry_eq]
  generalize (lg_sl ([.ref h, .int d]) ++ List.replicate (4 - (lg_sl ([.ref h, .int d])).length) Slot.unset).toArray = ls at hl ⊢
  have hl : lv_has ls 4 [(0, .ref h), (1, .int d)] := hl
  refine lv_iconst (v := 0) hx hb dX0_potsHeldBy_0 (by decide) ?_
  refine lv_istore_n (lv' := [(2, .int 0), (0, .ref h), (1, .int d)]) hx hb dX0_potsHeldBy_1 rfl hl (by decide) rfl (fun ls hl => ?_)
  refine lv_iconst (v := 0) hx hb dX0_potsHeldBy_2 (by decide) ?_
  refine lv_istore_n (lv' := [(3, .int 0), (2, .int 0), (0, .ref h), (1, .int d)]) hx hb dX0_potsHeldBy_3 rfl hl (by decide) rfl (fun ls hl => ?_)
  have loop : ∀ (k i : Nat) (acc : Int32), i + k = 8 → acc = potsHeldS R n d i → ∀ ls : Array Slot, lv_has ls 4 [(0, .ref h), (1, .int d), (2, .int acc), (3, .int (nI i))] → W p l e (headSpec wsX0_potsHeldBy { frames := 4, cells := 0, slots := 0, locals := 86 }).room s m ([.ref h, .int d] : List Value).toArray below meth c s.heap [] 0 0 (MQ below (vp_Si (fun r => r = potsHeldS R n d 8)) ([.ref h, .int d] : List Value).toArray s 0 0 (fun _ => False)) (F0 m 4 ls []) := by
    intro k
    induction k with
    | zero =>
      intro i acc hik hacc ls hl
      have hin : i = 8 := by omega
      refine lv_iload_n hx hb dX0_potsHeldBy_4 rfl (lv_at hl 3 rfl) ?_
      refine lv_bipush (v := 8) hx hb dX0_potsHeldBy_5 (by decide) ?_
      refine lv_icmp_ge (tgt := 28) hx hb dX0_potsHeldBy_7 (by decide) (fun c1 => ?_) (fun c1 => absurd (nI_le (a := 8) (by omega) (by omega)) c1)
      refine lv_iload_n hx hb dX0_potsHeldBy_28 rfl (lv_at hl 2 rfl) ?_
      exact W.iret (v := acc) hx hb hr (fun t ht hW => ⟨acc, rfl, by rw [hacc, hin], ht⟩) (fun q hq => absurd hq List.not_mem_nil) dX0_potsHeldBy_29
    | succ k ih =>
      intro i acc hik hacc ls hl
      refine lv_iload_n hx hb dX0_potsHeldBy_4 rfl (lv_at hl 3 rfl) ?_
      refine lv_bipush (v := 8) hx hb dX0_potsHeldBy_5 (by decide) ?_
      refine lv_icmp_ge (tgt := 28) hx hb dX0_potsHeldBy_7 (by decide) (fun c2 => absurd c2 (nI_ge (b := 8) (by omega) (by omega))) (fun c2 => ?_)
      refine lv_aload_n hx hb dX0_potsHeldBy_10 rfl (lv_at hl 0 rfl) ?_
      refine lv_iload_n hx hb dX0_potsHeldBy_11 rfl (lv_at hl 3 rfl) ?_
      refine rd_V (q := (RX0, TX0, 15)) (ci := 0) (q0 := 0) (As := [.int (nI i)]) (rest := []) ⟨hx, hb, hml, hown, hts⟩ (mX0_holderOf l D cy h a R nd n dr fl (nI i) (by omega) (by omega) (by omega) ) (cwV 1 hts gX0_potsHeldBy_X0_holderOf rfl rfl rfl (by decide +kernel) ⟨Nat.le_of_ble_eq_true rfl, Nat.le_of_ble_eq_true rfl⟩) hP hK rfl rfl rfl hl.1 rfl (Nat.le_of_ble_eq_true rfl) dX0_potsHeldBy_12 (Nat.zero_le _) (Nat.zero_le _) ?_
      refine lv_iload_n hx hb dX0_potsHeldBy_15 rfl (lv_at hl 1 rfl) ?_
      refine lv_icmp_ne (tgt := 22) hx hb dX0_potsHeldBy_16 (by decide) (fun c3 => ?_) (fun c3 => ?_)
      · refine lv_iinc (v := nI (i + 1)) (lv' := [(3, .int (nI (i + 1))), (0, .ref h), (1, .int d), (2, .int acc)]) hx hb dX0_potsHeldBy_22 hl (k := 3) rfl ((nI_succ i).symm) (by decide) rfl (fun ls hl => ?_)
        refine lv_goto (tgt := 4) hx hb dX0_potsHeldBy_25 (by decide) ?_
        exact ih (i + 1) acc (by omega) (by rw [potsHeldS, if_neg c3, ← hacc]) ls (lv_sub hl [1, 2, 3, 0] rfl)
      · refine lv_iinc (v := acc + 1) (lv' := [(2, .int (acc + 1)), (0, .ref h), (1, .int d), (3, .int (nI i))]) hx hb dX0_potsHeldBy_19 hl (k := 2) rfl (rfl) (by decide) rfl (fun ls hl => ?_)
        refine lv_iinc (v := nI (i + 1)) (lv' := [(3, .int (nI (i + 1))), (2, .int (acc + 1)), (0, .ref h), (1, .int d)]) hx hb dX0_potsHeldBy_22 hl (k := 3) rfl ((nI_succ i).symm) (by decide) rfl (fun ls hl => ?_)
        refine lv_goto (tgt := 4) hx hb dX0_potsHeldBy_25 (by decide) ?_
        exact ih (i + 1) (acc + 1) (by omega) (by rw [potsHeldS, if_pos c3, ← hacc]) ls (lv_sub hl [2, 3, 1, 0] rfl)
  exact loop 8 0 0 (Nat.zero_add _) (rfl) ls (lv_sub hl [2, 3, 1, 0] rfl)

set_option maxRecDepth 100000 in
theorem inX0_stateByLines_0 : ∀ w ∈ wsX00, w ∈ wsX0_stateByLines := by decide +kernel

set_option maxHeartbeats 4000000 in
set_option maxRecDepth 100000 in
theorem mX0_stateByLines (l : Launch) (D : va_G) (cy : ClassId) (h : Nat) (a : Nat → Nat) (R : Nat → Nat → Int32) (nd n dr : Nat) (fl : Int32) (d : Int32) (e9 : Nat) (hnd : nd < 1000000) (hn : n < 1000000) (hdr : dr < 1000000) (he : e9 < 1000000) : RdI l yX0_stateByLines wsX0_stateByLines 2 42 [.ref h, .int d, .int (nI e9)] D cy (cC h a cy R nd n dr fl) (stateByS R d e9) := by
  refine Met.ofW (cc := cX0_stateByLines) (maxL := 5) (ret := (some .int)) (by decide) rfl ?_
  intro p e s m args below meth c s₁ B hml hv
  obtain ⟨rfl, hP, hK⟩ := hv
  have hx := B.exec
  have hb := B.bytes
  have hr := B.returns
  have hts := atoms_spec (ws := wsX0_stateByLines) B.pre
  have hown : s.vm.findClass RX0 = some m.cls := findClass_of_methodNamed B.named
  have hlocks := B.notSynchronized
  have hl := lv_entry ([.ref h, .int d, .int (nI e9)]) (n := 5) (Nat.le_of_ble_eq_true rfl)
  rw [lg_entry_eq]
  generalize (lg_sl ([.ref h, .int d, .int (nI e9)]) ++ List.replicate (5 - (lg_sl ([.ref h, .int d, .int (nI e9)])).length) Slot.unset).toArray = ls at hl ⊢
  have hl : lv_has ls 5 [(0, .ref h), (1, .int d), (2, .int (nI e9))] := hl
  refine lv_iconst (v := 3) hx hb dX0_stateByLines_0 (by decide) ?_
  refine lv_istore_n (lv' := [(3, .int 3), (0, .ref h), (1, .int d), (2, .int (nI e9))]) hx hb dX0_stateByLines_1 rfl hl (by decide) rfl (fun ls hl => ?_)
  refine lv_iconst (v := 0) hx hb dX0_stateByLines_2 (by decide) ?_
  refine lv_istore (lv' := [(4, .int 0), (3, .int 3), (0, .ref h), (1, .int d), (2, .int (nI e9))]) hx hb dX0_stateByLines_3 hl (by decide) rfl (fun ls hl => ?_)
  have loop : ∀ (k i : Nat) (acc : Int32), i + k = e9 → acc = stateByS R d i → ∀ ls : Array Slot, lv_has ls 5 [(0, .ref h), (1, .int d), (2, .int (nI e9)), (3, .int acc), (4, .int (nI i))] → W p l e (headSpec wsX0_stateByLines { frames := 2, cells := 0, slots := 0, locals := 42 }).room s m ([.ref h, .int d, .int (nI e9)] : List Value).toArray below meth c s.heap [] 0 0 (MQ below (vp_Si (fun r => r = stateByS R d e9)) ([.ref h, .int d, .int (nI e9)] : List Value).toArray s 0 0 (fun _ => False)) (F0 m 5 ls []) := by
    intro k
    induction k with
    | zero =>
      intro i acc hik hacc ls hl
      have hin : i = e9 := by omega
      refine lv_iload hx hb dX0_stateByLines_5 (lv_at hl 4 rfl) ?_
      refine lv_iload_n hx hb dX0_stateByLines_7 rfl (lv_at hl 2 rfl) ?_
      refine lv_icmp_ge (tgt := 44) hx hb dX0_stateByLines_8 (by decide) (fun c1 => ?_) (fun c1 => absurd (nI_le (by omega) (by omega)) c1)
      refine lv_iload_n hx hb dX0_stateByLines_44 rfl (lv_at hl 3 rfl) ?_
      exact W.iret (v := acc) hx hb hr (fun t ht hW => ⟨acc, rfl, by rw [hacc, hin], ht⟩) (fun q hq => absurd hq List.not_mem_nil) dX0_stateByLines_45
    | succ k ih =>
      intro i acc hik hacc ls hl
      refine lv_iload hx hb dX0_stateByLines_5 (lv_at hl 4 rfl) ?_
      refine lv_iload_n hx hb dX0_stateByLines_7 rfl (lv_at hl 2 rfl) ?_
      refine lv_icmp_ge (tgt := 44) hx hb dX0_stateByLines_8 (by decide) (fun c2 => absurd c2 (nI_ge (by omega) (by omega))) (fun c2 => ?_)
      refine lv_aload_n hx hb dX0_stateByLines_11 rfl (lv_at hl 0 rfl) ?_
      refine va_get (D := D) (ci := 0) (v := .ref (a 4)) (C := RX0) (T := TX0) (N := 15) hx hb hts inX0_stateByLines_0 hown hK.1 hP 0 rfl rfl 5 (by decide) (hts (.fieldLink RX0 22 "ChalkSlate" "lineDish" "[I") (by decide +kernel)) (fun _ h9 => h9) rfl dX0_stateByLines_12 ?_
      refine lv_iload hx hb dX0_stateByLines_15 (lv_at hl 4 rfl) ?_
      refine rd_S (As := [.ref (a 4), .int (nI i)]) (rest := []) ⟨hx, hb, hml, hown, hts⟩ (mX0_at l D cy (a 4) 120 (R 4) (nI i) (Nat.le_of_ble_eq_true rfl)) (va_cwS 2 hts gX0_stateByLines_X0_at rfl rfl rfl (by decide +kernel) ⟨Nat.le_of_ble_eq_true rfl, Nat.le_of_ble_eq_true rfl⟩) (hP.sub (ws' := [(a 4, .inl (cy, 120, .inl (R 4)))]) [5] rfl) hK rfl hl.1 rfl (Nat.le_of_ble_eq_true rfl) dX0_stateByLines_17 (Nat.zero_le _) (Nat.zero_le _) ?_
      refine lv_iload_n hx hb dX0_stateByLines_20 rfl (lv_at hl 1 rfl) ?_
      refine lv_icmp_ne (tgt := 38) hx hb dX0_stateByLines_21 (by decide) (fun c3 => ?_) (fun c3 => ?_)
      · refine lv_iinc (v := nI (i + 1)) (lv' := [(4, .int (nI (i + 1))), (0, .ref h), (1, .int d), (2, .int (nI e9)), (3, .int acc)]) hx hb dX0_stateByLines_38 hl (k := 4) rfl ((nI_succ i).symm) (by decide) rfl (fun ls hl => ?_)
        refine lv_goto (tgt := 5) hx hb dX0_stateByLines_41 (by decide) ?_
        exact ih (i + 1) acc (by omega) (by rw [stateByS, if_neg c3, ← hacc]) ls (lv_sub hl [1, 2, 3, 4, 0] rfl)
      · refine lv_aload_n hx hb dX0_stateByLines_24 rfl (lv_at hl 0 rfl) ?_
        refine va_get (D := D) (ci := 0) (v := .ref (a 5)) (C := RX0) (T := TX0) (N := 15) hx hb hts inX0_stateByLines_0 hown hK.1 hP 0 rfl rfl 6 (by decide) (hts (.fieldLink RX0 25 "ChalkSlate" "lineKind" "[I") (by decide +kernel)) (fun _ h9 => h9) rfl dX0_stateByLines_25 ?_
        refine lv_iload hx hb dX0_stateByLines_28 (lv_at hl 4 rfl) ?_
        refine rd_S (As := [.ref (a 5), .int (nI i)]) (rest := []) ⟨hx, hb, hml, hown, hts⟩ (mX0_at l D cy (a 5) 120 (R 5) (nI i) (Nat.le_of_ble_eq_true rfl)) (va_cwS 2 hts gX0_stateByLines_X0_at rfl rfl rfl (by decide +kernel) ⟨Nat.le_of_ble_eq_true rfl, Nat.le_of_ble_eq_true rfl⟩) (hP.sub (ws' := [(a 5, .inl (cy, 120, .inl (R 5)))]) [6] rfl) hK rfl hl.1 rfl (Nat.le_of_ble_eq_true rfl) dX0_stateByLines_30 (Nat.zero_le _) (Nat.zero_le _) ?_
        refine lv_iload_n hx hb dX0_stateByLines_33 rfl (lv_at hl 3 rfl) ?_
        refine rd_S (As := [.int (atS 120 (R 5) (nI i)), .int acc]) (rest := []) ⟨hx, hb, hml, hown, hts⟩ (mX0_stateAfter l D cy (atS 120 (R 5) (nI i)) acc) (va_cwS 2 hts gX0_stateByLines_X0_stateAfter rfl rfl rfl (by decide +kernel) ⟨Nat.le_of_ble_eq_true rfl, Nat.le_of_ble_eq_true rfl⟩) (hP.sub (ws' := []) [] rfl) hK rfl hl.1 rfl (Nat.le_of_ble_eq_true rfl) dX0_stateByLines_34 (Nat.zero_le _) (Nat.zero_le _) ?_
        refine lv_istore_n (lv' := [(3, .int (stateAfterS (atS 120 (R 5) (nI i)) acc)), (0, .ref h), (1, .int d), (2, .int (nI e9)), (4, .int (nI i))]) hx hb dX0_stateByLines_37 rfl hl (by decide) rfl (fun ls hl => ?_)
        refine lv_iinc (v := nI (i + 1)) (lv' := [(4, .int (nI (i + 1))), (3, .int (stateAfterS (atS 120 (R 5) (nI i)) acc)), (0, .ref h), (1, .int d), (2, .int (nI e9))]) hx hb dX0_stateByLines_38 hl (k := 4) rfl ((nI_succ i).symm) (by decide) rfl (fun ls hl => ?_)
        refine lv_goto (tgt := 5) hx hb dX0_stateByLines_41 (by decide) ?_
        exact ih (i + 1) (stateAfterS (atS 120 (R 5) (nI i)) acc) (by omega) (by rw [stateByS, if_pos c3, ← hacc]) ls (lv_sub hl [2, 3, 4, 1, 0] rfl)
  exact loop e9 0 3 (Nat.zero_add _) (rfl) ls (lv_sub hl [2, 3, 4, 1, 0] rfl)

set_option maxRecDepth 100000 in
theorem inX0_roomLeft_0 : ∀ w ∈ wsX00, w ∈ wsX0_roomLeft := by decide +kernel

set_option maxHeartbeats 4000000 in
set_option maxRecDepth 100000 in
theorem mX0_roomLeft (l : Launch) (D : va_G) (cy : ClassId) (h : Nat) (a : Nat → Nat) (R : Nat → Nat → Int32) (nd n dr : Nat) (fl : Int32)  (hnd : nd < 1000000) (hn : n < 1000000) (hdr : dr < 1000000) : RdI l yX0_roomLeft wsX0_roomLeft 4 89 [.ref h] D cy (cC h a cy R nd n dr fl) (roomS R n nd) := by
  refine Met.ofW (cc := cX0_roomLeft) (maxL := 3) (ret := (some .int)) (by decide) rfl ?_
  intro p e s m args below meth c s₁ B hml hv
  obtain ⟨rfl, hP, hK⟩ := hv
  have hx := B.exec
  have hb := B.bytes
  have hr := B.returns
  have hts := atoms_spec (ws := wsX0_roomLeft) B.pre
  have hown : s.vm.findClass RX0 = some m.cls := findClass_of_methodNamed B.named
  have hlocks := B.notSynchronized
  have hl := lv_entry ([.ref h]) (n := 3) (Nat.le_of_ble_eq_true rfl)
  rw [lg_entry_eq]
  generalize (lg_sl ([.ref h]) ++ List.replicate (3 - (lg_sl ([.ref h])).length) Slot.unset).toArray = ls at hl ⊢
  have hl : lv_has ls 3 [(0, .ref h)] := hl
  refine lv_bipush (v := 120) hx hb dX0_roomLeft_0 (by decide) ?_
  refine lv_aload_n hx hb dX0_roomLeft_2 rfl (lv_at hl 0 rfl) ?_
  refine va_get (D := D) (ci := 0) (v := .int (nI n)) (C := RX0) (T := TX0) (N := 15) hx hb hts inX0_roomLeft_0 hown hK.1 hP 0 rfl rfl 12 (by decide) (hts (.fieldLink RX0 112 "ChalkSlate" "lines" "I") (by decide +kernel)) (fun _ h9 => h9) rfl dX0_roomLeft_3 ?_
  refine lv_isub hx hb dX0_roomLeft_6 ?_
  refine lv_istore_n (lv' := [(1, .int (120 - (nI n))), (0, .ref h)]) hx hb dX0_roomLeft_7 rfl hl (by decide) rfl (fun ls hl => ?_)
  refine lv_iconst (v := 0) hx hb dX0_roomLeft_8 (by decide) ?_
  refine lv_istore_n (lv' := [(2, .int 0), (1, .int (120 - (nI n))), (0, .ref h)]) hx hb dX0_roomLeft_9 rfl hl (by decide) rfl (fun ls hl => ?_)
  have loop : ∀ (k i : Nat) (acc : Int32), i + k = nd → acc = roomS R n i → ∀ ls : Array Slot, lv_has ls 3 [(0, .ref h), (1, .int acc), (2, .int (nI i))] → W p l e (headSpec wsX0_roomLeft { frames := 4, cells := 0, slots := 0, locals := 89 }).room s m ([.ref h] : List Value).toArray below meth c s.heap [] 0 0 (MQ below (vp_Si (fun r => r = roomS R n nd)) ([.ref h] : List Value).toArray s 0 0 (fun _ => False)) (F0 m 10 ls []) := by
    intro k
    induction k with
    | zero =>
      intro i acc hik hacc ls hl
      have hin : i = nd := by omega
      refine lv_iload_n hx hb dX0_roomLeft_10 rfl (lv_at hl 2 rfl) ?_
      refine lv_aload_n hx hb dX0_roomLeft_11 rfl (lv_at hl 0 rfl) ?_
      refine va_get (D := D) (ci := 0) (v := .int (nI nd)) (C := RX0) (T := TX0) (N := 15) hx hb hts inX0_roomLeft_0 hown hK.1 hP 0 rfl rfl 4 (by decide) (hts (.fieldLink RX0 49 "ChalkSlate" "dishes" "I") (by decide +kernel)) (fun _ h9 => h9) rfl dX0_roomLeft_12 ?_
      refine lv_icmp_ge (tgt := 46) hx hb dX0_roomLeft_15 (by decide) (fun c1 => ?_) (fun c1 => absurd (nI_le (by omega) (by omega)) c1)
      refine lv_iload_n hx hb dX0_roomLeft_46 rfl (lv_at hl 1 rfl) ?_
      exact W.iret (v := acc) hx hb hr (fun t ht hW => ⟨acc, rfl, by rw [hacc, hin], ht⟩) (fun q hq => absurd hq List.not_mem_nil) dX0_roomLeft_47
    | succ k ih =>
      intro i acc hik hacc ls hl
      refine lv_iload_n hx hb dX0_roomLeft_10 rfl (lv_at hl 2 rfl) ?_
      refine lv_aload_n hx hb dX0_roomLeft_11 rfl (lv_at hl 0 rfl) ?_
      refine va_get (D := D) (ci := 0) (v := .int (nI nd)) (C := RX0) (T := TX0) (N := 15) hx hb hts inX0_roomLeft_0 hown hK.1 hP 0 rfl rfl 4 (by decide) (hts (.fieldLink RX0 49 "ChalkSlate" "dishes" "I") (by decide +kernel)) (fun _ h9 => h9) rfl dX0_roomLeft_12 ?_
      refine lv_icmp_ge (tgt := 46) hx hb dX0_roomLeft_15 (by decide) (fun c2 => absurd c2 (nI_ge (by omega) (by omega))) (fun c2 => ?_)
      refine lv_aload_n hx hb dX0_roomLeft_18 rfl (lv_at hl 0 rfl) ?_
      refine lv_iload_n hx hb dX0_roomLeft_19 rfl (lv_at hl 2 rfl) ?_
      refine rd_V (q := (RX0, TX0, 15)) (ci := 0) (q0 := 0) (As := [.int (nI i)]) (rest := []) ⟨hx, hb, hml, hown, hts⟩ (mX0_isOpen l D cy h a R nd n dr fl (nI i) (by omega) (by omega) (by omega) ) (cwV 1 hts gX0_roomLeft_X0_isOpen rfl rfl rfl (by decide +kernel) ⟨Nat.le_of_ble_eq_true rfl, Nat.le_of_ble_eq_true rfl⟩) hP hK rfl rfl rfl hl.1 rfl (Nat.le_of_ble_eq_true rfl) dX0_roomLeft_20 (Nat.zero_le _) (Nat.zero_le _) ?_
      refine lv_if_eq (tgt := 40) hx hb dX0_roomLeft_23 (by decide) (fun c3 => ?_) (fun c3 => ?_)
      · refine lv_iinc (v := nI (i + 1)) (lv' := [(2, .int (nI (i + 1))), (0, .ref h), (1, .int acc)]) hx hb dX0_roomLeft_40 hl (k := 2) rfl ((nI_succ i).symm) (by decide) rfl (fun ls hl => ?_)
        refine lv_goto (tgt := 10) hx hb dX0_roomLeft_43 (by decide) ?_
        exact ih (i + 1) acc (by omega) (by rw [roomS, if_pos c3, ← hacc]) ls (lv_sub hl [1, 2, 0] rfl)
      · refine lv_iload_n hx hb dX0_roomLeft_26 rfl (lv_at hl 1 rfl) ?_
        refine lv_iconst (v := 1) hx hb dX0_roomLeft_27 (by decide) ?_
        refine lv_aload_n hx hb dX0_roomLeft_28 rfl (lv_at hl 0 rfl) ?_
        refine lv_iload_n hx hb dX0_roomLeft_29 rfl (lv_at hl 2 rfl) ?_
        refine lv_aload_n hx hb dX0_roomLeft_30 rfl (lv_at hl 0 rfl) ?_
        refine va_get (D := D) (ci := 0) (v := .int (nI n)) (C := RX0) (T := TX0) (N := 15) hx hb hts inX0_roomLeft_0 hown hK.1 hP 0 rfl rfl 12 (by decide) (hts (.fieldLink RX0 112 "ChalkSlate" "lines" "I") (by decide +kernel)) (fun _ h9 => h9) rfl dX0_roomLeft_31 ?_
        refine rd_V (q := (RX0, TX0, 15)) (ci := 0) (q0 := 0) (As := [.int (nI i), .int (nI n)]) (rest := [.int 1, .int acc]) ⟨hx, hb, hml, hown, hts⟩ (mX0_changesNotTakenBack l D cy h a R nd n dr fl (nI i) n (by omega) (by omega) (by omega) (by omega)) (cwV 2 hts gX0_roomLeft_X0_changesNotTakenBack rfl rfl rfl (by decide +kernel) ⟨Nat.le_of_ble_eq_true rfl, Nat.le_of_ble_eq_true rfl⟩) hP hK rfl rfl rfl hl.1 rfl (Nat.le_of_ble_eq_true rfl) dX0_roomLeft_34 (Nat.zero_le _) (Nat.zero_le _) ?_
        refine lv_iadd hx hb dX0_roomLeft_37 ?_
        refine lv_isub hx hb dX0_roomLeft_38 ?_
        refine lv_istore_n (lv' := [(1, .int (acc - (1 + (changesS R (nI i) (nI n) n)))), (0, .ref h), (2, .int (nI i))]) hx hb dX0_roomLeft_39 rfl hl (by decide) rfl (fun ls hl => ?_)
        refine lv_iinc (v := nI (i + 1)) (lv' := [(2, .int (nI (i + 1))), (1, .int (acc - (1 + (changesS R (nI i) (nI n) n)))), (0, .ref h)]) hx hb dX0_roomLeft_40 hl (k := 2) rfl ((nI_succ i).symm) (by decide) rfl (fun ls hl => ?_)
        refine lv_goto (tgt := 10) hx hb dX0_roomLeft_43 (by decide) ?_
        exact ih (i + 1) (acc - (1 + (changesS R (nI i) (nI n) n))) (by omega) (by rw [roomS, if_neg c3, ← hacc]) ls (lv_sub hl [2, 1, 0] rfl)
  exact loop nd 0 (120 - (nI n)) (Nat.zero_add _) (rfl) ls (lv_sub hl [2, 1, 0] rfl)

set_option maxRecDepth 100000 in
theorem inX0_isToDoAnew_0 : ∀ w ∈ wsX00, w ∈ wsX0_isToDoAnew := by decide +kernel

set_option maxHeartbeats 4000000 in
set_option maxRecDepth 100000 in
theorem mX0_isToDoAnew (l : Launch) (D : va_G) (cy : ClassId) (h : Nat) (a : Nat → Nat) (R : Nat → Nat → Int32) (nd n dr : Nat) (fl : Int32) (x : Int32) (hnd : nd < 1000000) (hn : n < 1000000) (hdr : dr < 1000000) : RdI l yX0_isToDoAnew wsX0_isToDoAnew 2 42 [.ref h, .int x] D cy (cC h a cy R nd n dr fl) (isToDoS R x) := by
  refine Met.ofW (cc := cX0_isToDoAnew) (maxL := 3) (ret := (some .boolean)) (by decide) rfl ?_
  intro p e s m args below meth c s₁ B hml hv
  obtain ⟨rfl, hP, hK⟩ := hv
  have hx := B.exec
  have hb := B.bytes
  have hr := B.returns
  have hts := atoms_spec (ws := wsX0_isToDoAnew) B.pre
  have hown : s.vm.findClass RX0 = some m.cls := findClass_of_methodNamed B.named
  have hlocks := B.notSynchronized
  have hl := lv_entry ([.ref h, .int x]) (n := 3) (Nat.le_of_ble_eq_true rfl)
  rw [lg_entry_eq]
  generalize (lg_sl ([.ref h, .int x]) ++ List.replicate (3 - (lg_sl ([.ref h, .int x])).length) Slot.unset).toArray = ls at hl ⊢
  have hl : lv_has ls 3 [(0, .ref h), (1, .int x)] := hl
  refine lv_aload_n hx hb dX0_isToDoAnew_0 rfl (lv_at hl 0 rfl) ?_
  refine va_get (D := D) (ci := 0) (v := .ref (a 6)) (C := RX0) (T := TX0) (N := 15) hx hb hts inX0_isToDoAnew_0 hown hK.1 hP 0 rfl rfl 7 (by decide) (hts (.fieldLink RX0 28 "ChalkSlate" "linePot" "[I") (by decide +kernel)) (fun _ h9 => h9) rfl dX0_isToDoAnew_1 ?_
  refine lv_iload_n hx hb dX0_isToDoAnew_4 rfl (lv_at hl 1 rfl) ?_
  refine rd_S (As := [.ref (a 6), .int x]) (rest := []) ⟨hx, hb, hml, hown, hts⟩ (mX0_at l D cy (a 6) 120 (R 6) x (Nat.le_of_ble_eq_true rfl)) (va_cwS 2 hts gX0_isToDoAnew_X0_at rfl rfl rfl (by decide +kernel) ⟨Nat.le_of_ble_eq_true rfl, Nat.le_of_ble_eq_true rfl⟩) (hP.sub (ws' := [(a 6, .inl (cy, 120, .inl (R 6)))]) [7] rfl) hK rfl hl.1 rfl (Nat.le_of_ble_eq_true rfl) dX0_isToDoAnew_5 (Nat.zero_le _) (Nat.zero_le _) ?_
  refine lv_istore_n (lv' := [(2, .int (atS 120 (R 6) x)), (0, .ref h), (1, .int x)]) hx hb dX0_isToDoAnew_8 rfl hl (by decide) rfl (fun ls hl => ?_)
  refine lv_iload_n hx hb dX0_isToDoAnew_9 rfl (lv_at hl 0 rfl) ?_
  refine lv_iconst (v := (-1)) hx hb dX0_isToDoAnew_10 (by decide) ?_
  refine lv_icmp_eq (tgt := 30) hx hb dX0_isToDoAnew_11 (by decide) (fun c1 => ?_) (fun c1 => ?_)
  · refine lv_iconst (v := 0) hx hb dX0_isToDoAnew_30 (by decide) ?_
    exact W.zret (v := 0) hx hb hr rfl (fun t ht hW => ⟨0, rfl, by rw [isToDoS, if_pos c1], ht⟩) (fun q hq => absurd hq List.not_mem_nil) dX0_isToDoAnew_31
  · refine lv_iload_n hx hb dX0_isToDoAnew_14 rfl (lv_at hl 2 rfl) ?_
    refine lv_aload_n hx hb dX0_isToDoAnew_15 rfl (lv_at hl 1 rfl) ?_
    refine va_get (D := D) (ci := 0) (v := .ref (a 2)) (C := RX0) (T := TX0) (N := 15) hx hb hts inX0_isToDoAnew_0 hown hK.1 hP 0 rfl rfl 2 (by decide) (hts (.fieldLink RX0 16 "ChalkSlate" "stamp" "[I") (by decide +kernel)) (fun _ h9 => h9) rfl dX0_isToDoAnew_16 ?_
    refine lv_iload_n hx hb dX0_isToDoAnew_19 rfl (lv_at hl 0 rfl) ?_
    refine rd_S (As := [.ref (a 2), .int (atS 120 (R 6) x)]) (rest := [.int x]) ⟨hx, hb, hml, hown, hts⟩ (mX0_at l D cy (a 2) 8 (R 2) (atS 120 (R 6) x) (Nat.le_of_ble_eq_true rfl)) (va_cwS 2 hts gX0_isToDoAnew_X0_at rfl rfl rfl (by decide +kernel) ⟨Nat.le_of_ble_eq_true rfl, Nat.le_of_ble_eq_true rfl⟩) (hP.sub (ws' := [(a 2, .inl (cy, 8, .inl (R 2)))]) [3] rfl) hK rfl hl.1 rfl (Nat.le_of_ble_eq_true rfl) dX0_isToDoAnew_20 (Nat.zero_le _) (Nat.zero_le _) ?_
    refine lv_icmp_le (tgt := 30) hx hb dX0_isToDoAnew_23 (by decide) (fun c2 => ?_) (fun c2 => ?_)
    · refine lv_iconst (v := 0) hx hb dX0_isToDoAnew_30 (by decide) ?_
      exact W.zret (v := 0) hx hb hr rfl (fun t ht hW => ⟨0, rfl, by rw [isToDoS, if_neg c1, if_pos c2], ht⟩) (fun q hq => absurd hq List.not_mem_nil) dX0_isToDoAnew_31
    · refine lv_iconst (v := 1) hx hb dX0_isToDoAnew_26 (by decide) ?_
      refine lv_goto (tgt := 31) hx hb dX0_isToDoAnew_27 (by decide) ?_
      exact W.zret (v := 1) hx hb hr rfl (fun t ht hW => ⟨1, rfl, by rw [isToDoS, if_neg c1, if_neg c2], ht⟩) (fun q hq => absurd hq List.not_mem_nil) dX0_isToDoAnew_31

set_option maxRecDepth 100000 in
theorem inX0_linesToDoAnew_0 : ∀ w ∈ wsX00, w ∈ wsX0_linesToDoAnew := by decide +kernel

set_option maxHeartbeats 4000000 in
set_option maxRecDepth 100000 in
theorem mX0_linesToDoAnew (l : Launch) (D : va_G) (cy : ClassId) (h : Nat) (a : Nat → Nat) (R : Nat → Nat → Int32) (nd n dr : Nat) (fl : Int32)  (hnd : nd < 1000000) (hn : n < 1000000) (hdr : dr < 1000000) : RdI l yX0_linesToDoAnew wsX0_linesToDoAnew 3 64 [.ref h] D cy (cC h a cy R nd n dr fl) (toDoS R dr) := by
  refine Met.ofW (cc := cX0_linesToDoAnew) (maxL := 3) (ret := (some .int)) (by decide) rfl ?_
  intro p e s m args below meth c s₁ B hml hv
  obtain ⟨rfl, hP, hK⟩ := hv
  have hx := B.exec
  have hb := B.bytes
  have hr := B.returns
  have hts := atoms_spec (ws := wsX0_linesToDoAnew) B.pre
  have hown : s.vm.findClass RX0 = some m.cls := findClass_of_methodNamed B.named
  have hlocks := B.notSynchronized
  have hl := lv_entry ([.ref h]) (n := 3) (Nat.le_of_ble_eq_true rfl)
  rw [lg_entry_eq]
  generalize (lg_sl ([.ref h]) ++ List.replicate (3 - (lg_sl ([.ref h])).length) Slot.unset).toArray = ls at hl ⊢
  have hl : lv_has ls 3 [(0, .ref h)] := hl
  refine lv_iconst (v := 0) hx hb dX0_linesToDoAnew_0 (by decide) ?_
  refine lv_istore_n (lv' := [(1, .int 0), (0, .ref h)]) hx hb dX0_linesToDoAnew_1 rfl hl (by decide) rfl (fun ls hl => ?_)
  refine lv_iconst (v := 0) hx hb dX0_linesToDoAnew_2 (by decide) ?_
  refine lv_istore_n (lv' := [(2, .int 0), (1, .int 0), (0, .ref h)]) hx hb dX0_linesToDoAnew_3 rfl hl (by decide) rfl (fun ls hl => ?_)
  have loop : ∀ (k i : Nat) (acc : Int32), i + k = dr → acc = toDoS R i → ∀ ls : Array Slot, lv_has ls 3 [(0, .ref h), (1, .int acc), (2, .int (nI i))] → W p l e (headSpec wsX0_linesToDoAnew { frames := 3, cells := 0, slots := 0, locals := 64 }).room s m ([.ref h] : List Value).toArray below meth c s.heap [] 0 0 (MQ below (vp_Si (fun r => r = toDoS R dr)) ([.ref h] : List Value).toArray s 0 0 (fun _ => False)) (F0 m 4 ls []) := by
    intro k
    induction k with
    | zero =>
      intro i acc hik hacc ls hl
      have hin : i = dr := by omega
      refine lv_iload_n hx hb dX0_linesToDoAnew_4 rfl (lv_at hl 2 rfl) ?_
      refine lv_aload_n hx hb dX0_linesToDoAnew_5 rfl (lv_at hl 0 rfl) ?_
      refine va_get (D := D) (ci := 0) (v := .int (nI dr)) (C := RX0) (T := TX0) (N := 15) hx hb hts inX0_linesToDoAnew_0 hown hK.1 hP 0 rfl rfl 13 (by decide) (hts (.fieldLink RX0 166 "ChalkSlate" "dryLines" "I") (by decide +kernel)) (fun _ h9 => h9) rfl dX0_linesToDoAnew_6 ?_
      refine lv_icmp_ge (tgt := 29) hx hb dX0_linesToDoAnew_9 (by decide) (fun c1 => ?_) (fun c1 => absurd (nI_le (by omega) (by omega)) c1)
      refine lv_iload_n hx hb dX0_linesToDoAnew_29 rfl (lv_at hl 1 rfl) ?_
      exact W.iret (v := acc) hx hb hr (fun t ht hW => ⟨acc, rfl, by rw [hacc, hin], ht⟩) (fun q hq => absurd hq List.not_mem_nil) dX0_linesToDoAnew_30
    | succ k ih =>
      intro i acc hik hacc ls hl
      refine lv_iload_n hx hb dX0_linesToDoAnew_4 rfl (lv_at hl 2 rfl) ?_
      refine lv_aload_n hx hb dX0_linesToDoAnew_5 rfl (lv_at hl 0 rfl) ?_
      refine va_get (D := D) (ci := 0) (v := .int (nI dr)) (C := RX0) (T := TX0) (N := 15) hx hb hts inX0_linesToDoAnew_0 hown hK.1 hP 0 rfl rfl 13 (by decide) (hts (.fieldLink RX0 166 "ChalkSlate" "dryLines" "I") (by decide +kernel)) (fun _ h9 => h9) rfl dX0_linesToDoAnew_6 ?_
      refine lv_icmp_ge (tgt := 29) hx hb dX0_linesToDoAnew_9 (by decide) (fun c2 => absurd c2 (nI_ge (by omega) (by omega))) (fun c2 => ?_)
      refine lv_aload_n hx hb dX0_linesToDoAnew_12 rfl (lv_at hl 0 rfl) ?_
      refine lv_iload_n hx hb dX0_linesToDoAnew_13 rfl (lv_at hl 2 rfl) ?_
      refine rd_V (q := (RX0, TX0, 15)) (ci := 0) (q0 := 0) (As := [.int (nI i)]) (rest := []) ⟨hx, hb, hml, hown, hts⟩ (mX0_isToDoAnew l D cy h a R nd n dr fl (nI i) (by omega) (by omega) (by omega) ) (cwV 1 hts gX0_linesToDoAnew_X0_isToDoAnew rfl rfl rfl (by decide +kernel) ⟨Nat.le_of_ble_eq_true rfl, Nat.le_of_ble_eq_true rfl⟩) hP hK rfl rfl rfl hl.1 rfl (Nat.le_of_ble_eq_true rfl) dX0_linesToDoAnew_14 (Nat.zero_le _) (Nat.zero_le _) ?_
      refine lv_if_eq (tgt := 23) hx hb dX0_linesToDoAnew_17 (by decide) (fun c3 => ?_) (fun c3 => ?_)
      · refine lv_iinc (v := nI (i + 1)) (lv' := [(2, .int (nI (i + 1))), (0, .ref h), (1, .int acc)]) hx hb dX0_linesToDoAnew_23 hl (k := 2) rfl ((nI_succ i).symm) (by decide) rfl (fun ls hl => ?_)
        refine lv_goto (tgt := 4) hx hb dX0_linesToDoAnew_26 (by decide) ?_
        exact ih (i + 1) acc (by omega) (by rw [toDoS, if_pos c3, ← hacc]) ls (lv_sub hl [1, 2, 0] rfl)
      · refine lv_iinc (v := acc + 1) (lv' := [(1, .int (acc + 1)), (0, .ref h), (2, .int (nI i))]) hx hb dX0_linesToDoAnew_20 hl (k := 1) rfl (rfl) (by decide) rfl (fun ls hl => ?_)
        refine lv_iinc (v := nI (i + 1)) (lv' := [(2, .int (nI (i + 1))), (1, .int (acc + 1)), (0, .ref h)]) hx hb dX0_linesToDoAnew_23 hl (k := 2) rfl ((nI_succ i).symm) (by decide) rfl (fun ls hl => ?_)
        refine lv_goto (tgt := 4) hx hb dX0_linesToDoAnew_26 (by decide) ?_
        exact ih (i + 1) (acc + 1) (by omega) (by rw [toDoS, if_neg c3, ← hacc]) ls (lv_sub hl [2, 1, 0] rfl)
  exact loop dr 0 0 (Nat.zero_add _) (rfl) ls (lv_sub hl [2, 1, 0] rfl)

set_option maxRecDepth 100000 in
theorem inX0_firstLineToDoAnew_0 : ∀ w ∈ wsX00, w ∈ wsX0_firstLineToDoAnew := by decide +kernel

set_option maxHeartbeats 4000000 in
set_option maxRecDepth 100000 in
theorem mX0_firstLineToDoAnew (l : Launch) (D : va_G) (cy : ClassId) (h : Nat) (a : Nat → Nat) (R : Nat → Nat → Int32) (nd n dr : Nat) (fl : Int32)  (hnd : nd < 1000000) (hn : n < 1000000) (hdr : dr < 1000000) : RdI l yX0_firstLineToDoAnew wsX0_firstLineToDoAnew 3 64 [.ref h] D cy (cC h a cy R nd n dr fl) (firstToDoS R dr 0) := by
  refine Met.ofW (cc := cX0_firstLineToDoAnew) (maxL := 2) (ret := (some .int)) (by decide) rfl ?_
  intro p e s m args below meth c s₁ B hml hv
  obtain ⟨rfl, hP, hK⟩ := hv
  have hx := B.exec
  have hb := B.bytes
  have hr := B.returns
  have hts := atoms_spec (ws := wsX0_firstLineToDoAnew) B.pre
  have hown : s.vm.findClass RX0 = some m.cls := findClass_of_methodNamed B.named
  have hlocks := B.notSynchronized
  have hl := lv_entry ([.ref h]) (n := 2) (Nat.le_of_ble_eq_true rfl)
  rw [lg_entry_eq]
  generalize (lg_sl ([.ref h]) ++ List.replicate (2 - (lg_sl ([.ref h])).length) Slot.unset).toArray = ls at hl ⊢
  have hl : lv_has ls 2 [(0, .ref h)] := hl
  refine lv_iconst (v := 0) hx hb dX0_firstLineToDoAnew_0 (by decide) ?_
  refine lv_istore_n (lv' := [(1, .int 0), (0, .ref h)]) hx hb dX0_firstLineToDoAnew_1 rfl hl (by decide) rfl (fun ls hl => ?_)
  have loop : ∀ (k i : Nat), i + k = dr → firstToDoS R dr 0 = firstToDoS R k i → ∀ ls : Array Slot, lv_has ls 2 [(0, .ref h), (1, .int (nI i))] → W p l e (headSpec wsX0_firstLineToDoAnew { frames := 3, cells := 0, slots := 0, locals := 64 }).room s m ([.ref h] : List Value).toArray below meth c s.heap [] 0 0 (MQ below (vp_Si (fun r => r = firstToDoS R dr 0)) ([.ref h] : List Value).toArray s 0 0 (fun _ => False)) (F0 m 2 ls []) := by
    intro k
    induction k with
    | zero =>
      intro i hik hrel ls hl
      have hin : i = dr := by omega
      refine lv_iload_n hx hb dX0_firstLineToDoAnew_2 rfl (lv_at hl 1 rfl) ?_
      refine lv_aload_n hx hb dX0_firstLineToDoAnew_3 rfl (lv_at hl 0 rfl) ?_
      refine va_get (D := D) (ci := 0) (v := .int (nI dr)) (C := RX0) (T := TX0) (N := 15) hx hb hts inX0_firstLineToDoAnew_0 hown hK.1 hP 0 rfl rfl 13 (by decide) (hts (.fieldLink RX0 166 "ChalkSlate" "dryLines" "I") (by decide +kernel)) (fun _ h9 => h9) rfl dX0_firstLineToDoAnew_4 ?_
      refine lv_icmp_ge (tgt := 26) hx hb dX0_firstLineToDoAnew_7 (by decide) (fun c1 => ?_) (fun c1 => absurd (nI_le (by omega) (by omega)) c1)
      refine lv_iconst (v := (-1)) hx hb dX0_firstLineToDoAnew_26 (by decide) ?_
      exact W.iret (v := (-1)) hx hb hr (fun t ht hW => ⟨(-1), rfl, by rw [hrel, firstToDoS], ht⟩) (fun q hq => absurd hq List.not_mem_nil) dX0_firstLineToDoAnew_27
    | succ k ih =>
      intro i hik hrel ls hl
      refine lv_iload_n hx hb dX0_firstLineToDoAnew_2 rfl (lv_at hl 1 rfl) ?_
      refine lv_aload_n hx hb dX0_firstLineToDoAnew_3 rfl (lv_at hl 0 rfl) ?_
      refine va_get (D := D) (ci := 0) (v := .int (nI dr)) (C := RX0) (T := TX0) (N := 15) hx hb hts inX0_firstLineToDoAnew_0 hown hK.1 hP 0 rfl rfl 13 (by decide) (hts (.fieldLink RX0 166 "ChalkSlate" "dryLines" "I") (by decide +kernel)) (fun _ h9 => h9) rfl dX0_firstLineToDoAnew_4 ?_
      refine lv_icmp_ge (tgt := 26) hx hb dX0_firstLineToDoAnew_7 (by decide) (fun c2 => absurd c2 (nI_ge (by omega) (by omega))) (fun c2 => ?_)
      refine lv_aload_n hx hb dX0_firstLineToDoAnew_10 rfl (lv_at hl 0 rfl) ?_
      refine lv_iload_n hx hb dX0_firstLineToDoAnew_11 rfl (lv_at hl 1 rfl) ?_
      refine rd_V (q := (RX0, TX0, 15)) (ci := 0) (q0 := 0) (As := [.int (nI i)]) (rest := []) ⟨hx, hb, hml, hown, hts⟩ (mX0_isToDoAnew l D cy h a R nd n dr fl (nI i) (by omega) (by omega) (by omega) ) (cwV 1 hts gX0_firstLineToDoAnew_X0_isToDoAnew rfl rfl rfl (by decide +kernel) ⟨Nat.le_of_ble_eq_true rfl, Nat.le_of_ble_eq_true rfl⟩) hP hK rfl rfl rfl hl.1 rfl (Nat.le_of_ble_eq_true rfl) dX0_firstLineToDoAnew_12 (Nat.zero_le _) (Nat.zero_le _) ?_
      refine lv_if_eq (tgt := 20) hx hb dX0_firstLineToDoAnew_15 (by decide) (fun c3 => ?_) (fun c3 => ?_)
      · refine lv_iinc (v := nI (i + 1)) (lv' := [(1, .int (nI (i + 1))), (0, .ref h)]) hx hb dX0_firstLineToDoAnew_20 hl (k := 1) rfl ((nI_succ i).symm) (by decide) rfl (fun ls hl => ?_)
        refine lv_goto (tgt := 2) hx hb dX0_firstLineToDoAnew_23 (by decide) ?_
        exact ih (i + 1) (by omega) (by rw [hrel, firstToDoS, if_pos c3]) ls (lv_sub hl [1, 0] rfl)
      · refine lv_iload_n hx hb dX0_firstLineToDoAnew_18 rfl (lv_at hl 1 rfl) ?_
        exact W.iret (v := nI i) hx hb hr (fun t ht hW => ⟨(nI i), rfl, by rw [hrel, firstToDoS, if_neg c3], ht⟩) (fun q hq => absurd hq List.not_mem_nil) dX0_firstLineToDoAnew_19
  exact loop dr 0 (Nat.zero_add _) (rfl) ls (lv_sub hl [1, 0] rfl)

set_option maxRecDepth 100000 in
theorem inX0_linesToTakeBack_0 : ∀ w ∈ wsX00, w ∈ wsX0_linesToTakeBack := by decide +kernel

set_option maxHeartbeats 4000000 in
set_option maxRecDepth 100000 in
theorem mX0_linesToTakeBack (l : Launch) (D : va_G) (cy : ClassId) (h : Nat) (a : Nat → Nat) (R : Nat → Nat → Int32) (nd n dr : Nat) (fl : Int32)  (hnd : nd < 1000000) (hn : n < 1000000) (hdr : dr < 1000000) : RdI l yX0_linesToTakeBack wsX0_linesToTakeBack 4 89 [.ref h] D cy (cC h a cy R nd n dr fl) (toTakeS R dr nd) := by
  refine Met.ofW (cc := cX0_linesToTakeBack) (maxL := 3) (ret := (some .int)) (by decide) rfl ?_
  intro p e s m args below meth c s₁ B hml hv
  obtain ⟨rfl, hP, hK⟩ := hv
  have hx := B.exec
  have hb := B.bytes
  have hr := B.returns
  have hts := atoms_spec (ws := wsX0_linesToTakeBack) B.pre
  have hown : s.vm.findClass RX0 = some m.cls := findClass_of_methodNamed B.named
  have hlocks := B.notSynchronized
  have hl := lv_entry ([.ref h]) (n := 3) (Nat.le_of_ble_eq_true rfl)
  rw [lg_entry_eq]
  generalize (lg_sl ([.ref h]) ++ List.replicate (3 - (lg_sl ([.ref h])).length) Slot.unset).toArray = ls at hl ⊢
  have hl : lv_has ls 3 [(0, .ref h)] := hl
  refine lv_iconst (v := 0) hx hb dX0_linesToTakeBack_0 (by decide) ?_
  refine lv_istore_n (lv' := [(1, .int 0), (0, .ref h)]) hx hb dX0_linesToTakeBack_1 rfl hl (by decide) rfl (fun ls hl => ?_)
  refine lv_iconst (v := 0) hx hb dX0_linesToTakeBack_2 (by decide) ?_
  refine lv_istore_n (lv' := [(2, .int 0), (1, .int 0), (0, .ref h)]) hx hb dX0_linesToTakeBack_3 rfl hl (by decide) rfl (fun ls hl => ?_)
  have loop : ∀ (k i : Nat) (acc : Int32), i + k = nd → acc = toTakeS R dr i → ∀ ls : Array Slot, lv_has ls 3 [(0, .ref h), (1, .int acc), (2, .int (nI i))] → W p l e (headSpec wsX0_linesToTakeBack { frames := 4, cells := 0, slots := 0, locals := 89 }).room s m ([.ref h] : List Value).toArray below meth c s.heap [] 0 0 (MQ below (vp_Si (fun r => r = toTakeS R dr nd)) ([.ref h] : List Value).toArray s 0 0 (fun _ => False)) (F0 m 4 ls []) := by
    intro k
    induction k with
    | zero =>
      intro i acc hik hacc ls hl
      have hin : i = nd := by omega
      refine lv_iload_n hx hb dX0_linesToTakeBack_4 rfl (lv_at hl 2 rfl) ?_
      refine lv_aload_n hx hb dX0_linesToTakeBack_5 rfl (lv_at hl 0 rfl) ?_
      refine va_get (D := D) (ci := 0) (v := .int (nI nd)) (C := RX0) (T := TX0) (N := 15) hx hb hts inX0_linesToTakeBack_0 hown hK.1 hP 0 rfl rfl 4 (by decide) (hts (.fieldLink RX0 49 "ChalkSlate" "dishes" "I") (by decide +kernel)) (fun _ h9 => h9) rfl dX0_linesToTakeBack_6 ?_
      refine lv_icmp_ge (tgt := 42) hx hb dX0_linesToTakeBack_9 (by decide) (fun c1 => ?_) (fun c1 => absurd (nI_le (by omega) (by omega)) c1)
      refine lv_iload_n hx hb dX0_linesToTakeBack_42 rfl (lv_at hl 1 rfl) ?_
      exact W.iret (v := acc) hx hb hr (fun t ht hW => ⟨acc, rfl, by rw [hacc, hin], ht⟩) (fun q hq => absurd hq List.not_mem_nil) dX0_linesToTakeBack_43
    | succ k ih =>
      intro i acc hik hacc ls hl
      refine lv_iload_n hx hb dX0_linesToTakeBack_4 rfl (lv_at hl 2 rfl) ?_
      refine lv_aload_n hx hb dX0_linesToTakeBack_5 rfl (lv_at hl 0 rfl) ?_
      refine va_get (D := D) (ci := 0) (v := .int (nI nd)) (C := RX0) (T := TX0) (N := 15) hx hb hts inX0_linesToTakeBack_0 hown hK.1 hP 0 rfl rfl 4 (by decide) (hts (.fieldLink RX0 49 "ChalkSlate" "dishes" "I") (by decide +kernel)) (fun _ h9 => h9) rfl dX0_linesToTakeBack_6 ?_
      refine lv_icmp_ge (tgt := 42) hx hb dX0_linesToTakeBack_9 (by decide) (fun c2 => absurd c2 (nI_ge (by omega) (by omega))) (fun c2 => ?_)
      refine lv_aload_n hx hb dX0_linesToTakeBack_12 rfl (lv_at hl 0 rfl) ?_
      refine lv_iload_n hx hb dX0_linesToTakeBack_13 rfl (lv_at hl 2 rfl) ?_
      refine lv_aload_n hx hb dX0_linesToTakeBack_14 rfl (lv_at hl 0 rfl) ?_
      refine va_get (D := D) (ci := 0) (v := .int (nI dr)) (C := RX0) (T := TX0) (N := 15) hx hb hts inX0_linesToTakeBack_0 hown hK.1 hP 0 rfl rfl 13 (by decide) (hts (.fieldLink RX0 166 "ChalkSlate" "dryLines" "I") (by decide +kernel)) (fun _ h9 => h9) rfl dX0_linesToTakeBack_15 ?_
      refine rd_V (q := (RX0, TX0, 15)) (ci := 0) (q0 := 0) (As := [.int (nI i), .int (nI dr)]) (rest := []) ⟨hx, hb, hml, hown, hts⟩ (mX0_stateByLines l D cy h a R nd n dr fl (nI i) dr (by omega) (by omega) (by omega) (by omega)) (cwV 2 hts gX0_linesToTakeBack_X0_stateByLines rfl rfl rfl (by decide +kernel) ⟨Nat.le_of_ble_eq_true rfl, Nat.le_of_ble_eq_true rfl⟩) hP hK rfl rfl rfl hl.1 rfl (Nat.le_of_ble_eq_true rfl) dX0_linesToTakeBack_18 (Nat.zero_le _) (Nat.zero_le _) ?_
      refine lv_if_ne (tgt := 36) hx hb dX0_linesToTakeBack_21 (by decide) (fun c3 => ?_) (fun c3 => ?_)
      · refine lv_iinc (v := nI (i + 1)) (lv' := [(2, .int (nI (i + 1))), (0, .ref h), (1, .int acc)]) hx hb dX0_linesToTakeBack_36 hl (k := 2) rfl ((nI_succ i).symm) (by decide) rfl (fun ls hl => ?_)
        refine lv_goto (tgt := 4) hx hb dX0_linesToTakeBack_39 (by decide) ?_
        exact ih (i + 1) acc (by omega) (by rw [toTakeS, if_neg c3, ← hacc]) ls (lv_sub hl [1, 2, 0] rfl)
      · refine lv_iload_n hx hb dX0_linesToTakeBack_24 rfl (lv_at hl 1 rfl) ?_
        refine lv_aload_n hx hb dX0_linesToTakeBack_25 rfl (lv_at hl 0 rfl) ?_
        refine lv_iload_n hx hb dX0_linesToTakeBack_26 rfl (lv_at hl 2 rfl) ?_
        refine lv_aload_n hx hb dX0_linesToTakeBack_27 rfl (lv_at hl 0 rfl) ?_
        refine va_get (D := D) (ci := 0) (v := .int (nI dr)) (C := RX0) (T := TX0) (N := 15) hx hb hts inX0_linesToTakeBack_0 hown hK.1 hP 0 rfl rfl 13 (by decide) (hts (.fieldLink RX0 166 "ChalkSlate" "dryLines" "I") (by decide +kernel)) (fun _ h9 => h9) rfl dX0_linesToTakeBack_28 ?_
        refine rd_V (q := (RX0, TX0, 15)) (ci := 0) (q0 := 0) (As := [.int (nI i), .int (nI dr)]) (rest := [.int acc]) ⟨hx, hb, hml, hown, hts⟩ (mX0_changesNotTakenBack l D cy h a R nd n dr fl (nI i) dr (by omega) (by omega) (by omega) (by omega)) (cwV 2 hts gX0_linesToTakeBack_X0_changesNotTakenBack rfl rfl rfl (by decide +kernel) ⟨Nat.le_of_ble_eq_true rfl, Nat.le_of_ble_eq_true rfl⟩) hP hK rfl rfl rfl hl.1 rfl (Nat.le_of_ble_eq_true rfl) dX0_linesToTakeBack_31 (Nat.zero_le _) (Nat.zero_le _) ?_
        refine lv_iadd hx hb dX0_linesToTakeBack_34 ?_
        refine lv_istore_n (lv' := [(1, .int (acc + (changesS R (nI i) (nI dr) dr))), (0, .ref h), (2, .int (nI i))]) hx hb dX0_linesToTakeBack_35 rfl hl (by decide) rfl (fun ls hl => ?_)
        refine lv_iinc (v := nI (i + 1)) (lv' := [(2, .int (nI (i + 1))), (1, .int (acc + (changesS R (nI i) (nI dr) dr))), (0, .ref h)]) hx hb dX0_linesToTakeBack_36 hl (k := 2) rfl ((nI_succ i).symm) (by decide) rfl (fun ls hl => ?_)
        refine lv_goto (tgt := 4) hx hb dX0_linesToTakeBack_39 (by decide) ?_
        exact ih (i + 1) (acc + (changesS R (nI i) (nI dr) dr)) (by omega) (by rw [toTakeS, if_pos c3, ← hacc]) ls (lv_sub hl [2, 1, 0] rfl)
  exact loop nd 0 0 (Nat.zero_add _) (rfl) ls (lv_sub hl [2, 1, 0] rfl)

set_option maxRecDepth 100000 in
theorem inX0_dishesToForget_0 : ∀ w ∈ wsX00, w ∈ wsX0_dishesToForget := by decide +kernel

set_option maxHeartbeats 4000000 in
set_option maxRecDepth 100000 in
theorem mX0_dishesToForget (l : Launch) (D : va_G) (cy : ClassId) (h : Nat) (a : Nat → Nat) (R : Nat → Nat → Int32) (nd n dr : Nat) (fl : Int32)  (hnd : nd < 1000000) (hn : n < 1000000) (hdr : dr < 1000000) : RdI l yX0_dishesToForget wsX0_dishesToForget 3 66 [.ref h] D cy (cC h a cy R nd n dr fl) (toForgetS R dr nd) := by
  refine Met.ofW (cc := cX0_dishesToForget) (maxL := 4) (ret := (some .int)) (by decide) rfl ?_
  intro p e s m args below meth c s₁ B hml hv
  obtain ⟨rfl, hP, hK⟩ := hv
  have hx := B.exec
  have hb := B.bytes
  have hr := B.returns
  have hts := atoms_spec (ws := wsX0_dishesToForget) B.pre
  have hown : s.vm.findClass RX0 = some m.cls := findClass_of_methodNamed B.named
  have hlocks := B.notSynchronized
  have hl := lv_entry ([.ref h]) (n := 4) (Nat.le_of_ble_eq_true rfl)
  rw [lg_entry_eq]
  generalize (lg_sl ([.ref h]) ++ List.replicate (4 - (lg_sl ([.ref h])).length) Slot.unset).toArray = ls at hl ⊢
  have hl : lv_has ls 4 [(0, .ref h)] := hl
  refine lv_iconst (v := 0) hx hb dX0_dishesToForget_0 (by decide) ?_
  refine lv_istore_n (lv' := [(1, .int 0), (0, .ref h)]) hx hb dX0_dishesToForget_1 rfl hl (by decide) rfl (fun ls hl => ?_)
  refine lv_iconst (v := 0) hx hb dX0_dishesToForget_2 (by decide) ?_
  refine lv_istore_n (lv' := [(2, .int 0), (1, .int 0), (0, .ref h)]) hx hb dX0_dishesToForget_3 rfl hl (by decide) rfl (fun ls hl => ?_)
  have loop : ∀ (k i : Nat) (acc : Int32), i + k = nd → acc = toForgetS R dr i → ∀ ls : Array Slot, lv_has ls 4 [(0, .ref h), (1, .int acc), (2, .int (nI i))] → W p l e (headSpec wsX0_dishesToForget { frames := 3, cells := 0, slots := 0, locals := 66 }).room s m ([.ref h] : List Value).toArray below meth c s.heap [] 0 0 (MQ below (vp_Si (fun r => r = toForgetS R dr nd)) ([.ref h] : List Value).toArray s 0 0 (fun _ => False)) (F0 m 4 ls []) := by
    intro k
    induction k with
    | zero =>
      intro i acc hik hacc ls hl
      have hin : i = nd := by omega
      refine lv_iload_n hx hb dX0_dishesToForget_4 rfl (lv_at hl 2 rfl) ?_
      refine lv_aload_n hx hb dX0_dishesToForget_5 rfl (lv_at hl 0 rfl) ?_
      refine va_get (D := D) (ci := 0) (v := .int (nI nd)) (C := RX0) (T := TX0) (N := 15) hx hb hts inX0_dishesToForget_0 hown hK.1 hP 0 rfl rfl 4 (by decide) (hts (.fieldLink RX0 49 "ChalkSlate" "dishes" "I") (by decide +kernel)) (fun _ h9 => h9) rfl dX0_dishesToForget_6 ?_
      refine lv_icmp_ge (tgt := 56) hx hb dX0_dishesToForget_9 (by decide) (fun c1 => ?_) (fun c1 => absurd (nI_le (by omega) (by omega)) c1)
      refine lv_iload_n hx hb dX0_dishesToForget_56 rfl (lv_at hl 1 rfl) ?_
      exact W.iret (v := acc) hx hb hr (fun t ht hW => ⟨acc, rfl, by rw [hacc, hin], ht⟩) (fun q hq => absurd hq List.not_mem_nil) dX0_dishesToForget_57
    | succ k ih =>
      intro i acc hik hacc ls hl
      refine lv_iload_n hx hb dX0_dishesToForget_4 rfl (lv_at hl 2 rfl) ?_
      refine lv_aload_n hx hb dX0_dishesToForget_5 rfl (lv_at hl 0 rfl) ?_
      refine va_get (D := D) (ci := 0) (v := .int (nI nd)) (C := RX0) (T := TX0) (N := 15) hx hb hts inX0_dishesToForget_0 hown hK.1 hP 0 rfl rfl 4 (by decide) (hts (.fieldLink RX0 49 "ChalkSlate" "dishes" "I") (by decide +kernel)) (fun _ h9 => h9) rfl dX0_dishesToForget_6 ?_
      refine lv_icmp_ge (tgt := 56) hx hb dX0_dishesToForget_9 (by decide) (fun c2 => absurd c2 (nI_ge (by omega) (by omega))) (fun c2 => ?_)
      refine lv_aload_n hx hb dX0_dishesToForget_12 rfl (lv_at hl 0 rfl) ?_
      refine va_get (D := D) (ci := 0) (v := .ref (a 3)) (C := RX0) (T := TX0) (N := 15) hx hb hts inX0_dishesToForget_0 hown hK.1 hP 0 rfl rfl 3 (by decide) (hts (.fieldLink RX0 19 "ChalkSlate" "dishState" "[I") (by decide +kernel)) (fun _ h9 => h9) rfl dX0_dishesToForget_13 ?_
      refine lv_iload_n hx hb dX0_dishesToForget_16 rfl (lv_at hl 2 rfl) ?_
      refine rd_S (As := [.ref (a 3), .int (nI i)]) (rest := []) ⟨hx, hb, hml, hown, hts⟩ (mX0_at l D cy (a 3) 20 (R 3) (nI i) (Nat.le_of_ble_eq_true rfl)) (va_cwS 2 hts gX0_dishesToForget_X0_at rfl rfl rfl (by decide +kernel) ⟨Nat.le_of_ble_eq_true rfl, Nat.le_of_ble_eq_true rfl⟩) (hP.sub (ws' := [(a 3, .inl (cy, 20, .inl (R 3)))]) [4] rfl) hK rfl hl.1 rfl (Nat.le_of_ble_eq_true rfl) dX0_dishesToForget_17 (Nat.zero_le _) (Nat.zero_le _) ?_
      refine lv_iconst (v := 3) hx hb dX0_dishesToForget_20 (by decide) ?_
      refine lv_icmp_ne (tgt := 28) hx hb dX0_dishesToForget_21 (by decide) (fun c3 => ?_) (fun c3 => ?_)
      · refine lv_iconst (v := 0) hx hb dX0_dishesToForget_28 (by decide) ?_
        refine lv_istore_n (lv' := [(3, .int 0), (0, .ref h), (1, .int acc), (2, .int (nI i))]) hx hb dX0_dishesToForget_29 rfl hl (by decide) rfl (fun ls hl => ?_)
        refine lv_iload_n hx hb dX0_dishesToForget_30 rfl (lv_at hl 0 rfl) ?_
        refine lv_if_ne (tgt := 50) hx hb dX0_dishesToForget_31 (by decide) (fun c4 => absurd rfl c4) (fun c4 => ?_)
        refine lv_aload_n hx hb dX0_dishesToForget_34 rfl (lv_at hl 1 rfl) ?_
        refine lv_iload_n hx hb dX0_dishesToForget_35 rfl (lv_at hl 3 rfl) ?_
        refine lv_aload_n hx hb dX0_dishesToForget_36 rfl (lv_at hl 1 rfl) ?_
        refine va_get (D := D) (ci := 0) (v := .int (nI dr)) (C := RX0) (T := TX0) (N := 15) hx hb hts inX0_dishesToForget_0 hown hK.1 hP 0 rfl rfl 13 (by decide) (hts (.fieldLink RX0 166 "ChalkSlate" "dryLines" "I") (by decide +kernel)) (fun _ h9 => h9) rfl dX0_dishesToForget_37 ?_
        refine rd_V (q := (RX0, TX0, 15)) (ci := 0) (q0 := 0) (As := [.int (nI i), .int (nI dr)]) (rest := []) ⟨hx, hb, hml, hown, hts⟩ (mX0_stateByLines l D cy h a R nd n dr fl (nI i) dr (by omega) (by omega) (by omega) (by omega)) (cwV 2 hts gX0_dishesToForget_X0_stateByLines rfl rfl rfl (by decide +kernel) ⟨Nat.le_of_ble_eq_true rfl, Nat.le_of_ble_eq_true rfl⟩) hP hK rfl rfl rfl hl.1 rfl (Nat.le_of_ble_eq_true rfl) dX0_dishesToForget_40 (Nat.zero_le _) (Nat.zero_le _) ?_
        refine lv_iconst (v := 3) hx hb dX0_dishesToForget_43 (by decide) ?_
        refine lv_icmp_ne (tgt := 50) hx hb dX0_dishesToForget_44 (by decide) (fun c5 => ?_) (fun c5 => ?_)
        · refine lv_iinc (v := nI (i + 1)) (lv' := [(2, .int (nI (i + 1))), (3, .int 0), (0, .ref h), (1, .int acc)]) hx hb dX0_dishesToForget_50 hl (k := 3) rfl ((nI_succ i).symm) (by decide) rfl (fun ls hl => ?_)
          refine lv_goto (tgt := 4) hx hb dX0_dishesToForget_53 (by decide) ?_
          exact ih (i + 1) acc (by omega) (by rw [toForgetS, if_neg c3, if_neg c5, ← hacc]) ls (lv_sub hl [2, 3, 0] rfl)
        · refine lv_iinc (v := acc + 1) (lv' := [(1, .int (acc + 1)), (3, .int 0), (0, .ref h), (2, .int (nI i))]) hx hb dX0_dishesToForget_47 hl (k := 2) rfl (rfl) (by decide) rfl (fun ls hl => ?_)
          refine lv_iinc (v := nI (i + 1)) (lv' := [(2, .int (nI (i + 1))), (1, .int (acc + 1)), (3, .int 0), (0, .ref h)]) hx hb dX0_dishesToForget_50 hl (k := 3) rfl ((nI_succ i).symm) (by decide) rfl (fun ls hl => ?_)
          refine lv_goto (tgt := 4) hx hb dX0_dishesToForget_53 (by decide) ?_
          exact ih (i + 1) (acc + 1) (by omega) (by rw [toForgetS, if_neg c3, if_pos c5, ← hacc]) ls (lv_sub hl [3, 1, 0] rfl)
      · refine lv_iconst (v := 1) hx hb dX0_dishesToForget_24 (by decide) ?_
        refine lv_goto (tgt := 29) hx hb dX0_dishesToForget_25 (by decide) ?_
        refine lv_istore_n (lv' := [(3, .int 1), (0, .ref h), (1, .int acc), (2, .int (nI i))]) hx hb dX0_dishesToForget_29 rfl hl (by decide) rfl (fun ls hl => ?_)
        refine lv_iload_n hx hb dX0_dishesToForget_30 rfl (lv_at hl 0 rfl) ?_
        refine lv_if_ne (tgt := 50) hx hb dX0_dishesToForget_31 (by decide) (fun c6 => ?_) (fun c6 => absurd c6 (by decide))
        refine lv_iinc (v := nI (i + 1)) (lv' := [(2, .int (nI (i + 1))), (3, .int 1), (0, .ref h), (1, .int acc)]) hx hb dX0_dishesToForget_50 hl (k := 3) rfl ((nI_succ i).symm) (by decide) rfl (fun ls hl => ?_)
        refine lv_goto (tgt := 4) hx hb dX0_dishesToForget_53 (by decide) ?_
        exact ih (i + 1) acc (by omega) (by rw [toForgetS, if_pos c3, ← hacc]) ls (lv_sub hl [2, 3, 0] rfl)
  exact loop nd 0 0 (Nat.zero_add _) (rfl) ls (lv_sub hl [2, 1, 0] rfl)

set_option maxRecDepth 100000 in
theorem inX0_spoonsAfterUndoing_0 : ∀ w ∈ wsX00, w ∈ wsX0_spoonsAfterUndoing := by decide +kernel

set_option maxHeartbeats 4000000 in
set_option maxRecDepth 100000 in
theorem mX0_spoonsAfterUndoing (l : Launch) (D : va_G) (cy : ClassId) (h : Nat) (a : Nat → Nat) (R : Nat → Nat → Int32) (nd n dr : Nat) (fl : Int32) (d u w : Int32) (hnd : nd < 1000000) (hn : n < 1000000) (hdr : dr < 1000000) : RdI l yX0_spoonsAfterUndoing wsX0_spoonsAfterUndoing 3 65 [.ref h, .int d, .int u, .int w] D cy (cC h a cy R nd n dr fl) (spoonsAfterS R dr d u dr w) := by
  refine Met.ofW (cc := cX0_spoonsAfterUndoing) (maxL := 6) (ret := (some .int)) (by decide) rfl ?_
  intro p e s m args below meth c s₁ B hml hv
  obtain ⟨rfl, hP, hK⟩ := hv
  have hx := B.exec
  have hb := B.bytes
  have hr := B.returns
  have hts := atoms_spec (ws := wsX0_spoonsAfterUndoing) B.pre
  have hown : s.vm.findClass RX0 = some m.cls := findClass_of_methodNamed B.named
  have hlocks := B.notSynchronized
  have hl := lv_entry ([.ref h, .int d, .int u, .int w]) (n := 6) (Nat.le_of_ble_eq_true rfl)
  rw [lg_entry_eq]
  generalize (lg_sl ([.ref h, .int d, .int u, .int w]) ++ List.replicate (6 - (lg_sl ([.ref h, .int d, .int u, .int w])).length) Slot.unset).toArray = ls at hl ⊢
  have hl : lv_has ls 6 [(0, .ref h), (1, .int d), (2, .int u), (3, .int w)] := hl
  refine lv_iload_n hx hb dX0_spoonsAfterUndoing_0 rfl (lv_at hl 3 rfl) ?_
  refine lv_istore (lv' := [(4, .int w), (0, .ref h), (1, .int d), (2, .int u), (3, .int w)]) hx hb dX0_spoonsAfterUndoing_1 hl (by decide) rfl (fun ls hl => ?_)
  refine lv_aload_n hx hb dX0_spoonsAfterUndoing_3 rfl (lv_at hl 1 rfl) ?_
  refine va_get (D := D) (ci := 0) (v := .int (nI dr)) (C := RX0) (T := TX0) (N := 15) hx hb hts inX0_spoonsAfterUndoing_0 hown hK.1 hP 0 rfl rfl 13 (by decide) (hts (.fieldLink RX0 166 "ChalkSlate" "dryLines" "I") (by decide +kernel)) (fun _ h9 => h9) rfl dX0_spoonsAfterUndoing_4 ?_
  refine lv_iconst (v := 1) hx hb dX0_spoonsAfterUndoing_7 (by decide) ?_
  refine lv_isub hx hb dX0_spoonsAfterUndoing_8 ?_
  refine lv_istore (lv' := [(5, .int ((nI dr) - 1)), (4, .int w), (0, .ref h), (1, .int d), (2, .int u), (3, .int w)]) hx hb dX0_spoonsAfterUndoing_9 hl (by decide) rfl (fun ls hl => ?_)
  have loop : ∀ (i : Nat) (acc : Int32) (x : Int32), i ≤ dr → x = nI i - 1 → spoonsAfterS R dr d u dr w = spoonsAfterS R dr d u i acc → ∀ ls : Array Slot, lv_has ls 6 [(0, .ref h), (1, .int d), (2, .int u), (3, .int w), (4, .int acc), (5, .int x)] → W p l e (headSpec wsX0_spoonsAfterUndoing { frames := 3, cells := 0, slots := 0, locals := 65 }).room s m ([.ref h, .int d, .int u, .int w] : List Value).toArray below meth c s.heap [] 0 0 (MQ below (vp_Si (fun r => r = spoonsAfterS R dr d u dr w)) ([.ref h, .int d, .int u, .int w] : List Value).toArray s 0 0 (fun _ => False)) (F0 m 11 ls []) := by
    intro i
    induction i with
    | zero =>
      intro acc x hik hxx hrel ls hl
      have hx0 : x = -1 := by rw [hxx]; rfl
      subst hx0
      refine lv_iload hx hb dX0_spoonsAfterUndoing_11 (lv_at hl 5 rfl) ?_
      refine lv_if_lt (tgt := 60) hx hb dX0_spoonsAfterUndoing_13 (by decide) (fun c1 => ?_) (fun c1 => absurd (by decide) c1)
      refine lv_iload hx hb dX0_spoonsAfterUndoing_60 (lv_at hl 4 rfl) ?_
      exact W.iret (v := acc) hx hb hr (fun t ht hW => ⟨acc, rfl, by rw [hrel, spoonsAfterS], ht⟩) (fun q hq => absurd hq List.not_mem_nil) dX0_spoonsAfterUndoing_62
    | succ i ih =>
      intro acc x hik hxx hrel ls hl
      have hx1 : x = nI i := by rw [hxx, nI_pred]
      subst hx1
      refine lv_iload hx hb dX0_spoonsAfterUndoing_11 (lv_at hl 5 rfl) ?_
      refine lv_if_lt (tgt := 60) hx hb dX0_spoonsAfterUndoing_13 (by decide) (fun c2 => absurd c2 (nI_pos (by omega))) (fun c2 => ?_)
      refine lv_aload_n hx hb dX0_spoonsAfterUndoing_16 rfl (lv_at hl 0 rfl) ?_
      refine va_get (D := D) (ci := 0) (v := .ref (a 6)) (C := RX0) (T := TX0) (N := 15) hx hb hts inX0_spoonsAfterUndoing_0 hown hK.1 hP 0 rfl rfl 7 (by decide) (hts (.fieldLink RX0 28 "ChalkSlate" "linePot" "[I") (by decide +kernel)) (fun _ h9 => h9) rfl dX0_spoonsAfterUndoing_17 ?_
      refine lv_iload hx hb dX0_spoonsAfterUndoing_20 (lv_at hl 5 rfl) ?_
      refine rd_S (As := [.ref (a 6), .int (nI i)]) (rest := []) ⟨hx, hb, hml, hown, hts⟩ (mX0_at l D cy (a 6) 120 (R 6) (nI i) (Nat.le_of_ble_eq_true rfl)) (va_cwS 2 hts gX0_spoonsAfterUndoing_X0_at rfl rfl rfl (by decide +kernel) ⟨Nat.le_of_ble_eq_true rfl, Nat.le_of_ble_eq_true rfl⟩) (hP.sub (ws' := [(a 6, .inl (cy, 120, .inl (R 6)))]) [7] rfl) hK rfl hl.1 rfl (Nat.le_of_ble_eq_true rfl) dX0_spoonsAfterUndoing_22 (Nat.zero_le _) (Nat.zero_le _) ?_
      refine lv_iload_n hx hb dX0_spoonsAfterUndoing_25 rfl (lv_at hl 2 rfl) ?_
      refine lv_icmp_ne (tgt := 54) hx hb dX0_spoonsAfterUndoing_26 (by decide) (fun c3 => ?_) (fun c3 => ?_)
      · refine lv_iinc (v := (nI i) + (-1)) (lv' := [(5, .int ((nI i) + (-1))), (0, .ref h), (1, .int d), (2, .int u), (3, .int w), (4, .int acc)]) hx hb dX0_spoonsAfterUndoing_54 hl (k := 5) rfl (rfl) (by decide) rfl (fun ls hl => ?_)
        refine lv_goto (tgt := 11) hx hb dX0_spoonsAfterUndoing_57 (by decide) ?_
        exact ih acc _ (by omega) (add_m1 _) (by rw [hrel, spoonsAfterS, if_neg c3]) ls (lv_sub hl [1, 2, 3, 4, 5, 0] rfl)
      · refine lv_aload_n hx hb dX0_spoonsAfterUndoing_29 rfl (lv_at hl 0 rfl) ?_
        refine lv_iload hx hb dX0_spoonsAfterUndoing_30 (lv_at hl 5 rfl) ?_
        refine lv_iload_n hx hb dX0_spoonsAfterUndoing_32 rfl (lv_at hl 1 rfl) ?_
        refine lv_aload_n hx hb dX0_spoonsAfterUndoing_33 rfl (lv_at hl 0 rfl) ?_
        refine va_get (D := D) (ci := 0) (v := .int (nI dr)) (C := RX0) (T := TX0) (N := 15) hx hb hts inX0_spoonsAfterUndoing_0 hown hK.1 hP 0 rfl rfl 13 (by decide) (hts (.fieldLink RX0 166 "ChalkSlate" "dryLines" "I") (by decide +kernel)) (fun _ h9 => h9) rfl dX0_spoonsAfterUndoing_34 ?_
        refine rd_V (q := (RX0, TX0, 15)) (ci := 0) (q0 := 0) (As := [.int (nI i), .int d, .int (nI dr)]) (rest := []) ⟨hx, hb, hml, hown, hts⟩ (mX0_isChangeNotTakenBack l D cy h a R nd n dr fl (nI i) d (nI dr) (by omega) (by omega) (by omega) ) (cwV 3 hts gX0_spoonsAfterUndoing_X0_isChangeNotTakenBack rfl rfl rfl (by decide +kernel) ⟨Nat.le_of_ble_eq_true rfl, Nat.le_of_ble_eq_true rfl⟩) hP hK rfl rfl rfl hl.1 rfl (Nat.le_of_ble_eq_true rfl) dX0_spoonsAfterUndoing_37 (Nat.zero_le _) (Nat.zero_le _) ?_
        refine lv_if_eq (tgt := 54) hx hb dX0_spoonsAfterUndoing_40 (by decide) (fun c4 => ?_) (fun c4 => ?_)
        · refine lv_iinc (v := (nI i) + (-1)) (lv' := [(5, .int ((nI i) + (-1))), (0, .ref h), (1, .int d), (2, .int u), (3, .int w), (4, .int acc)]) hx hb dX0_spoonsAfterUndoing_54 hl (k := 5) rfl (rfl) (by decide) rfl (fun ls hl => ?_)
          refine lv_goto (tgt := 11) hx hb dX0_spoonsAfterUndoing_57 (by decide) ?_
          exact ih acc _ (by omega) (add_m1 _) (by rw [hrel, spoonsAfterS, if_pos c3, if_pos c4]) ls (lv_sub hl [1, 2, 3, 4, 5, 0] rfl)
        · refine lv_aload_n hx hb dX0_spoonsAfterUndoing_43 rfl (lv_at hl 0 rfl) ?_
          refine va_get (D := D) (ci := 0) (v := .ref (a 7)) (C := RX0) (T := TX0) (N := 15) hx hb hts inX0_spoonsAfterUndoing_0 hown hK.1 hP 0 rfl rfl 8 (by decide) (hts (.fieldLink RX0 31 "ChalkSlate" "lineAhead" "[I") (by decide +kernel)) (fun _ h9 => h9) rfl dX0_spoonsAfterUndoing_44 ?_
          refine lv_iload hx hb dX0_spoonsAfterUndoing_47 (lv_at hl 5 rfl) ?_
          refine rd_S (As := [.ref (a 7), .int (nI i)]) (rest := []) ⟨hx, hb, hml, hown, hts⟩ (mX0_at l D cy (a 7) 120 (R 7) (nI i) (Nat.le_of_ble_eq_true rfl)) (va_cwS 2 hts gX0_spoonsAfterUndoing_X0_at rfl rfl rfl (by decide +kernel) ⟨Nat.le_of_ble_eq_true rfl, Nat.le_of_ble_eq_true rfl⟩) (hP.sub (ws' := [(a 7, .inl (cy, 120, .inl (R 7)))]) [8] rfl) hK rfl hl.1 rfl (Nat.le_of_ble_eq_true rfl) dX0_spoonsAfterUndoing_49 (Nat.zero_le _) (Nat.zero_le _) ?_
          refine lv_istore (lv' := [(4, .int (atS 120 (R 7) (nI i))), (0, .ref h), (1, .int d), (2, .int u), (3, .int w), (5, .int (nI i))]) hx hb dX0_spoonsAfterUndoing_52 hl (by decide) rfl (fun ls hl => ?_)
          refine lv_iinc (v := (nI i) + (-1)) (lv' := [(5, .int ((nI i) + (-1))), (4, .int (atS 120 (R 7) (nI i))), (0, .ref h), (1, .int d), (2, .int u), (3, .int w)]) hx hb dX0_spoonsAfterUndoing_54 hl (k := 5) rfl (rfl) (by decide) rfl (fun ls hl => ?_)
          refine lv_goto (tgt := 11) hx hb dX0_spoonsAfterUndoing_57 (by decide) ?_
          exact ih (atS 120 (R 7) (nI i)) _ (by omega) (add_m1 _) (by rw [hrel, spoonsAfterS, if_pos c3, if_neg c4]) ls (lv_sub hl [2, 3, 4, 5, 1, 0] rfl)
  exact loop dr w _ (Nat.le_refl _) rfl (rfl) ls (lv_sub hl [2, 3, 4, 5, 1, 0] rfl)

set_option maxRecDepth 100000 in
theorem inX0_potAnswer_0 : ∀ w ∈ wsX00, w ∈ wsX0_potAnswer := by decide +kernel

set_option maxHeartbeats 4000000 in
set_option maxRecDepth 100000 in
theorem mX0_potAnswer (l : Launch) (D : va_G) (cy : ClassId) (h : Nat) (a : Nat → Nat) (R : Nat → Nat → Int32) (nd n dr : Nat) (fl : Int32) (x w : Int32) (hnd : nd < 1000000) (hn : n < 1000000) (hdr : dr < 1000000) : RdI l yX0_potAnswer wsX0_potAnswer 4 86 [.ref h, .int x, .int w] D cy (cC h a cy R nd n dr fl) (potAnsS R n x w) := by
  refine Met.ofW (cc := cX0_potAnswer) (maxL := 3) (ret := (some .int)) (by decide) rfl ?_
  intro p e s m args below meth c s₁ B hml hv
  obtain ⟨rfl, hP, hK⟩ := hv
  have hx := B.exec
  have hb := B.bytes
  have hr := B.returns
  have hts := atoms_spec (ws := wsX0_potAnswer) B.pre
  have hown : s.vm.findClass RX0 = some m.cls := findClass_of_methodNamed B.named
  have hlocks := B.notSynchronized
  have hl := lv_entry ([.ref h, .int x, .int w]) (n := 3) (Nat.le_of_ble_eq_true rfl)
  rw [lg_entry_eq]
  generalize (lg_sl ([.ref h, .int x, .int w]) ++ List.replicate (3 - (lg_sl ([.ref h, .int x, .int w])).length) Slot.unset).toArray = ls at hl ⊢
  have hl : lv_has ls 3 [(0, .ref h), (1, .int x), (2, .int w)] := hl
  refine lv_iload_n hx hb dX0_potAnswer_0 rfl (lv_at hl 2 rfl) ?_
  by_cases hsw : w.toInt < 0 ∨ 3 < w.toInt
  · refine lv_tableOut (tgt := 65) hx hb dX0_potAnswer_1 hsw (by decide) ?_
    refine lv_aload_n hx hb dX0_potAnswer_65 rfl (lv_at hl 0 rfl) ?_
    refine lv_iload_n hx hb dX0_potAnswer_66 rfl (lv_at hl 1 rfl) ?_
    refine rd_V (q := (RX0, TX0, 15)) (ci := 0) (q0 := 0) (As := [.int x]) (rest := []) ⟨hx, hb, hml, hown, hts⟩ (mX0_latestLineOf l D cy h a R nd n dr fl x (by omega) (by omega) (by omega) ) (cwV 1 hts gX0_potAnswer_X0_latestLineOf rfl rfl rfl (by decide +kernel) ⟨Nat.le_of_ble_eq_true rfl, Nat.le_of_ble_eq_true rfl⟩) hP hK rfl rfl rfl hl.1 rfl (Nat.le_of_ble_eq_true rfl) dX0_potAnswer_67 (Nat.zero_le _) (Nat.zero_le _) ?_
    exact W.iret (v := lastS (R 6) x n) hx hb hr (fun t ht hW => ⟨(lastS (R 6) x n), rfl, by rw [potAnsS, if_neg (sw_ne hsw (by decide)), if_neg (sw_ne hsw (by decide)), if_neg (sw_ne hsw (by decide)), if_neg (sw_ne hsw (by decide))], ht⟩) (fun q hq => absurd hq List.not_mem_nil) dX0_potAnswer_70
  · obtain ⟨hsw1, hsw2⟩ := not_or.mp hsw
    have hsw3 : w = 0 ∨ w = 1 ∨ w = 2 ∨ w = 3 := sw_3 hsw1 hsw2
    rcases hsw3 with hsw3 | hsw3 | hsw3 | hsw3
    · refine lv_tableIn (off := 31) (tgt := 32) hx hb dX0_potAnswer_1 hsw1 hsw2 (by rw [hsw3]; rfl) (by decide) ?_
      refine lv_aload_n hx hb dX0_potAnswer_32 rfl (lv_at hl 0 rfl) ?_
      refine va_get (D := D) (ci := 0) (v := .ref (a 0)) (C := RX0) (T := TX0) (N := 15) hx hb hts inX0_potAnswer_0 hown hK.1 hP 0 rfl rfl 0 (by decide) (hts (.fieldLink RX0 9 "ChalkSlate" "stove" "[I") (by decide +kernel)) (fun _ h9 => h9) rfl dX0_potAnswer_33 ?_
      refine lv_iload_n hx hb dX0_potAnswer_36 rfl (lv_at hl 1 rfl) ?_
      refine rd_S (As := [.ref (a 0), .int x]) (rest := []) ⟨hx, hb, hml, hown, hts⟩ (mX0_at l D cy (a 0) 8 (R 0) x (Nat.le_of_ble_eq_true rfl)) (va_cwS 2 hts gX0_potAnswer_X0_at rfl rfl rfl (by decide +kernel) ⟨Nat.le_of_ble_eq_true rfl, Nat.le_of_ble_eq_true rfl⟩) (hP.sub (ws' := [(a 0, .inl (cy, 8, .inl (R 0)))]) [1] rfl) hK rfl hl.1 rfl (Nat.le_of_ble_eq_true rfl) dX0_potAnswer_37 (Nat.zero_le _) (Nat.zero_le _) ?_
      exact W.iret (v := atS 8 (R 0) x) hx hb hr (fun t ht hW => ⟨(atS 8 (R 0) x), rfl, by rw [potAnsS, hsw3]; rfl, ht⟩) (fun q hq => absurd hq List.not_mem_nil) dX0_potAnswer_40
    · refine lv_tableIn (off := 40) (tgt := 41) hx hb dX0_potAnswer_1 hsw1 hsw2 (by rw [hsw3]; rfl) (by decide) ?_
      refine lv_aload_n hx hb dX0_potAnswer_41 rfl (lv_at hl 0 rfl) ?_
      refine va_get (D := D) (ci := 0) (v := .ref (a 1)) (C := RX0) (T := TX0) (N := 15) hx hb hts inX0_potAnswer_0 hown hK.1 hP 0 rfl rfl 1 (by decide) (hts (.fieldLink RX0 13 "ChalkSlate" "shelf" "[I") (by decide +kernel)) (fun _ h9 => h9) rfl dX0_potAnswer_42 ?_
      refine lv_iload_n hx hb dX0_potAnswer_45 rfl (lv_at hl 1 rfl) ?_
      refine rd_S (As := [.ref (a 1), .int x]) (rest := []) ⟨hx, hb, hml, hown, hts⟩ (mX0_at l D cy (a 1) 8 (R 1) x (Nat.le_of_ble_eq_true rfl)) (va_cwS 2 hts gX0_potAnswer_X0_at rfl rfl rfl (by decide +kernel) ⟨Nat.le_of_ble_eq_true rfl, Nat.le_of_ble_eq_true rfl⟩) (hP.sub (ws' := [(a 1, .inl (cy, 8, .inl (R 1)))]) [2] rfl) hK rfl hl.1 rfl (Nat.le_of_ble_eq_true rfl) dX0_potAnswer_46 (Nat.zero_le _) (Nat.zero_le _) ?_
      exact W.iret (v := atS 8 (R 1) x) hx hb hr (fun t ht hW => ⟨(atS 8 (R 1) x), rfl, by rw [potAnsS, hsw3]; rfl, ht⟩) (fun q hq => absurd hq List.not_mem_nil) dX0_potAnswer_49
    · refine lv_tableIn (off := 49) (tgt := 50) hx hb dX0_potAnswer_1 hsw1 hsw2 (by rw [hsw3]; rfl) (by decide) ?_
      refine lv_aload_n hx hb dX0_potAnswer_50 rfl (lv_at hl 0 rfl) ?_
      refine va_get (D := D) (ci := 0) (v := .ref (a 2)) (C := RX0) (T := TX0) (N := 15) hx hb hts inX0_potAnswer_0 hown hK.1 hP 0 rfl rfl 2 (by decide) (hts (.fieldLink RX0 16 "ChalkSlate" "stamp" "[I") (by decide +kernel)) (fun _ h9 => h9) rfl dX0_potAnswer_51 ?_
      refine lv_iload_n hx hb dX0_potAnswer_54 rfl (lv_at hl 1 rfl) ?_
      refine rd_S (As := [.ref (a 2), .int x]) (rest := []) ⟨hx, hb, hml, hown, hts⟩ (mX0_at l D cy (a 2) 8 (R 2) x (Nat.le_of_ble_eq_true rfl)) (va_cwS 2 hts gX0_potAnswer_X0_at rfl rfl rfl (by decide +kernel) ⟨Nat.le_of_ble_eq_true rfl, Nat.le_of_ble_eq_true rfl⟩) (hP.sub (ws' := [(a 2, .inl (cy, 8, .inl (R 2)))]) [3] rfl) hK rfl hl.1 rfl (Nat.le_of_ble_eq_true rfl) dX0_potAnswer_55 (Nat.zero_le _) (Nat.zero_le _) ?_
      exact W.iret (v := atS 8 (R 2) x) hx hb hr (fun t ht hW => ⟨(atS 8 (R 2) x), rfl, by rw [potAnsS, hsw3]; rfl, ht⟩) (fun q hq => absurd hq List.not_mem_nil) dX0_potAnswer_58
    · refine lv_tableIn (off := 58) (tgt := 59) hx hb dX0_potAnswer_1 hsw1 hsw2 (by rw [hsw3]; rfl) (by decide) ?_
      refine lv_aload_n hx hb dX0_potAnswer_59 rfl (lv_at hl 0 rfl) ?_
      refine lv_iload_n hx hb dX0_potAnswer_60 rfl (lv_at hl 1 rfl) ?_
      refine rd_V (q := (RX0, TX0, 15)) (ci := 0) (q0 := 0) (As := [.int x]) (rest := []) ⟨hx, hb, hml, hown, hts⟩ (mX0_holderOf l D cy h a R nd n dr fl x (by omega) (by omega) (by omega) ) (cwV 1 hts gX0_potAnswer_X0_holderOf rfl rfl rfl (by decide +kernel) ⟨Nat.le_of_ble_eq_true rfl, Nat.le_of_ble_eq_true rfl⟩) hP hK rfl rfl rfl hl.1 rfl (Nat.le_of_ble_eq_true rfl) dX0_potAnswer_61 (Nat.zero_le _) (Nat.zero_le _) ?_
      exact W.iret (v := holderS R x n 0) hx hb hr (fun t ht hW => ⟨(holderS R x n 0), rfl, by rw [potAnsS, hsw3]; rfl, ht⟩) (fun q hq => absurd hq List.not_mem_nil) dX0_potAnswer_64

set_option maxRecDepth 100000 in
theorem inX0_dishAnswer_0 : ∀ w ∈ wsX00, w ∈ wsX0_dishAnswer := by decide +kernel

set_option maxHeartbeats 4000000 in
set_option maxRecDepth 100000 in
theorem mX0_dishAnswer (l : Launch) (D : va_G) (cy : ClassId) (h : Nat) (a : Nat → Nat) (R : Nat → Nat → Int32) (nd n dr : Nat) (fl : Int32) (x w : Int32) (hnd : nd < 1000000) (hn : n < 1000000) (hdr : dr < 1000000) : RdI l yX0_dishAnswer wsX0_dishAnswer 5 109 [.ref h, .int x, .int w] D cy (cC h a cy R nd n dr fl) (dishAnsS R n x w) := by
  refine Met.ofW (cc := cX0_dishAnswer) (maxL := 3) (ret := (some .int)) (by decide) rfl ?_
  intro p e s m args below meth c s₁ B hml hv
  obtain ⟨rfl, hP, hK⟩ := hv
  have hx := B.exec
  have hb := B.bytes
  have hr := B.returns
  have hts := atoms_spec (ws := wsX0_dishAnswer) B.pre
  have hown : s.vm.findClass RX0 = some m.cls := findClass_of_methodNamed B.named
  have hlocks := B.notSynchronized
  have hl := lv_entry ([.ref h, .int x, .int w]) (n := 3) (Nat.le_of_ble_eq_true rfl)
  rw [lg_entry_eq]
  generalize (lg_sl ([.ref h, .int x, .int w]) ++ List.replicate (3 - (lg_sl ([.ref h, .int x, .int w])).length) Slot.unset).toArray = ls at hl ⊢
  have hl : lv_has ls 3 [(0, .ref h), (1, .int x), (2, .int w)] := hl
  refine lv_iload_n hx hb dX0_dishAnswer_0 rfl (lv_at hl 2 rfl) ?_
  by_cases hsw : w.toInt < 0 ∨ 3 < w.toInt
  · refine lv_tableOut (tgt := 63) hx hb dX0_dishAnswer_1 hsw (by decide) ?_
    refine lv_aload_n hx hb dX0_dishAnswer_63 rfl (lv_at hl 0 rfl) ?_
    refine lv_iload_n hx hb dX0_dishAnswer_64 rfl (lv_at hl 1 rfl) ?_
    refine rd_V (q := (RX0, TX0, 15)) (ci := 0) (q0 := 0) (As := [.int x]) (rest := []) ⟨hx, hb, hml, hown, hts⟩ (mX0_lastLineOf l D cy h a R nd n dr fl x (by omega) (by omega) (by omega) ) (cwV 1 hts gX0_dishAnswer_X0_lastLineOf rfl rfl rfl (by decide +kernel) ⟨Nat.le_of_ble_eq_true rfl, Nat.le_of_ble_eq_true rfl⟩) hP hK rfl rfl rfl hl.1 rfl (Nat.le_of_ble_eq_true rfl) dX0_dishAnswer_65 (Nat.zero_le _) (Nat.zero_le _) ?_
    exact W.iret (v := lastS (R 4) x n) hx hb hr (fun t ht hW => ⟨(lastS (R 4) x n), rfl, by rw [dishAnsS, if_neg (sw_ne hsw (by decide)), if_neg (sw_ne hsw (by decide)), if_neg (sw_ne hsw (by decide)), if_neg (sw_ne hsw (by decide))], ht⟩) (fun q hq => absurd hq List.not_mem_nil) dX0_dishAnswer_68
  · obtain ⟨hsw1, hsw2⟩ := not_or.mp hsw
    have hsw3 : w = 0 ∨ w = 1 ∨ w = 2 ∨ w = 3 := sw_3 hsw1 hsw2
    rcases hsw3 with hsw3 | hsw3 | hsw3 | hsw3
    · refine lv_tableIn (off := 31) (tgt := 32) hx hb dX0_dishAnswer_1 hsw1 hsw2 (by rw [hsw3]; rfl) (by decide) ?_
      refine lv_aload_n hx hb dX0_dishAnswer_32 rfl (lv_at hl 0 rfl) ?_
      refine va_get (D := D) (ci := 0) (v := .ref (a 3)) (C := RX0) (T := TX0) (N := 15) hx hb hts inX0_dishAnswer_0 hown hK.1 hP 0 rfl rfl 3 (by decide) (hts (.fieldLink RX0 19 "ChalkSlate" "dishState" "[I") (by decide +kernel)) (fun _ h9 => h9) rfl dX0_dishAnswer_33 ?_
      refine lv_iload_n hx hb dX0_dishAnswer_36 rfl (lv_at hl 1 rfl) ?_
      refine rd_S (As := [.ref (a 3), .int x]) (rest := []) ⟨hx, hb, hml, hown, hts⟩ (mX0_at l D cy (a 3) 20 (R 3) x (Nat.le_of_ble_eq_true rfl)) (va_cwS 2 hts gX0_dishAnswer_X0_at rfl rfl rfl (by decide +kernel) ⟨Nat.le_of_ble_eq_true rfl, Nat.le_of_ble_eq_true rfl⟩) (hP.sub (ws' := [(a 3, .inl (cy, 20, .inl (R 3)))]) [4] rfl) hK rfl hl.1 rfl (Nat.le_of_ble_eq_true rfl) dX0_dishAnswer_37 (Nat.zero_le _) (Nat.zero_le _) ?_
      exact W.iret (v := atS 20 (R 3) x) hx hb hr (fun t ht hW => ⟨(atS 20 (R 3) x), rfl, by rw [dishAnsS, hsw3]; rfl, ht⟩) (fun q hq => absurd hq List.not_mem_nil) dX0_dishAnswer_40
    · refine lv_tableIn (off := 40) (tgt := 41) hx hb dX0_dishAnswer_1 hsw1 hsw2 (by rw [hsw3]; rfl) (by decide) ?_
      refine lv_aload_n hx hb dX0_dishAnswer_41 rfl (lv_at hl 0 rfl) ?_
      refine lv_iload_n hx hb dX0_dishAnswer_42 rfl (lv_at hl 1 rfl) ?_
      refine rd_V (q := (RX0, TX0, 15)) (ci := 0) (q0 := 0) (As := [.int x]) (rest := []) ⟨hx, hb, hml, hown, hts⟩ (mX0_linesOf l D cy h a R nd n dr fl x (by omega) (by omega) (by omega) ) (cwV 1 hts gX0_dishAnswer_X0_linesOf rfl rfl rfl (by decide +kernel) ⟨Nat.le_of_ble_eq_true rfl, Nat.le_of_ble_eq_true rfl⟩) hP hK rfl rfl rfl hl.1 rfl (Nat.le_of_ble_eq_true rfl) dX0_dishAnswer_43 (Nat.zero_le _) (Nat.zero_le _) ?_
      exact W.iret (v := countS 120 (R 4) x n) hx hb hr (fun t ht hW => ⟨(countS 120 (R 4) x n), rfl, by rw [dishAnsS, hsw3]; rfl, ht⟩) (fun q hq => absurd hq List.not_mem_nil) dX0_dishAnswer_46
    · refine lv_tableIn (off := 46) (tgt := 47) hx hb dX0_dishAnswer_1 hsw1 hsw2 (by rw [hsw3]; rfl) (by decide) ?_
      refine lv_aload_n hx hb dX0_dishAnswer_47 rfl (lv_at hl 0 rfl) ?_
      refine lv_iload_n hx hb dX0_dishAnswer_48 rfl (lv_at hl 1 rfl) ?_
      refine lv_aload_n hx hb dX0_dishAnswer_49 rfl (lv_at hl 0 rfl) ?_
      refine va_get (D := D) (ci := 0) (v := .int (nI n)) (C := RX0) (T := TX0) (N := 15) hx hb hts inX0_dishAnswer_0 hown hK.1 hP 0 rfl rfl 12 (by decide) (hts (.fieldLink RX0 112 "ChalkSlate" "lines" "I") (by decide +kernel)) (fun _ h9 => h9) rfl dX0_dishAnswer_50 ?_
      refine rd_V (q := (RX0, TX0, 15)) (ci := 0) (q0 := 0) (As := [.int x, .int (nI n)]) (rest := []) ⟨hx, hb, hml, hown, hts⟩ (mX0_changesNotTakenBack l D cy h a R nd n dr fl x n (by omega) (by omega) (by omega) (by omega)) (cwV 2 hts gX0_dishAnswer_X0_changesNotTakenBack rfl rfl rfl (by decide +kernel) ⟨Nat.le_of_ble_eq_true rfl, Nat.le_of_ble_eq_true rfl⟩) hP hK rfl rfl rfl hl.1 rfl (Nat.le_of_ble_eq_true rfl) dX0_dishAnswer_53 (Nat.zero_le _) (Nat.zero_le _) ?_
      exact W.iret (v := changesS R x (nI n) n) hx hb hr (fun t ht hW => ⟨(changesS R x (nI n) n), rfl, by rw [dishAnsS, hsw3]; rfl, ht⟩) (fun q hq => absurd hq List.not_mem_nil) dX0_dishAnswer_56
    · refine lv_tableIn (off := 56) (tgt := 57) hx hb dX0_dishAnswer_1 hsw1 hsw2 (by rw [hsw3]; rfl) (by decide) ?_
      refine lv_aload_n hx hb dX0_dishAnswer_57 rfl (lv_at hl 0 rfl) ?_
      refine lv_iload_n hx hb dX0_dishAnswer_58 rfl (lv_at hl 1 rfl) ?_
      refine rd_V (q := (RX0, TX0, 15)) (ci := 0) (q0 := 0) (As := [.int x]) (rest := []) ⟨hx, hb, hml, hown, hts⟩ (mX0_potsHeldBy l D cy h a R nd n dr fl x (by omega) (by omega) (by omega) ) (cwV 1 hts gX0_dishAnswer_X0_potsHeldBy rfl rfl rfl (by decide +kernel) ⟨Nat.le_of_ble_eq_true rfl, Nat.le_of_ble_eq_true rfl⟩) hP hK rfl rfl rfl hl.1 rfl (Nat.le_of_ble_eq_true rfl) dX0_dishAnswer_59 (Nat.zero_le _) (Nat.zero_le _) ?_
      exact W.iret (v := potsHeldS R n x 8) hx hb hr (fun t ht hW => ⟨(potsHeldS R n x 8), rfl, by rw [dishAnsS, hsw3]; rfl, ht⟩) (fun q hq => absurd hq List.not_mem_nil) dX0_dishAnswer_62

set_option maxRecDepth 100000 in
theorem inX0_lineAnswer_0 : ∀ w ∈ wsX00, w ∈ wsX0_lineAnswer := by decide +kernel

set_option maxHeartbeats 4000000 in
set_option maxRecDepth 100000 in
theorem mX0_lineAnswer (l : Launch) (D : va_G) (cy : ClassId) (h : Nat) (a : Nat → Nat) (R : Nat → Nat → Int32) (nd n dr : Nat) (fl : Int32) (x w : Int32) (hnd : nd < 1000000) (hn : n < 1000000) (hdr : dr < 1000000) : RdI l yX0_lineAnswer wsX0_lineAnswer 2 42 [.ref h, .int x, .int w] D cy (cC h a cy R nd n dr fl) (lineAnsS R dr x w) := by
  refine Met.ofW (cc := cX0_lineAnswer) (maxL := 3) (ret := (some .int)) (by decide) rfl ?_
  intro p e s m args below meth c s₁ B hml hv
  obtain ⟨rfl, hP, hK⟩ := hv
  have hx := B.exec
  have hb := B.bytes
  have hr := B.returns
  have hts := atoms_spec (ws := wsX0_lineAnswer) B.pre
  have hown : s.vm.findClass RX0 = some m.cls := findClass_of_methodNamed B.named
  have hlocks := B.notSynchronized
  have hl := lv_entry ([.ref h, .int x, .int w]) (n := 3) (Nat.le_of_ble_eq_true rfl)
  rw [lg_entry_eq]
  generalize (lg_sl ([.ref h, .int x, .int w]) ++ List.replicate (3 - (lg_sl ([.ref h, .int x, .int w])).length) Slot.unset).toArray = ls at hl ⊢
  have hl : lv_has ls 3 [(0, .ref h), (1, .int x), (2, .int w)] := hl
  refine lv_iload_n hx hb dX0_lineAnswer_0 rfl (lv_at hl 2 rfl) ?_
  by_cases hsw : w.toInt < 0 ∨ 5 < w.toInt
  · refine lv_tableOut (tgt := 94) hx hb dX0_lineAnswer_1 hsw (by decide) ?_
    refine lv_iload_n hx hb dX0_lineAnswer_94 rfl (lv_at hl 1 rfl) ?_
    refine lv_aload_n hx hb dX0_lineAnswer_95 rfl (lv_at hl 0 rfl) ?_
    refine va_get (D := D) (ci := 0) (v := .int (nI dr)) (C := RX0) (T := TX0) (N := 15) hx hb hts inX0_lineAnswer_0 hown hK.1 hP 0 rfl rfl 13 (by decide) (hts (.fieldLink RX0 166 "ChalkSlate" "dryLines" "I") (by decide +kernel)) (fun _ h9 => h9) rfl dX0_lineAnswer_96 ?_
    refine lv_icmp_ge (tgt := 106) hx hb dX0_lineAnswer_99 (by decide) (fun c1 => ?_) (fun c1 => ?_)
    · refine lv_iconst (v := 0) hx hb dX0_lineAnswer_106 (by decide) ?_
      exact W.iret (v := 0) hx hb hr (fun t ht hW => ⟨0, rfl, by rw [lineAnsS, if_neg (sw_ne hsw (by decide)), if_neg (sw_ne hsw (by decide)), if_neg (sw_ne hsw (by decide)), if_neg (sw_ne hsw (by decide)), if_neg (sw_ne hsw (by decide)), if_neg (sw_ne hsw (by decide)), if_pos c1], ht⟩) (fun q hq => absurd hq List.not_mem_nil) dX0_lineAnswer_107
    · refine lv_iconst (v := 1) hx hb dX0_lineAnswer_102 (by decide) ?_
      refine lv_goto (tgt := 107) hx hb dX0_lineAnswer_103 (by decide) ?_
      exact W.iret (v := 1) hx hb hr (fun t ht hW => ⟨1, rfl, by rw [lineAnsS, if_neg (sw_ne hsw (by decide)), if_neg (sw_ne hsw (by decide)), if_neg (sw_ne hsw (by decide)), if_neg (sw_ne hsw (by decide)), if_neg (sw_ne hsw (by decide)), if_neg (sw_ne hsw (by decide)), if_neg c1], ht⟩) (fun q hq => absurd hq List.not_mem_nil) dX0_lineAnswer_107
  · obtain ⟨hsw1, hsw2⟩ := not_or.mp hsw
    have hsw3 : w = 0 ∨ w = 1 ∨ w = 2 ∨ w = 3 ∨ w = 4 ∨ w = 5 := sw_5 hsw1 hsw2
    rcases hsw3 with hsw3 | hsw3 | hsw3 | hsw3 | hsw3 | hsw3
    · refine lv_tableIn (off := 39) (tgt := 40) hx hb dX0_lineAnswer_1 hsw1 hsw2 (by rw [hsw3]; rfl) (by decide) ?_
      refine lv_aload_n hx hb dX0_lineAnswer_40 rfl (lv_at hl 0 rfl) ?_
      refine va_get (D := D) (ci := 0) (v := .ref (a 4)) (C := RX0) (T := TX0) (N := 15) hx hb hts inX0_lineAnswer_0 hown hK.1 hP 0 rfl rfl 5 (by decide) (hts (.fieldLink RX0 22 "ChalkSlate" "lineDish" "[I") (by decide +kernel)) (fun _ h9 => h9) rfl dX0_lineAnswer_41 ?_
      refine lv_iload_n hx hb dX0_lineAnswer_44 rfl (lv_at hl 1 rfl) ?_
      refine rd_S (As := [.ref (a 4), .int x]) (rest := []) ⟨hx, hb, hml, hown, hts⟩ (mX0_at l D cy (a 4) 120 (R 4) x (Nat.le_of_ble_eq_true rfl)) (va_cwS 2 hts gX0_lineAnswer_X0_at rfl rfl rfl (by decide +kernel) ⟨Nat.le_of_ble_eq_true rfl, Nat.le_of_ble_eq_true rfl⟩) (hP.sub (ws' := [(a 4, .inl (cy, 120, .inl (R 4)))]) [5] rfl) hK rfl hl.1 rfl (Nat.le_of_ble_eq_true rfl) dX0_lineAnswer_45 (Nat.zero_le _) (Nat.zero_le _) ?_
      exact W.iret (v := atS 120 (R 4) x) hx hb hr (fun t ht hW => ⟨(atS 120 (R 4) x), rfl, by rw [lineAnsS, hsw3]; rfl, ht⟩) (fun q hq => absurd hq List.not_mem_nil) dX0_lineAnswer_48
    · refine lv_tableIn (off := 48) (tgt := 49) hx hb dX0_lineAnswer_1 hsw1 hsw2 (by rw [hsw3]; rfl) (by decide) ?_
      refine lv_aload_n hx hb dX0_lineAnswer_49 rfl (lv_at hl 0 rfl) ?_
      refine va_get (D := D) (ci := 0) (v := .ref (a 5)) (C := RX0) (T := TX0) (N := 15) hx hb hts inX0_lineAnswer_0 hown hK.1 hP 0 rfl rfl 6 (by decide) (hts (.fieldLink RX0 25 "ChalkSlate" "lineKind" "[I") (by decide +kernel)) (fun _ h9 => h9) rfl dX0_lineAnswer_50 ?_
      refine lv_iload_n hx hb dX0_lineAnswer_53 rfl (lv_at hl 1 rfl) ?_
      refine rd_S (As := [.ref (a 5), .int x]) (rest := []) ⟨hx, hb, hml, hown, hts⟩ (mX0_at l D cy (a 5) 120 (R 5) x (Nat.le_of_ble_eq_true rfl)) (va_cwS 2 hts gX0_lineAnswer_X0_at rfl rfl rfl (by decide +kernel) ⟨Nat.le_of_ble_eq_true rfl, Nat.le_of_ble_eq_true rfl⟩) (hP.sub (ws' := [(a 5, .inl (cy, 120, .inl (R 5)))]) [6] rfl) hK rfl hl.1 rfl (Nat.le_of_ble_eq_true rfl) dX0_lineAnswer_54 (Nat.zero_le _) (Nat.zero_le _) ?_
      exact W.iret (v := atS 120 (R 5) x) hx hb hr (fun t ht hW => ⟨(atS 120 (R 5) x), rfl, by rw [lineAnsS, hsw3]; rfl, ht⟩) (fun q hq => absurd hq List.not_mem_nil) dX0_lineAnswer_57
    · refine lv_tableIn (off := 57) (tgt := 58) hx hb dX0_lineAnswer_1 hsw1 hsw2 (by rw [hsw3]; rfl) (by decide) ?_
      refine lv_aload_n hx hb dX0_lineAnswer_58 rfl (lv_at hl 0 rfl) ?_
      refine va_get (D := D) (ci := 0) (v := .ref (a 6)) (C := RX0) (T := TX0) (N := 15) hx hb hts inX0_lineAnswer_0 hown hK.1 hP 0 rfl rfl 7 (by decide) (hts (.fieldLink RX0 28 "ChalkSlate" "linePot" "[I") (by decide +kernel)) (fun _ h9 => h9) rfl dX0_lineAnswer_59 ?_
      refine lv_iload_n hx hb dX0_lineAnswer_62 rfl (lv_at hl 1 rfl) ?_
      refine rd_S (As := [.ref (a 6), .int x]) (rest := []) ⟨hx, hb, hml, hown, hts⟩ (mX0_at l D cy (a 6) 120 (R 6) x (Nat.le_of_ble_eq_true rfl)) (va_cwS 2 hts gX0_lineAnswer_X0_at rfl rfl rfl (by decide +kernel) ⟨Nat.le_of_ble_eq_true rfl, Nat.le_of_ble_eq_true rfl⟩) (hP.sub (ws' := [(a 6, .inl (cy, 120, .inl (R 6)))]) [7] rfl) hK rfl hl.1 rfl (Nat.le_of_ble_eq_true rfl) dX0_lineAnswer_63 (Nat.zero_le _) (Nat.zero_le _) ?_
      exact W.iret (v := atS 120 (R 6) x) hx hb hr (fun t ht hW => ⟨(atS 120 (R 6) x), rfl, by rw [lineAnsS, hsw3]; rfl, ht⟩) (fun q hq => absurd hq List.not_mem_nil) dX0_lineAnswer_66
    · refine lv_tableIn (off := 66) (tgt := 67) hx hb dX0_lineAnswer_1 hsw1 hsw2 (by rw [hsw3]; rfl) (by decide) ?_
      refine lv_aload_n hx hb dX0_lineAnswer_67 rfl (lv_at hl 0 rfl) ?_
      refine va_get (D := D) (ci := 0) (v := .ref (a 7)) (C := RX0) (T := TX0) (N := 15) hx hb hts inX0_lineAnswer_0 hown hK.1 hP 0 rfl rfl 8 (by decide) (hts (.fieldLink RX0 31 "ChalkSlate" "lineAhead" "[I") (by decide +kernel)) (fun _ h9 => h9) rfl dX0_lineAnswer_68 ?_
      refine lv_iload_n hx hb dX0_lineAnswer_71 rfl (lv_at hl 1 rfl) ?_
      refine rd_S (As := [.ref (a 7), .int x]) (rest := []) ⟨hx, hb, hml, hown, hts⟩ (mX0_at l D cy (a 7) 120 (R 7) x (Nat.le_of_ble_eq_true rfl)) (va_cwS 2 hts gX0_lineAnswer_X0_at rfl rfl rfl (by decide +kernel) ⟨Nat.le_of_ble_eq_true rfl, Nat.le_of_ble_eq_true rfl⟩) (hP.sub (ws' := [(a 7, .inl (cy, 120, .inl (R 7)))]) [8] rfl) hK rfl hl.1 rfl (Nat.le_of_ble_eq_true rfl) dX0_lineAnswer_72 (Nat.zero_le _) (Nat.zero_le _) ?_
      exact W.iret (v := atS 120 (R 7) x) hx hb hr (fun t ht hW => ⟨(atS 120 (R 7) x), rfl, by rw [lineAnsS, hsw3]; rfl, ht⟩) (fun q hq => absurd hq List.not_mem_nil) dX0_lineAnswer_75
    · refine lv_tableIn (off := 75) (tgt := 76) hx hb dX0_lineAnswer_1 hsw1 hsw2 (by rw [hsw3]; rfl) (by decide) ?_
      refine lv_aload_n hx hb dX0_lineAnswer_76 rfl (lv_at hl 0 rfl) ?_
      refine va_get (D := D) (ci := 0) (v := .ref (a 8)) (C := RX0) (T := TX0) (N := 15) hx hb hts inX0_lineAnswer_0 hown hK.1 hP 0 rfl rfl 9 (by decide) (hts (.fieldLink RX0 34 "ChalkSlate" "lineBehind" "[I") (by decide +kernel)) (fun _ h9 => h9) rfl dX0_lineAnswer_77 ?_
      refine lv_iload_n hx hb dX0_lineAnswer_80 rfl (lv_at hl 1 rfl) ?_
      refine rd_S (As := [.ref (a 8), .int x]) (rest := []) ⟨hx, hb, hml, hown, hts⟩ (mX0_at l D cy (a 8) 120 (R 8) x (Nat.le_of_ble_eq_true rfl)) (va_cwS 2 hts gX0_lineAnswer_X0_at rfl rfl rfl (by decide +kernel) ⟨Nat.le_of_ble_eq_true rfl, Nat.le_of_ble_eq_true rfl⟩) (hP.sub (ws' := [(a 8, .inl (cy, 120, .inl (R 8)))]) [9] rfl) hK rfl hl.1 rfl (Nat.le_of_ble_eq_true rfl) dX0_lineAnswer_81 (Nat.zero_le _) (Nat.zero_le _) ?_
      exact W.iret (v := atS 120 (R 8) x) hx hb hr (fun t ht hW => ⟨(atS 120 (R 8) x), rfl, by rw [lineAnsS, hsw3]; rfl, ht⟩) (fun q hq => absurd hq List.not_mem_nil) dX0_lineAnswer_84
    · refine lv_tableIn (off := 84) (tgt := 85) hx hb dX0_lineAnswer_1 hsw1 hsw2 (by rw [hsw3]; rfl) (by decide) ?_
      refine lv_aload_n hx hb dX0_lineAnswer_85 rfl (lv_at hl 0 rfl) ?_
      refine va_get (D := D) (ci := 0) (v := .ref (a 9)) (C := RX0) (T := TX0) (N := 15) hx hb hts inX0_lineAnswer_0 hown hK.1 hP 0 rfl rfl 10 (by decide) (hts (.fieldLink RX0 37 "ChalkSlate" "lineTakesBack" "[I") (by decide +kernel)) (fun _ h9 => h9) rfl dX0_lineAnswer_86 ?_
      refine lv_iload_n hx hb dX0_lineAnswer_89 rfl (lv_at hl 1 rfl) ?_
      refine rd_S (As := [.ref (a 9), .int x]) (rest := []) ⟨hx, hb, hml, hown, hts⟩ (mX0_at l D cy (a 9) 120 (R 9) x (Nat.le_of_ble_eq_true rfl)) (va_cwS 2 hts gX0_lineAnswer_X0_at rfl rfl rfl (by decide +kernel) ⟨Nat.le_of_ble_eq_true rfl, Nat.le_of_ble_eq_true rfl⟩) (hP.sub (ws' := [(a 9, .inl (cy, 120, .inl (R 9)))]) [10] rfl) hK rfl hl.1 rfl (Nat.le_of_ble_eq_true rfl) dX0_lineAnswer_90 (Nat.zero_le _) (Nat.zero_le _) ?_
      exact W.iret (v := atS 120 (R 9) x) hx hb hr (fun t ht hW => ⟨(atS 120 (R 9) x), rfl, by rw [lineAnsS, hsw3]; rfl, ht⟩) (fun q hq => absurd hq List.not_mem_nil) dX0_lineAnswer_93

set_option maxRecDepth 100000 in
theorem inX0_countAnswer_0 : ∀ w ∈ wsX00, w ∈ wsX0_countAnswer := by decide +kernel

set_option maxHeartbeats 4000000 in
set_option maxRecDepth 100000 in
theorem mX0_countAnswer (l : Launch) (D : va_G) (cy : ClassId) (h : Nat) (a : Nat → Nat) (R : Nat → Nat → Int32) (nd n dr : Nat) (fl : Int32) (w : Int32) (hnd : nd < 1000000) (hn : n < 1000000) (hdr : dr < 1000000) : RdI l yX0_countAnswer wsX0_countAnswer 5 111 [.ref h, .int w] D cy (cC h a cy R nd n dr fl) (countAnsS R nd n dr fl w) := by
  refine Met.ofW (cc := cX0_countAnswer) (maxL := 2) (ret := (some .int)) (by decide) rfl ?_
  intro p e s m args below meth c s₁ B hml hv
  obtain ⟨rfl, hP, hK⟩ := hv
  have hx := B.exec
  have hb := B.bytes
  have hr := B.returns
  have hts := atoms_spec (ws := wsX0_countAnswer) B.pre
  have hown : s.vm.findClass RX0 = some m.cls := findClass_of_methodNamed B.named
  have hlocks := B.notSynchronized
  have hl := lv_entry ([.ref h, .int w]) (n := 2) (Nat.le_of_ble_eq_true rfl)
  rw [lg_entry_eq]
  generalize (lg_sl ([.ref h, .int w]) ++ List.replicate (2 - (lg_sl ([.ref h, .int w])).length) Slot.unset).toArray = ls at hl ⊢
  have hl : lv_has ls 2 [(0, .ref h), (1, .int w)] := hl
  refine lv_iload_n hx hb dX0_countAnswer_0 rfl (lv_at hl 1 rfl) ?_
  by_cases hsw : w.toInt < 0 ∨ 9 < w.toInt
  · refine lv_tableOut (tgt := 116) hx hb dX0_countAnswer_1 hsw (by decide) ?_
    refine lv_aload_n hx hb dX0_countAnswer_116 rfl (lv_at hl 0 rfl) ?_
    refine va_get (D := D) (ci := 0) (v := .int fl) (C := RX0) (T := TX0) (N := 15) hx hb hts inX0_countAnswer_0 hown hK.1 hP 0 rfl rfl 14 (by decide) (hts (.fieldLink RX0 138 "ChalkSlate" "falls" "I") (by decide +kernel)) (fun _ h9 => h9) rfl dX0_countAnswer_117 ?_
    exact W.iret (v := fl) hx hb hr (fun t ht hW => ⟨fl, rfl, by rw [countAnsS, if_neg (sw_ne hsw (by decide)), if_neg (sw_ne hsw (by decide)), if_neg (sw_ne hsw (by decide)), if_neg (sw_ne hsw (by decide)), if_neg (sw_ne hsw (by decide)), if_neg (sw_ne hsw (by decide)), if_neg (sw_ne hsw (by decide)), if_neg (sw_ne hsw (by decide)), if_neg (sw_ne hsw (by decide)), if_neg (sw_ne hsw (by decide))], ht⟩) (fun q hq => absurd hq List.not_mem_nil) dX0_countAnswer_120
  · obtain ⟨hsw1, hsw2⟩ := not_or.mp hsw
    have hsw3 : w = 0 ∨ w = 1 ∨ w = 2 ∨ w = 3 ∨ w = 4 ∨ w = 5 ∨ w = 6 ∨ w = 7 ∨ w = 8 ∨ w = 9 := sw_9 hsw1 hsw2
    rcases hsw3 with hsw3 | hsw3 | hsw3 | hsw3 | hsw3 | hsw3 | hsw3 | hsw3 | hsw3 | hsw3
    · refine lv_tableIn (off := 55) (tgt := 56) hx hb dX0_countAnswer_1 hsw1 hsw2 (by rw [hsw3]; rfl) (by decide) ?_
      refine lv_aload_n hx hb dX0_countAnswer_56 rfl (lv_at hl 0 rfl) ?_
      refine va_get (D := D) (ci := 0) (v := .int (nI n)) (C := RX0) (T := TX0) (N := 15) hx hb hts inX0_countAnswer_0 hown hK.1 hP 0 rfl rfl 12 (by decide) (hts (.fieldLink RX0 112 "ChalkSlate" "lines" "I") (by decide +kernel)) (fun _ h9 => h9) rfl dX0_countAnswer_57 ?_
      exact W.iret (v := nI n) hx hb hr (fun t ht hW => ⟨(nI n), rfl, by rw [countAnsS, hsw3]; rfl, ht⟩) (fun q hq => absurd hq List.not_mem_nil) dX0_countAnswer_60
    · refine lv_tableIn (off := 60) (tgt := 61) hx hb dX0_countAnswer_1 hsw1 hsw2 (by rw [hsw3]; rfl) (by decide) ?_
      refine lv_aload_n hx hb dX0_countAnswer_61 rfl (lv_at hl 0 rfl) ?_
      refine va_get (D := D) (ci := 0) (v := .int (nI dr)) (C := RX0) (T := TX0) (N := 15) hx hb hts inX0_countAnswer_0 hown hK.1 hP 0 rfl rfl 13 (by decide) (hts (.fieldLink RX0 166 "ChalkSlate" "dryLines" "I") (by decide +kernel)) (fun _ h9 => h9) rfl dX0_countAnswer_62 ?_
      exact W.iret (v := nI dr) hx hb hr (fun t ht hW => ⟨(nI dr), rfl, by rw [countAnsS, hsw3]; rfl, ht⟩) (fun q hq => absurd hq List.not_mem_nil) dX0_countAnswer_65
    · refine lv_tableIn (off := 65) (tgt := 66) hx hb dX0_countAnswer_1 hsw1 hsw2 (by rw [hsw3]; rfl) (by decide) ?_
      refine lv_aload_n hx hb dX0_countAnswer_66 rfl (lv_at hl 0 rfl) ?_
      refine va_get (D := D) (ci := 0) (v := .int (nI nd)) (C := RX0) (T := TX0) (N := 15) hx hb hts inX0_countAnswer_0 hown hK.1 hP 0 rfl rfl 4 (by decide) (hts (.fieldLink RX0 49 "ChalkSlate" "dishes" "I") (by decide +kernel)) (fun _ h9 => h9) rfl dX0_countAnswer_67 ?_
      exact W.iret (v := nI nd) hx hb hr (fun t ht hW => ⟨(nI nd), rfl, by rw [countAnsS, hsw3]; rfl, ht⟩) (fun q hq => absurd hq List.not_mem_nil) dX0_countAnswer_70
    · refine lv_tableIn (off := 70) (tgt := 71) hx hb dX0_countAnswer_1 hsw1 hsw2 (by rw [hsw3]; rfl) (by decide) ?_
      refine lv_aload_n hx hb dX0_countAnswer_71 rfl (lv_at hl 0 rfl) ?_
      refine lv_iconst (v := 0) hx hb dX0_countAnswer_72 (by decide) ?_
      refine rd_V (q := (RX0, TX0, 15)) (ci := 0) (q0 := 0) (As := [.int 0]) (rest := []) ⟨hx, hb, hml, hown, hts⟩ (mX0_dishesThatAre l D cy h a R nd n dr fl 0 (by omega) (by omega) (by omega) ) (cwV 1 hts gX0_countAnswer_X0_dishesThatAre rfl rfl rfl (by decide +kernel) ⟨Nat.le_of_ble_eq_true rfl, Nat.le_of_ble_eq_true rfl⟩) hP hK rfl rfl rfl hl.1 rfl (Nat.le_of_ble_eq_true rfl) dX0_countAnswer_73 (Nat.zero_le _) (Nat.zero_le _) ?_
      exact W.iret (v := countS 20 (R 3) 0 nd) hx hb hr (fun t ht hW => ⟨(countS 20 (R 3) 0 nd), rfl, by rw [countAnsS, hsw3]; rfl, ht⟩) (fun q hq => absurd hq List.not_mem_nil) dX0_countAnswer_76
    · refine lv_tableIn (off := 76) (tgt := 77) hx hb dX0_countAnswer_1 hsw1 hsw2 (by rw [hsw3]; rfl) (by decide) ?_
      refine lv_aload_n hx hb dX0_countAnswer_77 rfl (lv_at hl 0 rfl) ?_
      refine lv_iconst (v := 1) hx hb dX0_countAnswer_78 (by decide) ?_
      refine rd_V (q := (RX0, TX0, 15)) (ci := 0) (q0 := 0) (As := [.int 1]) (rest := []) ⟨hx, hb, hml, hown, hts⟩ (mX0_dishesThatAre l D cy h a R nd n dr fl 1 (by omega) (by omega) (by omega) ) (cwV 1 hts gX0_countAnswer_X0_dishesThatAre rfl rfl rfl (by decide +kernel) ⟨Nat.le_of_ble_eq_true rfl, Nat.le_of_ble_eq_true rfl⟩) hP hK rfl rfl rfl hl.1 rfl (Nat.le_of_ble_eq_true rfl) dX0_countAnswer_79 (Nat.zero_le _) (Nat.zero_le _) ?_
      exact W.iret (v := countS 20 (R 3) 1 nd) hx hb hr (fun t ht hW => ⟨(countS 20 (R 3) 1 nd), rfl, by rw [countAnsS, hsw3]; rfl, ht⟩) (fun q hq => absurd hq List.not_mem_nil) dX0_countAnswer_82
    · refine lv_tableIn (off := 82) (tgt := 83) hx hb dX0_countAnswer_1 hsw1 hsw2 (by rw [hsw3]; rfl) (by decide) ?_
      refine lv_aload_n hx hb dX0_countAnswer_83 rfl (lv_at hl 0 rfl) ?_
      refine lv_iconst (v := 2) hx hb dX0_countAnswer_84 (by decide) ?_
      refine rd_V (q := (RX0, TX0, 15)) (ci := 0) (q0 := 0) (As := [.int 2]) (rest := []) ⟨hx, hb, hml, hown, hts⟩ (mX0_dishesThatAre l D cy h a R nd n dr fl 2 (by omega) (by omega) (by omega) ) (cwV 1 hts gX0_countAnswer_X0_dishesThatAre rfl rfl rfl (by decide +kernel) ⟨Nat.le_of_ble_eq_true rfl, Nat.le_of_ble_eq_true rfl⟩) hP hK rfl rfl rfl hl.1 rfl (Nat.le_of_ble_eq_true rfl) dX0_countAnswer_85 (Nat.zero_le _) (Nat.zero_le _) ?_
      exact W.iret (v := countS 20 (R 3) 2 nd) hx hb hr (fun t ht hW => ⟨(countS 20 (R 3) 2 nd), rfl, by rw [countAnsS, hsw3]; rfl, ht⟩) (fun q hq => absurd hq List.not_mem_nil) dX0_countAnswer_88
    · refine lv_tableIn (off := 88) (tgt := 89) hx hb dX0_countAnswer_1 hsw1 hsw2 (by rw [hsw3]; rfl) (by decide) ?_
      refine lv_aload_n hx hb dX0_countAnswer_89 rfl (lv_at hl 0 rfl) ?_
      refine lv_iconst (v := 3) hx hb dX0_countAnswer_90 (by decide) ?_
      refine rd_V (q := (RX0, TX0, 15)) (ci := 0) (q0 := 0) (As := [.int 3]) (rest := []) ⟨hx, hb, hml, hown, hts⟩ (mX0_dishesThatAre l D cy h a R nd n dr fl 3 (by omega) (by omega) (by omega) ) (cwV 1 hts gX0_countAnswer_X0_dishesThatAre rfl rfl rfl (by decide +kernel) ⟨Nat.le_of_ble_eq_true rfl, Nat.le_of_ble_eq_true rfl⟩) hP hK rfl rfl rfl hl.1 rfl (Nat.le_of_ble_eq_true rfl) dX0_countAnswer_91 (Nat.zero_le _) (Nat.zero_le _) ?_
      exact W.iret (v := countS 20 (R 3) 3 nd) hx hb hr (fun t ht hW => ⟨(countS 20 (R 3) 3 nd), rfl, by rw [countAnsS, hsw3]; rfl, ht⟩) (fun q hq => absurd hq List.not_mem_nil) dX0_countAnswer_94
    · refine lv_tableIn (off := 94) (tgt := 95) hx hb dX0_countAnswer_1 hsw1 hsw2 (by rw [hsw3]; rfl) (by decide) ?_
      refine lv_aload_n hx hb dX0_countAnswer_95 rfl (lv_at hl 0 rfl) ?_
      refine rd_V (q := (RX0, TX0, 15)) (ci := 0) (q0 := 0) (As := []) (rest := []) ⟨hx, hb, hml, hown, hts⟩ (mX0_roomLeft l D cy h a R nd n dr fl  (by omega) (by omega) (by omega) ) (cwV 0 hts gX0_countAnswer_X0_roomLeft rfl rfl rfl (by decide +kernel) ⟨Nat.le_of_ble_eq_true rfl, Nat.le_of_ble_eq_true rfl⟩) hP hK rfl rfl rfl hl.1 rfl (Nat.le_of_ble_eq_true rfl) dX0_countAnswer_96 (Nat.zero_le _) (Nat.zero_le _) ?_
      exact W.iret (v := roomS R n nd) hx hb hr (fun t ht hW => ⟨(roomS R n nd), rfl, by rw [countAnsS, hsw3]; rfl, ht⟩) (fun q hq => absurd hq List.not_mem_nil) dX0_countAnswer_99
    · refine lv_tableIn (off := 99) (tgt := 100) hx hb dX0_countAnswer_1 hsw1 hsw2 (by rw [hsw3]; rfl) (by decide) ?_
      refine lv_aload_n hx hb dX0_countAnswer_100 rfl (lv_at hl 0 rfl) ?_
      refine va_get (D := D) (ci := 0) (v := .ref (a 0)) (C := RX0) (T := TX0) (N := 15) hx hb hts inX0_countAnswer_0 hown hK.1 hP 0 rfl rfl 0 (by decide) (hts (.fieldLink RX0 9 "ChalkSlate" "stove" "[I") (by decide +kernel)) (fun _ h9 => h9) rfl dX0_countAnswer_101 ?_
      refine rd_S (As := [.ref (a 0)]) (rest := []) ⟨hx, hb, hml, hown, hts⟩ (mX0_sumOf l D cy (a 0) 8 (R 0) (Nat.le_of_ble_eq_true rfl)) (va_cwS 1 hts gX0_countAnswer_X0_sumOf rfl rfl rfl (by decide +kernel) ⟨Nat.le_of_ble_eq_true rfl, Nat.le_of_ble_eq_true rfl⟩) (hP.sub (ws' := [(a 0, .inl (cy, 8, .inl (R 0)))]) [1] rfl) hK rfl hl.1 rfl (Nat.le_of_ble_eq_true rfl) dX0_countAnswer_104 (Nat.zero_le _) (Nat.zero_le _) ?_
      exact W.iret (v := sumS (R 0) 8) hx hb hr (fun t ht hW => ⟨(sumS (R 0) 8), rfl, by rw [countAnsS, hsw3]; rfl, ht⟩) (fun q hq => absurd hq List.not_mem_nil) dX0_countAnswer_107
    · refine lv_tableIn (off := 107) (tgt := 108) hx hb dX0_countAnswer_1 hsw1 hsw2 (by rw [hsw3]; rfl) (by decide) ?_
      refine lv_aload_n hx hb dX0_countAnswer_108 rfl (lv_at hl 0 rfl) ?_
      refine va_get (D := D) (ci := 0) (v := .ref (a 1)) (C := RX0) (T := TX0) (N := 15) hx hb hts inX0_countAnswer_0 hown hK.1 hP 0 rfl rfl 1 (by decide) (hts (.fieldLink RX0 13 "ChalkSlate" "shelf" "[I") (by decide +kernel)) (fun _ h9 => h9) rfl dX0_countAnswer_109 ?_
      refine rd_S (As := [.ref (a 1)]) (rest := []) ⟨hx, hb, hml, hown, hts⟩ (mX0_sumOf l D cy (a 1) 8 (R 1) (Nat.le_of_ble_eq_true rfl)) (va_cwS 1 hts gX0_countAnswer_X0_sumOf rfl rfl rfl (by decide +kernel) ⟨Nat.le_of_ble_eq_true rfl, Nat.le_of_ble_eq_true rfl⟩) (hP.sub (ws' := [(a 1, .inl (cy, 8, .inl (R 1)))]) [2] rfl) hK rfl hl.1 rfl (Nat.le_of_ble_eq_true rfl) dX0_countAnswer_112 (Nat.zero_le _) (Nat.zero_le _) ?_
      exact W.iret (v := sumS (R 1) 8) hx hb hr (fun t ht hW => ⟨(sumS (R 1) 8), rfl, by rw [countAnsS, hsw3]; rfl, ht⟩) (fun q hq => absurd hq List.not_mem_nil) dX0_countAnswer_115
