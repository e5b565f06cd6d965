set_option maxHeartbeats 4000000 in
set_option maxRecDepth 100000 in
theorem mL_begin_ok (l : Launch) (D : va_G) (cy ly : ClassId) (h : Nat) (a : Nat → Nat) (R : Nat → Nat → Int32) (nd n dr : Nat) (fl : Int32) (o : Nat) (g : Nat → Int64)  (hnd : nd < 1000000) (hn : n < 1000000) (hdr : dr < 1000000) (hout : beginX R n nd = 0) (hb1 : nd < 900000) (hb2 : n < 900000) (sz : Nat) : LhI l yL_begin wsL_begin 6 132 [.ref h, .ref o] D cy ly (cC h a cy R nd n dr fl ++ [(o, .inl (ly, 1, .inr (.inl g)))]) (cC h a cy (chalkR (stepR R 3 20 (nI nd) 0) n (nI nd) 0) (nd + 1) (n + 1) dr fl ++ [(o, .inl (ly, 1, .inr (.inl (vp_updL g 0 (nI nd).toInt64))))]) sz 0 := by
  refine va_MetW (cc := cL_begin) (maxL := 3) (ret := some .int) (hh := [(0, 8, 11, 13)]) (by decide) rfl ?_
  intro p e s m args below meth c s₁ B hml hv
  obtain ⟨rfl, hsz, hP, hK, hD0, hX, hN⟩ := hv
  have hx := B.exec
  have hb := B.bytes
  have hr := B.returns
  have hts := atoms_spec (ws := wsL_begin) B.pre
  have hown : s.vm.findClass RL = some m.cls := findClass_of_methodNamed B.named
  have hlocks := B.notSynchronized
  have htab := vx_table (x := yL_begin) B (hts (.codeWith yL_begin cL_begin 3 (some .int) [(0, 8, 11, 13)]) (by decide +kernel))
  subst hsz
  have hD := hD0.self (sz := s.heap.size)
  generalize hAe : va_A (cC h a cy R nd n dr fl ++ [(o, .inl (ly, 1, .inr (.inl g)))]) s.heap.size = A at hD hX ⊢
  have hA : ∀ q : Nat, s.heap.size ≤ q → A q := fun q h => by rw [← hAe]; exact Or.inr h
  have hS : va_S A s.heap s.heap [] := va_S.rf
  have hl := lv_entry ([.ref h, .ref o]) (n := 3) (Nat.le_of_ble_eq_true rfl)
  rw [lg_entry_eq]
  generalize (lg_sl ([.ref h, .ref o]) ++ List.replicate (3 - (lg_sl ([.ref h, .ref o])).length) Slot.unset).toArray = ls at hl ⊢
  have hl : lv_has ls 3 [(0, .ref h), (1, .ref o)] := hl
  refine lv_aload_n hx hb dL_begin_0 rfl (lv_at hl 1 rfl) ?_
  refine lv_iconst (v := 0) hx hb dL_begin_1 (by decide) ?_
  refine lv_aload_n hx hb dL_begin_2 rfl (lv_at hl 0 rfl) ?_
  refine wr_VI (q := (RX0, TX0, 15)) (ci := 0) (q0 := 0) (ws0' := cC h a cy (chalkR (stepR R 3 20 (nI nd) 0) n (nI nd) 0) (nd + 1) (n + 1) dr fl ++ [(o, .inl (ly, 1, .inr (.inl g)))]) (As := []) (rest := [.int 0, .ref o]) ⟨hx, hb, hml, hown, hts⟩ (fun sz => mX0_begin_ok l D cy h a R nd n dr fl  hnd hn hdr hout hb1 hb2 sz) (cwV 0 hts gL_begin_X0_begin rfl rfl rfl (by decide +kernel) ⟨Nat.le_of_ble_eq_true rfl, Nat.le_of_ble_eq_true rfl⟩) hP hK.kk hD hS hA [0, 1, 2, 3, 4, 5, 6, 7, 8, 9, 10, 11] [12] [1, 2, 3, 4, 5, 6, 7, 8, 9, 10, 11, 12, 0] rfl rfl rfl (by decide) rfl rfl rfl rfl rfl rfl rfl hl.1 rfl (Nat.le_of_ble_eq_true rfl) dL_begin_3 (Nat.zero_le _) (Nat.zero_le _) (fun H locs hP hD hS => ?_)
  refine lv_i2l (v := (nI nd).toInt64) hx hb dL_begin_6 rfl ?_
  refine va_last hx hb hK.1 hP hD hS 12 1 rfl rfl (vp_in_nI (n := 0) (by omega) (by omega)) dL_begin_7 (fun H locs hP hD hS => ?_)
  have hP : va_P D vwCl (cC h a cy (chalkR (stepR R 3 20 (nI nd) 0) n (nI nd) 0) (nd + 1) (n + 1) dr fl ++ [(o, .inl (ly, 1, .inr (.inl (vp_updL g 0 (nI nd).toInt64))))]) H := hP
  refine lv_goto (tgt := 14) hx hb dL_begin_8 (by decide) ?_
  refine lv_iconst (v := 0) hx hb dL_begin_14 (by decide) ?_
  refine W.widen (k := 1) (n := 6) (Nat.le_of_ble_eq_true rfl) (Nat.le_of_ble_eq_true rfl) ?_
  exact W.iret (v := 0) hx hb hr (fun t ht hW => ⟨⟨0, (), rfl, rfl, by show va_P D vwCl _ t.heap; rw [ht]; exact hP⟩, hS.F ht⟩) hS.2.2 dL_begin_15

set_option maxHeartbeats 4000000 in
set_option maxRecDepth 100000 in
theorem mL_begin_t1 (l : Launch) (hfl : l.stackTraces = false) (D : va_G) (cy ly : ClassId) (h : Nat) (a : Nat → Nat) (R : Nat → Nat → Int32) (nd n dr : Nat) (fl : Int32) (o : Nat) (g : Nat → Int64)  (hnd : nd < 1000000) (hn : n < 1000000) (hdr : dr < 1000000) (hout : beginX R n nd = 1) (sz : Nat) : LhI l yL_begin wsL_begin 7 132 [.ref h, .ref o] D cy ly (cC h a cy R nd n dr fl ++ [(o, .inl (ly, 1, .inr (.inl g)))]) (cC h a cy R nd n dr fl ++ [(o, .inl (ly, 1, .inr (.inl g)))]) sz 1 := by
  refine va_MetW (cc := cL_begin) (maxL := 3) (ret := some .int) (hh := [(0, 8, 11, 13)]) (by decide) rfl ?_
  intro p e s m args below meth c s₁ B hml hv
  obtain ⟨rfl, hsz, hP, hK, hD0, hX, hN⟩ := hv
  have hx := B.exec
  have hb := B.bytes
  have hr := B.returns
  have hts := atoms_spec (ws := wsL_begin) B.pre
  have hown : s.vm.findClass RL = some m.cls := findClass_of_methodNamed B.named
  have hlocks := B.notSynchronized
  have htab := vx_table (x := yL_begin) B (hts (.codeWith yL_begin cL_begin 3 (some .int) [(0, 8, 11, 13)]) (by decide +kernel))
  subst hsz
  have hD := hD0.self (sz := s.heap.size)
  generalize hAe : va_A (cC h a cy R nd n dr fl ++ [(o, .inl (ly, 1, .inr (.inl g)))]) s.heap.size = A at hD hX ⊢
  have hA : ∀ q : Nat, s.heap.size ≤ q → A q := fun q h => by rw [← hAe]; exact Or.inr h
  have hS : va_S A s.heap s.heap [] := va_S.rf
  have hl := lv_entry ([.ref h, .ref o]) (n := 3) (Nat.le_of_ble_eq_true rfl)
  rw [lg_entry_eq]
  generalize (lg_sl ([.ref h, .ref o]) ++ List.replicate (3 - (lg_sl ([.ref h, .ref o])).length) Slot.unset).toArray = ls at hl ⊢
  have hl : lv_has ls 3 [(0, .ref h), (1, .ref o)] := hl
  refine lv_aload_n hx hb dL_begin_0 rfl (lv_at hl 1 rfl) ?_
  refine lv_iconst (v := 0) hx hb dL_begin_1 (by decide) ?_
  refine lv_aload_n hx hb dL_begin_2 rfl (lv_at hl 0 rfl) ?_
  refine th_V (q := (RX0, TX0, 15)) (ci := 0) (q0 := 0) (As := []) (rest := [.int 0, .ref o]) ⟨hx, hb, hml, hown, hts⟩ (fun sz => mX0_begin_t1 l hfl D cy h a R nd n dr fl  hnd hn hdr hout sz) (cwV 0 hts gL_begin_X0_begin rfl rfl rfl (by decide +kernel) ⟨Nat.le_of_ble_eq_true rfl, Nat.le_of_ble_eq_true rfl⟩) hP hK.kk hD hS hA hX [0, 1, 2, 3, 4, 5, 6, 7, 8, 9, 10, 11] [12] [1, 2, 3, 4, 5, 6, 7, 8, 9, 10, 11, 12, 0] rfl rfl rfl (by decide) rfl rfl rfl rfl rfl hl.1 rfl (Nat.le_of_ble_eq_true rfl) dL_begin_3 (Nat.le_of_ble_eq_true rfl) (Nat.le_of_ble_eq_true rfl) (fun ce q9 H locs hP hS hcell hcv hcl => ?_)
  refine vx_catch hown [] ⟨0, 8, 11, 13⟩ [] (by rw [htab]; rfl) (fun z hz => absurd hz List.not_mem_nil) rfl (by decide) (hts (.classLink RL 13 xISE) (by decide +kernel)) (va_Nw.use rfl hX.2.2.1) hcell hcv hcl ?_
  refine lv_astore_n (lv' := [(2, .ref q9), (0, .ref h), (1, .ref o)]) hx hb dL_begin_11 rfl hl (by decide) rfl (fun ls hl => ?_)
  refine lv_iconst (v := 1) hx hb dL_begin_12 (by decide) ?_
  exact W.iret (v := 1) hx hb hr (fun t ht hW => ⟨⟨1, (), rfl, rfl, by show va_P D vwCl _ t.heap; rw [ht]; exact hP⟩, hS.F ht⟩) hS.2.2 dL_begin_13

set_option maxHeartbeats 4000000 in
set_option maxRecDepth 100000 in
theorem mL_cook_ok (l : Launch) (D : va_G) (cy ly : ClassId) (h : Nat) (a : Nat → Nat) (R : Nat → Nat → Int32) (nd n dr : Nat) (fl : Int32) (o : Nat) (g : Nat → Int64) (d u x : Int32) (hnd : nd < 1000000) (hn : n < 1000000) (hdr : dr < 1000000) (hout : cookX R n nd d u x = 0) (sz : Nat) : LhI l yL_cook wsL_cook 6 136 [.ref h, .int d, .int u, .int x, .ref o] D cy ly (cC h a cy R nd n dr fl ++ [(o, .inl (ly, 1, .inr (.inl g)))]) (cC h a cy (spoonsR R n d 1 u x) nd (n + 1) dr fl ++ [(o, .inl (ly, 1, .inr (.inl (vp_updL g 0 (atS 8 (R 0) u).toInt64))))]) sz 0 := by
  refine va_MetW (cc := cL_cook) (maxL := 6) (ret := some .int) (hh := [(0, 12, 15, 19), (0, 12, 19, 21), (0, 12, 23, 13)]) (by decide) rfl ?_
  intro p e s m args below meth c s₁ B hml hv
  obtain ⟨rfl, hsz, hP, hK, hD0, hX, hN⟩ := hv
  have hx := B.exec
  have hb := B.bytes
  have hr := B.returns
  have hts := atoms_spec (ws := wsL_cook) B.pre
  have hown : s.vm.findClass RL = some m.cls := findClass_of_methodNamed B.named
  have hlocks := B.notSynchronized
  have htab := vx_table (x := yL_cook) B (hts (.codeWith yL_cook cL_cook 6 (some .int) [(0, 12, 15, 19), (0, 12, 19, 21), (0, 12, 23, 13)]) (by decide +kernel))
  subst hsz
  have hD := hD0.self (sz := s.heap.size)
  generalize hAe : va_A (cC h a cy R nd n dr fl ++ [(o, .inl (ly, 1, .inr (.inl g)))]) s.heap.size = A at hD hX ⊢
  have hA : ∀ q : Nat, s.heap.size ≤ q → A q := fun q h => by rw [← hAe]; exact Or.inr h
  have hS : va_S A s.heap s.heap [] := va_S.rf
  have hl := lv_entry ([.ref h, .int d, .int u, .int x, .ref o]) (n := 6) (Nat.le_of_ble_eq_true rfl)
  rw [lg_entry_eq]
  generalize (lg_sl ([.ref h, .int d, .int u, .int x, .ref o]) ++ List.replicate (6 - (lg_sl ([.ref h, .int d, .int u, .int x, .ref o])).length) Slot.unset).toArray = ls at hl ⊢
  have hl : lv_has ls 6 [(0, .ref h), (1, .int d), (2, .int u), (3, .int x), (4, .ref o)] := hl
  refine lv_aload hx hb dL_cook_0 (lv_at hl 4 rfl) ?_
  refine lv_iconst (v := 0) hx hb dL_cook_2 (by decide) ?_
  refine lv_aload_n hx hb dL_cook_3 rfl (lv_at hl 0 rfl) ?_
  refine lv_iload_n hx hb dL_cook_4 rfl (lv_at hl 1 rfl) ?_
  refine lv_iload_n hx hb dL_cook_5 rfl (lv_at hl 2 rfl) ?_
  refine lv_iload_n hx hb dL_cook_6 rfl (lv_at hl 3 rfl) ?_
  refine wr_VI (q := (RX0, TX0, 15)) (ci := 0) (q0 := 0) (ws0' := cC h a cy (spoonsR R n d 1 u x) nd (n + 1) dr fl ++ [(o, .inl (ly, 1, .inr (.inl g)))]) (As := [.int d, .int u, .int x]) (rest := [.int 0, .ref o]) ⟨hx, hb, hml, hown, hts⟩ (fun sz => mX0_cook_ok l D cy h a R nd n dr fl d u x hnd hn hdr hout  sz) (cwV 3 hts gL_cook_X0_cook rfl rfl rfl (by decide +kernel) ⟨Nat.le_of_ble_eq_true rfl, Nat.le_of_ble_eq_true rfl⟩) hP hK.kk hD hS hA [0, 1, 2, 3, 4, 5, 6, 7, 8, 9, 10, 11] [12] [1, 2, 3, 4, 5, 6, 7, 8, 9, 10, 11, 12, 0] rfl rfl rfl (by decide) rfl rfl rfl rfl rfl rfl rfl hl.1 rfl (Nat.le_of_ble_eq_true rfl) dL_cook_7 (Nat.zero_le _) (Nat.zero_le _) (fun H locs hP hD hS => ?_)
  refine lv_i2l (v := (atS 8 (R 0) u).toInt64) hx hb dL_cook_10 rfl ?_
  refine va_last hx hb hK.1 hP hD hS 12 1 rfl rfl (vp_in_nI (n := 0) (by omega) (by omega)) dL_cook_11 (fun H locs hP hD hS => ?_)
  have hP : va_P D vwCl (cC h a cy (spoonsR R n d 1 u x) nd (n + 1) dr fl ++ [(o, .inl (ly, 1, .inr (.inl (vp_updL g 0 (atS 8 (R 0) u).toInt64))))]) H := hP
  refine lv_goto (tgt := 27) hx hb dL_cook_12 (by decide) ?_
  refine lv_iconst (v := 0) hx hb dL_cook_27 (by decide) ?_
  refine W.widen (k := 1) (n := 6) (Nat.le_of_ble_eq_true rfl) (Nat.le_of_ble_eq_true rfl) ?_
  exact W.iret (v := 0) hx hb hr (fun t ht hW => ⟨⟨0, (), rfl, rfl, by show va_P D vwCl _ t.heap; rw [ht]; exact hP⟩, hS.F ht⟩) hS.2.2 dL_cook_28

set_option maxHeartbeats 4000000 in
set_option maxRecDepth 100000 in
theorem mL_cook_t1 (l : Launch) (hfl : l.stackTraces = false) (D : va_G) (cy ly : ClassId) (h : Nat) (a : Nat → Nat) (R : Nat → Nat → Int32) (nd n dr : Nat) (fl : Int32) (o : Nat) (g : Nat → Int64) (d u x : Int32) (hnd : nd < 1000000) (hn : n < 1000000) (hdr : dr < 1000000) (hout : cookX R n nd d u x = 1) (sz : Nat) : LhI l yL_cook wsL_cook 7 136 [.ref h, .int d, .int u, .int x, .ref o] D cy ly (cC h a cy R nd n dr fl ++ [(o, .inl (ly, 1, .inr (.inl g)))]) (cC h a cy R nd n dr fl ++ [(o, .inl (ly, 1, .inr (.inl g)))]) sz 1 := by
  refine va_MetW (cc := cL_cook) (maxL := 6) (ret := some .int) (hh := [(0, 12, 15, 19), (0, 12, 19, 21), (0, 12, 23, 13)]) (by decide) rfl ?_
  intro p e s m args below meth c s₁ B hml hv
  obtain ⟨rfl, hsz, hP, hK, hD0, hX, hN⟩ := hv
  have hx := B.exec
  have hb := B.bytes
  have hr := B.returns
  have hts := atoms_spec (ws := wsL_cook) B.pre
  have hown : s.vm.findClass RL = some m.cls := findClass_of_methodNamed B.named
  have hlocks := B.notSynchronized
  have htab := vx_table (x := yL_cook) B (hts (.codeWith yL_cook cL_cook 6 (some .int) [(0, 12, 15, 19), (0, 12, 19, 21), (0, 12, 23, 13)]) (by decide +kernel))
  subst hsz
  have hD := hD0.self (sz := s.heap.size)
  generalize hAe : va_A (cC h a cy R nd n dr fl ++ [(o, .inl (ly, 1, .inr (.inl g)))]) s.heap.size = A at hD hX ⊢
  have hA : ∀ q : Nat, s.heap.size ≤ q → A q := fun q h => by rw [← hAe]; exact Or.inr h
  have hS : va_S A s.heap s.heap [] := va_S.rf
  have hl := lv_entry ([.ref h, .int d, .int u, .int x, .ref o]) (n := 6) (Nat.le_of_ble_eq_true rfl)
  rw [lg_entry_eq]
  generalize (lg_sl ([.ref h, .int d, .int u, .int x, .ref o]) ++ List.replicate (6 - (lg_sl ([.ref h, .int d, .int u, .int x, .ref o])).length) Slot.unset).toArray = ls at hl ⊢
  have hl : lv_has ls 6 [(0, .ref h), (1, .int d), (2, .int u), (3, .int x), (4, .ref o)] := hl
  refine lv_aload hx hb dL_cook_0 (lv_at hl 4 rfl) ?_
  refine lv_iconst (v := 0) hx hb dL_cook_2 (by decide) ?_
  refine lv_aload_n hx hb dL_cook_3 rfl (lv_at hl 0 rfl) ?_
  refine lv_iload_n hx hb dL_cook_4 rfl (lv_at hl 1 rfl) ?_
  refine lv_iload_n hx hb dL_cook_5 rfl (lv_at hl 2 rfl) ?_
  refine lv_iload_n hx hb dL_cook_6 rfl (lv_at hl 3 rfl) ?_
  refine th_V (q := (RX0, TX0, 15)) (ci := 0) (q0 := 0) (As := [.int d, .int u, .int x]) (rest := [.int 0, .ref o]) ⟨hx, hb, hml, hown, hts⟩ (fun sz => mX0_cook_t1 l hfl D cy h a R nd n dr fl d u x hnd hn hdr hout sz) (cwV 3 hts gL_cook_X0_cook rfl rfl rfl (by decide +kernel) ⟨Nat.le_of_ble_eq_true rfl, Nat.le_of_ble_eq_true rfl⟩) hP hK.kk hD hS hA hX [0, 1, 2, 3, 4, 5, 6, 7, 8, 9, 10, 11] [12] [1, 2, 3, 4, 5, 6, 7, 8, 9, 10, 11, 12, 0] rfl rfl rfl (by decide) rfl rfl rfl rfl rfl hl.1 rfl (Nat.le_of_ble_eq_true rfl) dL_cook_7 (Nat.le_of_ble_eq_true rfl) (Nat.le_of_ble_eq_true rfl) (fun ce q9 H locs hP hS hcell hcv hcl => ?_)
  refine vx_catch hown [] ⟨0, 12, 15, 19⟩ [⟨0, 12, 19, 21⟩, ⟨0, 12, 23, 13⟩] (by rw [htab]; rfl) (fun z hz => absurd hz List.not_mem_nil) rfl (by decide) (hts (.classLink RL 19 xIOB) (by decide +kernel)) (va_Nw.use rfl hX.2.2.2.2.1) hcell hcv hcl ?_
  refine lv_astore (lv' := [(5, .ref q9), (0, .ref h), (1, .int d), (2, .int u), (3, .int x), (4, .ref o)]) hx hb dL_cook_15 hl (by decide) rfl (fun ls hl => ?_)
  refine lv_iconst (v := 1) hx hb dL_cook_17 (by decide) ?_
  exact W.iret (v := 1) hx hb hr (fun t ht hW => ⟨⟨1, (), rfl, rfl, by show va_P D vwCl _ t.heap; rw [ht]; exact hP⟩, hS.F ht⟩) hS.2.2 dL_cook_18

set_option maxHeartbeats 4000000 in
set_option maxRecDepth 100000 in
theorem mL_cook_t2 (l : Launch) (hfl : l.stackTraces = false) (D : va_G) (cy ly : ClassId) (h : Nat) (a : Nat → Nat) (R : Nat → Nat → Int32) (nd n dr : Nat) (fl : Int32) (o : Nat) (g : Nat → Int64) (d u x : Int32) (hnd : nd < 1000000) (hn : n < 1000000) (hdr : dr < 1000000) (hout : cookX R n nd d u x = 2) (sz : Nat) : LhI l yL_cook wsL_cook 7 136 [.ref h, .int d, .int u, .int x, .ref o] D cy ly (cC h a cy R nd n dr fl ++ [(o, .inl (ly, 1, .inr (.inl g)))]) (cC h a cy R nd n dr fl ++ [(o, .inl (ly, 1, .inr (.inl g)))]) sz 2 := by
  refine va_MetW (cc := cL_cook) (maxL := 6) (ret := some .int) (hh := [(0, 12, 15, 19), (0, 12, 19, 21), (0, 12, 23, 13)]) (by decide) rfl ?_
  intro p e s m args below meth c s₁ B hml hv
  obtain ⟨rfl, hsz, hP, hK, hD0, hX, hN⟩ := hv
  have hx := B.exec
  have hb := B.bytes
  have hr := B.returns
  have hts := atoms_spec (ws := wsL_cook) B.pre
  have hown : s.vm.findClass RL = some m.cls := findClass_of_methodNamed B.named
  have hlocks := B.notSynchronized
  have htab := vx_table (x := yL_cook) B (hts (.codeWith yL_cook cL_cook 6 (some .int) [(0, 12, 15, 19), (0, 12, 19, 21), (0, 12, 23, 13)]) (by decide +kernel))
  subst hsz
  have hD := hD0.self (sz := s.heap.size)
  generalize hAe : va_A (cC h a cy R nd n dr fl ++ [(o, .inl (ly, 1, .inr (.inl g)))]) s.heap.size = A at hD hX ⊢
  have hA : ∀ q : Nat, s.heap.size ≤ q → A q := fun q h => by rw [← hAe]; exact Or.inr h
  have hS : va_S A s.heap s.heap [] := va_S.rf
  have hl := lv_entry ([.ref h, .int d, .int u, .int x, .ref o]) (n := 6) (Nat.le_of_ble_eq_true rfl)
  rw [lg_entry_eq]
  generalize (lg_sl ([.ref h, .int d, .int u, .int x, .ref o]) ++ List.replicate (6 - (lg_sl ([.ref h, .int d, .int u, .int x, .ref o])).length) Slot.unset).toArray = ls at hl ⊢
  have hl : lv_has ls 6 [(0, .ref h), (1, .int d), (2, .int u), (3, .int x), (4, .ref o)] := hl
  refine lv_aload hx hb dL_cook_0 (lv_at hl 4 rfl) ?_
  refine lv_iconst (v := 0) hx hb dL_cook_2 (by decide) ?_
  refine lv_aload_n hx hb dL_cook_3 rfl (lv_at hl 0 rfl) ?_
  refine lv_iload_n hx hb dL_cook_4 rfl (lv_at hl 1 rfl) ?_
  refine lv_iload_n hx hb dL_cook_5 rfl (lv_at hl 2 rfl) ?_
  refine lv_iload_n hx hb dL_cook_6 rfl (lv_at hl 3 rfl) ?_
  refine th_V (q := (RX0, TX0, 15)) (ci := 0) (q0 := 0) (As := [.int d, .int u, .int x]) (rest := [.int 0, .ref o]) ⟨hx, hb, hml, hown, hts⟩ (fun sz => mX0_cook_t2 l hfl D cy h a R nd n dr fl d u x hnd hn hdr hout sz) (cwV 3 hts gL_cook_X0_cook rfl rfl rfl (by decide +kernel) ⟨Nat.le_of_ble_eq_true rfl, Nat.le_of_ble_eq_true rfl⟩) hP hK.kk hD hS hA hX [0, 1, 2, 3, 4, 5, 6, 7, 8, 9, 10, 11] [12] [1, 2, 3, 4, 5, 6, 7, 8, 9, 10, 11, 12, 0] rfl rfl rfl (by decide) rfl rfl rfl rfl rfl hl.1 rfl (Nat.le_of_ble_eq_true rfl) dL_cook_7 (Nat.le_of_ble_eq_true rfl) (Nat.le_of_ble_eq_true rfl) (fun ce q9 H locs hP hS hcell hcv hcl => ?_)
  refine vx_catch hown [⟨0, 12, 15, 19⟩] ⟨0, 12, 19, 21⟩ [⟨0, 12, 23, 13⟩] (by rw [htab]; rfl) (List.forall_mem_cons.mpr ⟨(Or.inr ⟨by decide, xIOB, (hts (.classLink RL 19 xIOB) (by decide +kernel)), hN.1⟩), (fun _ h => absurd h List.not_mem_nil)⟩) rfl (by decide) (hts (.classLink RL 21 xIAE) (by decide +kernel)) (va_Nw.use rfl hX.2.2.2.1) hcell hcv hcl ?_
  refine lv_astore (lv' := [(5, .ref q9), (0, .ref h), (1, .int d), (2, .int u), (3, .int x), (4, .ref o)]) hx hb dL_cook_19 hl (by decide) rfl (fun ls hl => ?_)
  refine lv_iconst (v := 2) hx hb dL_cook_21 (by decide) ?_
  exact W.iret (v := 2) hx hb hr (fun t ht hW => ⟨⟨2, (), rfl, rfl, by show va_P D vwCl _ t.heap; rw [ht]; exact hP⟩, hS.F ht⟩) hS.2.2 dL_cook_22

set_option maxHeartbeats 4000000 in
set_option maxRecDepth 100000 in
theorem mL_cook_t3 (l : Launch) (hfl : l.stackTraces = false) (D : va_G) (cy ly : ClassId) (h : Nat) (a : Nat → Nat) (R : Nat → Nat → Int32) (nd n dr : Nat) (fl : Int32) (o : Nat) (g : Nat → Int64) (d u x : Int32) (hnd : nd < 1000000) (hn : n < 1000000) (hdr : dr < 1000000) (hout : cookX R n nd d u x = 3) (sz : Nat) : LhI l yL_cook wsL_cook 7 136 [.ref h, .int d, .int u, .int x, .ref o] D cy ly (cC h a cy R nd n dr fl ++ [(o, .inl (ly, 1, .inr (.inl g)))]) (cC h a cy R nd n dr fl ++ [(o, .inl (ly, 1, .inr (.inl g)))]) sz 3 := by
  refine va_MetW (cc := cL_cook) (maxL := 6) (ret := some .int) (hh := [(0, 12, 15, 19), (0, 12, 19, 21), (0, 12, 23, 13)]) (by decide) rfl ?_
  intro p e s m args below meth c s₁ B hml hv
  obtain ⟨rfl, hsz, hP, hK, hD0, hX, hN⟩ := hv
  have hx := B.exec
  have hb := B.bytes
  have hr := B.returns
  have hts := atoms_spec (ws := wsL_cook) B.pre
  have hown : s.vm.findClass RL = some m.cls := findClass_of_methodNamed B.named
  have hlocks := B.notSynchronized
  have htab := vx_table (x := yL_cook) B (hts (.codeWith yL_cook cL_cook 6 (some .int) [(0, 12, 15, 19), (0, 12, 19, 21), (0, 12, 23, 13)]) (by decide +kernel))
  subst hsz
  have hD := hD0.self (sz := s.heap.size)
  generalize hAe : va_A (cC h a cy R nd n dr fl ++ [(o, .inl (ly, 1, .inr (.inl g)))]) s.heap.size = A at hD hX ⊢
  have hA : ∀ q : Nat, s.heap.size ≤ q → A q := fun q h => by rw [← hAe]; exact Or.inr h
  have hS : va_S A s.heap s.heap [] := va_S.rf
  have hl := lv_entry ([.ref h, .int d, .int u, .int x, .ref o]) (n := 6) (Nat.le_of_ble_eq_true rfl)
  rw [lg_entry_eq]
  generalize (lg_sl ([.ref h, .int d, .int u, .int x, .ref o]) ++ List.replicate (6 - (lg_sl ([.ref h, .int d, .int u, .int x, .ref o])).length) Slot.unset).toArray = ls at hl ⊢
  have hl : lv_has ls 6 [(0, .ref h), (1, .int d), (2, .int u), (3, .int x), (4, .ref o)] := hl
  refine lv_aload hx hb dL_cook_0 (lv_at hl 4 rfl) ?_
  refine lv_iconst (v := 0) hx hb dL_cook_2 (by decide) ?_
  refine lv_aload_n hx hb dL_cook_3 rfl (lv_at hl 0 rfl) ?_
  refine lv_iload_n hx hb dL_cook_4 rfl (lv_at hl 1 rfl) ?_
  refine lv_iload_n hx hb dL_cook_5 rfl (lv_at hl 2 rfl) ?_
  refine lv_iload_n hx hb dL_cook_6 rfl (lv_at hl 3 rfl) ?_
  refine th_V (q := (RX0, TX0, 15)) (ci := 0) (q0 := 0) (As := [.int d, .int u, .int x]) (rest := [.int 0, .ref o]) ⟨hx, hb, hml, hown, hts⟩ (fun sz => mX0_cook_t3 l hfl D cy h a R nd n dr fl d u x hnd hn hdr hout sz) (cwV 3 hts gL_cook_X0_cook rfl rfl rfl (by decide +kernel) ⟨Nat.le_of_ble_eq_true rfl, Nat.le_of_ble_eq_true rfl⟩) hP hK.kk hD hS hA hX [0, 1, 2, 3, 4, 5, 6, 7, 8, 9, 10, 11] [12] [1, 2, 3, 4, 5, 6, 7, 8, 9, 10, 11, 12, 0] rfl rfl rfl (by decide) rfl rfl rfl rfl rfl hl.1 rfl (Nat.le_of_ble_eq_true rfl) dL_cook_7 (Nat.le_of_ble_eq_true rfl) (Nat.le_of_ble_eq_true rfl) (fun ce q9 H locs hP hS hcell hcv hcl => ?_)
  refine vx_catch hown [⟨0, 12, 15, 19⟩, ⟨0, 12, 19, 21⟩] ⟨0, 12, 23, 13⟩ [] (by rw [htab]; rfl) (List.forall_mem_cons.mpr ⟨(Or.inr ⟨by decide, xIOB, (hts (.classLink RL 19 xIOB) (by decide +kernel)), hN.2.1⟩), (List.forall_mem_cons.mpr ⟨(Or.inr ⟨by decide, xIAE, (hts (.classLink RL 21 xIAE) (by decide +kernel)), hN.2.2⟩), (fun _ h => absurd h List.not_mem_nil)⟩)⟩) rfl (by decide) (hts (.classLink RL 13 xISE) (by decide +kernel)) (va_Nw.use rfl hX.2.2.1) hcell hcv hcl ?_
  refine lv_astore (lv' := [(5, .ref q9), (0, .ref h), (1, .int d), (2, .int u), (3, .int x), (4, .ref o)]) hx hb dL_cook_23 hl (by decide) rfl (fun ls hl => ?_)
  refine lv_iconst (v := 3) hx hb dL_cook_25 (by decide) ?_
  exact W.iret (v := 3) hx hb hr (fun t ht hW => ⟨⟨3, (), rfl, rfl, by show va_P D vwCl _ t.heap; rw [ht]; exact hP⟩, hS.F ht⟩) hS.2.2 dL_cook_26

set_option maxHeartbeats 4000000 in
set_option maxRecDepth 100000 in
theorem mL_finish_ok (l : Launch) (D : va_G) (cy ly : ClassId) (h : Nat) (a : Nat → Nat) (R : Nat → Nat → Int32) (nd n dr : Nat) (fl : Int32) (o : Nat) (g : Nat → Int64) (d : Int32) (hnd : nd < 1000000) (hn : n < 1000000) (hdr : dr < 1000000) (hout : openX R nd d = 0) (hb2 : n < 900000) (sz : Nat) : LhI l yL_finish wsL_finish 4 86 [.ref h, .int d, .ref o] D cy ly (cC h a cy R nd n dr fl ++ [(o, .inl (ly, 1, .inr (.inl g)))]) (cC h a cy (stepR (chalkR R n d 2) 3 20 d 1) nd (n + 1) (dryN dr (n + 1)) fl ++ [(o, .inl (ly, 1, .inr (.inl (vp_updL g 0 (nI (dryN dr (n + 1)) - nI dr).toInt64))))]) sz 0 := by
  refine va_MetW (cc := cL_finish) (maxL := 4) (ret := some .int) (hh := [(0, 9, 12, 19), (0, 9, 15, 13)]) (by decide) rfl ?_
  intro p e s m args below meth c s₁ B hml hv
  obtain ⟨rfl, hsz, hP, hK, hD0, hX, hN⟩ := hv
  have hx := B.exec
  have hb := B.bytes
  have hr := B.returns
  have hts := atoms_spec (ws := wsL_finish) B.pre
  have hown : s.vm.findClass RL = some m.cls := findClass_of_methodNamed B.named
  have hlocks := B.notSynchronized
  have htab := vx_table (x := yL_finish) B (hts (.codeWith yL_finish cL_finish 4 (some .int) [(0, 9, 12, 19), (0, 9, 15, 13)]) (by decide +kernel))
  subst hsz
  have hD := hD0.self (sz := s.heap.size)
  generalize hAe : va_A (cC h a cy R nd n dr fl ++ [(o, .inl (ly, 1, .inr (.inl g)))]) s.heap.size = A at hD hX ⊢
  have hA : ∀ q : Nat, s.heap.size ≤ q → A q := fun q h => by rw [← hAe]; exact Or.inr h
  have hS : va_S A s.heap s.heap [] := va_S.rf
  have hl := lv_entry ([.ref h, .int d, .ref o]) (n := 4) (Nat.le_of_ble_eq_true rfl)
  rw [lg_entry_eq]
  generalize (lg_sl ([.ref h, .int d, .ref o]) ++ List.replicate (4 - (lg_sl ([.ref h, .int d, .ref o])).length) Slot.unset).toArray = ls at hl ⊢
  have hl : lv_has ls 4 [(0, .ref h), (1, .int d), (2, .ref o)] := hl
  refine lv_aload_n hx hb dL_finish_0 rfl (lv_at hl 2 rfl) ?_
  refine lv_iconst (v := 0) hx hb dL_finish_1 (by decide) ?_
  refine lv_aload_n hx hb dL_finish_2 rfl (lv_at hl 0 rfl) ?_
  refine lv_iload_n hx hb dL_finish_3 rfl (lv_at hl 1 rfl) ?_
  refine wr_VI (q := (RX0, TX0, 15)) (ci := 0) (q0 := 0) (ws0' := cC h a cy (stepR (chalkR R n d 2) 3 20 d 1) nd (n + 1) (dryN dr (n + 1)) fl ++ [(o, .inl (ly, 1, .inr (.inl g)))]) (As := [.int d]) (rest := [.int 0, .ref o]) ⟨hx, hb, hml, hown, hts⟩ (fun sz => mX0_finish_ok l D cy h a R nd n dr fl d hnd hn hdr hout hb2 sz) (cwV 1 hts gL_finish_X0_finish rfl rfl rfl (by decide +kernel) ⟨Nat.le_of_ble_eq_true rfl, Nat.le_of_ble_eq_true rfl⟩) hP hK.kk hD hS hA [0, 1, 2, 3, 4, 5, 6, 7, 8, 9, 10, 11] [12] [1, 2, 3, 4, 5, 6, 7, 8, 9, 10, 11, 12, 0] rfl rfl rfl (by decide) rfl rfl rfl rfl rfl rfl rfl hl.1 rfl (Nat.le_of_ble_eq_true rfl) dL_finish_4 (Nat.zero_le _) (Nat.zero_le _) (fun H locs hP hD hS => ?_)
  refine lv_i2l (v := (nI (dryN dr (n + 1)) - nI dr).toInt64) hx hb dL_finish_7 rfl ?_
  refine va_last hx hb hK.1 hP hD hS 12 1 rfl rfl (vp_in_nI (n := 0) (by omega) (by omega)) dL_finish_8 (fun H locs hP hD hS => ?_)
  have hP : va_P D vwCl (cC h a cy (stepR (chalkR R n d 2) 3 20 d 1) nd (n + 1) (dryN dr (n + 1)) fl ++ [(o, .inl (ly, 1, .inr (.inl (vp_updL g 0 (nI (dryN dr (n + 1)) - nI dr).toInt64))))]) H := hP
  refine lv_goto (tgt := 18) hx hb dL_finish_9 (by decide) ?_
  refine lv_iconst (v := 0) hx hb dL_finish_18 (by decide) ?_
  refine W.widen (k := 1) (n := 6) (Nat.le_of_ble_eq_true rfl) (Nat.le_of_ble_eq_true rfl) ?_
  exact W.iret (v := 0) hx hb hr (fun t ht hW => ⟨⟨0, (), rfl, rfl, by show va_P D vwCl _ t.heap; rw [ht]; exact hP⟩, hS.F ht⟩) hS.2.2 dL_finish_19

set_option maxHeartbeats 4000000 in
set_option maxRecDepth 100000 in
theorem mL_finish_t1 (l : Launch) (hfl : l.stackTraces = false) (D : va_G) (cy ly : ClassId) (h : Nat) (a : Nat → Nat) (R : Nat → Nat → Int32) (nd n dr : Nat) (fl : Int32) (o : Nat) (g : Nat → Int64) (d : Int32) (hnd : nd < 1000000) (hn : n < 1000000) (hdr : dr < 1000000) (hout : openX R nd d = 1) (sz : Nat) : LhI l yL_finish wsL_finish 7 103 [.ref h, .int d, .ref o] D cy ly (cC h a cy R nd n dr fl ++ [(o, .inl (ly, 1, .inr (.inl g)))]) (cC h a cy R nd n dr fl ++ [(o, .inl (ly, 1, .inr (.inl g)))]) sz 1 := by
  refine va_MetW (cc := cL_finish) (maxL := 4) (ret := some .int) (hh := [(0, 9, 12, 19), (0, 9, 15, 13)]) (by decide) rfl ?_
  intro p e s m args below meth c s₁ B hml hv
  obtain ⟨rfl, hsz, hP, hK, hD0, hX, hN⟩ := hv
  have hx := B.exec
  have hb := B.bytes
  have hr := B.returns
  have hts := atoms_spec (ws := wsL_finish) B.pre
  have hown : s.vm.findClass RL = some m.cls := findClass_of_methodNamed B.named
  have hlocks := B.notSynchronized
  have htab := vx_table (x := yL_finish) B (hts (.codeWith yL_finish cL_finish 4 (some .int) [(0, 9, 12, 19), (0, 9, 15, 13)]) (by decide +kernel))
  subst hsz
  have hD := hD0.self (sz := s.heap.size)
  generalize hAe : va_A (cC h a cy R nd n dr fl ++ [(o, .inl (ly, 1, .inr (.inl g)))]) s.heap.size = A at hD hX ⊢
  have hA : ∀ q : Nat, s.heap.size ≤ q → A q := fun q h => by rw [← hAe]; exact Or.inr h
  have hS : va_S A s.heap s.heap [] := va_S.rf
  have hl := lv_entry ([.ref h, .int d, .ref o]) (n := 4) (Nat.le_of_ble_eq_true rfl)
  rw [lg_entry_eq]
  generalize (lg_sl ([.ref h, .int d, .ref o]) ++ List.replicate (4 - (lg_sl ([.ref h, .int d, .ref o])).length) Slot.unset).toArray = ls at hl ⊢
  have hl : lv_has ls 4 [(0, .ref h), (1, .int d), (2, .ref o)] := hl
  refine lv_aload_n hx hb dL_finish_0 rfl (lv_at hl 2 rfl) ?_
  refine lv_iconst (v := 0) hx hb dL_finish_1 (by decide) ?_
  refine lv_aload_n hx hb dL_finish_2 rfl (lv_at hl 0 rfl) ?_
  refine lv_iload_n hx hb dL_finish_3 rfl (lv_at hl 1 rfl) ?_
  refine th_V (q := (RX0, TX0, 15)) (ci := 0) (q0 := 0) (As := [.int d]) (rest := [.int 0, .ref o]) ⟨hx, hb, hml, hown, hts⟩ (fun sz => mX0_finish_t1 l hfl D cy h a R nd n dr fl d hnd hn hdr hout sz) (cwV 1 hts gL_finish_X0_finish rfl rfl rfl (by decide +kernel) ⟨Nat.le_of_ble_eq_true rfl, Nat.le_of_ble_eq_true rfl⟩) hP hK.kk hD hS hA hX [0, 1, 2, 3, 4, 5, 6, 7, 8, 9, 10, 11] [12] [1, 2, 3, 4, 5, 6, 7, 8, 9, 10, 11, 12, 0] rfl rfl rfl (by decide) rfl rfl rfl rfl rfl hl.1 rfl (Nat.le_of_ble_eq_true rfl) dL_finish_4 (Nat.le_of_ble_eq_true rfl) (Nat.le_of_ble_eq_true rfl) (fun ce q9 H locs hP hS hcell hcv hcl => ?_)
  refine vx_catch hown [] ⟨0, 9, 12, 19⟩ [⟨0, 9, 15, 13⟩] (by rw [htab]; rfl) (fun z hz => absurd hz List.not_mem_nil) rfl (by decide) (hts (.classLink RL 19 xIOB) (by decide +kernel)) (va_Nw.use rfl hX.2.2.2.2.1) hcell hcv hcl ?_
  refine lv_astore_n (lv' := [(3, .ref q9), (0, .ref h), (1, .int d), (2, .ref o)]) hx hb dL_finish_12 rfl hl (by decide) rfl (fun ls hl => ?_)
  refine lv_iconst (v := 1) hx hb dL_finish_13 (by decide) ?_
  exact W.iret (v := 1) hx hb hr (fun t ht hW => ⟨⟨1, (), rfl, rfl, by show va_P D vwCl _ t.heap; rw [ht]; exact hP⟩, hS.F ht⟩) hS.2.2 dL_finish_14

set_option maxHeartbeats 4000000 in
set_option maxRecDepth 100000 in
theorem mL_finish_t2 (l : Launch) (hfl : l.stackTraces = false) (D : va_G) (cy ly : ClassId) (h : Nat) (a : Nat → Nat) (R : Nat → Nat → Int32) (nd n dr : Nat) (fl : Int32) (o : Nat) (g : Nat → Int64) (d : Int32) (hnd : nd < 1000000) (hn : n < 1000000) (hdr : dr < 1000000) (hout : openX R nd d = 2) (sz : Nat) : LhI l yL_finish wsL_finish 7 103 [.ref h, .int d, .ref o] D cy ly (cC h a cy R nd n dr fl ++ [(o, .inl (ly, 1, .inr (.inl g)))]) (cC h a cy R nd n dr fl ++ [(o, .inl (ly, 1, .inr (.inl g)))]) sz 2 := by
  refine va_MetW (cc := cL_finish) (maxL := 4) (ret := some .int) (hh := [(0, 9, 12, 19), (0, 9, 15, 13)]) (by decide) rfl ?_
  intro p e s m args below meth c s₁ B hml hv
  obtain ⟨rfl, hsz, hP, hK, hD0, hX, hN⟩ := hv
  have hx := B.exec
  have hb := B.bytes
  have hr := B.returns
  have hts := atoms_spec (ws := wsL_finish) B.pre
  have hown : s.vm.findClass RL = some m.cls := findClass_of_methodNamed B.named
  have hlocks := B.notSynchronized
  have htab := vx_table (x := yL_finish) B (hts (.codeWith yL_finish cL_finish 4 (some .int) [(0, 9, 12, 19), (0, 9, 15, 13)]) (by decide +kernel))
  subst hsz
  have hD := hD0.self (sz := s.heap.size)
  generalize hAe : va_A (cC h a cy R nd n dr fl ++ [(o, .inl (ly, 1, .inr (.inl g)))]) s.heap.size = A at hD hX ⊢
  have hA : ∀ q : Nat, s.heap.size ≤ q → A q := fun q h => by rw [← hAe]; exact Or.inr h
  have hS : va_S A s.heap s.heap [] := va_S.rf
  have hl := lv_entry ([.ref h, .int d, .ref o]) (n := 4) (Nat.le_of_ble_eq_true rfl)
  rw [lg_entry_eq]
  generalize (lg_sl ([.ref h, .int d, .ref o]) ++ List.replicate (4 - (lg_sl ([.ref h, .int d, .ref o])).length) Slot.unset).toArray = ls at hl ⊢
  have hl : lv_has ls 4 [(0, .ref h), (1, .int d), (2, .ref o)] := hl
  refine lv_aload_n hx hb dL_finish_0 rfl (lv_at hl 2 rfl) ?_
  refine lv_iconst (v := 0) hx hb dL_finish_1 (by decide) ?_
  refine lv_aload_n hx hb dL_finish_2 rfl (lv_at hl 0 rfl) ?_
  refine lv_iload_n hx hb dL_finish_3 rfl (lv_at hl 1 rfl) ?_
  refine th_V (q := (RX0, TX0, 15)) (ci := 0) (q0 := 0) (As := [.int d]) (rest := [.int 0, .ref o]) ⟨hx, hb, hml, hown, hts⟩ (fun sz => mX0_finish_t2 l hfl D cy h a R nd n dr fl d hnd hn hdr hout sz) (cwV 1 hts gL_finish_X0_finish rfl rfl rfl (by decide +kernel) ⟨Nat.le_of_ble_eq_true rfl, Nat.le_of_ble_eq_true rfl⟩) hP hK.kk hD hS hA hX [0, 1, 2, 3, 4, 5, 6, 7, 8, 9, 10, 11] [12] [1, 2, 3, 4, 5, 6, 7, 8, 9, 10, 11, 12, 0] rfl rfl rfl (by decide) rfl rfl rfl rfl rfl hl.1 rfl (Nat.le_of_ble_eq_true rfl) dL_finish_4 (Nat.le_of_ble_eq_true rfl) (Nat.le_of_ble_eq_true rfl) (fun ce q9 H locs hP hS hcell hcv hcl => ?_)
  refine vx_catch hown [⟨0, 9, 12, 19⟩] ⟨0, 9, 15, 13⟩ [] (by rw [htab]; rfl) (List.forall_mem_cons.mpr ⟨(Or.inr ⟨by decide, xIOB, (hts (.classLink RL 19 xIOB) (by decide +kernel)), hN.2.1⟩), (fun _ h => absurd h List.not_mem_nil)⟩) rfl (by decide) (hts (.classLink RL 13 xISE) (by decide +kernel)) (va_Nw.use rfl hX.2.2.1) hcell hcv hcl ?_
  refine lv_astore_n (lv' := [(3, .ref q9), (0, .ref h), (1, .int d), (2, .ref o)]) hx hb dL_finish_15 rfl hl (by decide) rfl (fun ls hl => ?_)
  refine lv_iconst (v := 2) hx hb dL_finish_16 (by decide) ?_
  exact W.iret (v := 2) hx hb hr (fun t ht hW => ⟨⟨2, (), rfl, rfl, by show va_P D vwCl _ t.heap; rw [ht]; exact hP⟩, hS.F ht⟩) hS.2.2 dL_finish_17

set_option maxHeartbeats 4000000 in
set_option maxRecDepth 100000 in
theorem mL_drop_ok (l : Launch) (D : va_G) (cy ly : ClassId) (h : Nat) (a : Nat → Nat) (R : Nat → Nat → Int32) (nd n dr : Nat) (fl : Int32) (o : Nat) (g : Nat → Int64) (d : Int32) (hnd : nd < 1000000) (hn : n < 1000000) (hdr : dr < 1000000) (hout : openX R nd d = 0) (hn2 : n < 400000) (sz : Nat) : LhI l yL_drop wsL_drop 7 156 [.ref h, .int d, .ref o] D cy ly (cC h a cy R nd n dr fl ++ [(o, .inl (ly, 1, .inr (.inl g)))]) (cC h a cy (undoR R n d) nd (undoN R n d) dr fl ++ [(o, .inl (ly, 1, .inr (.inl (vp_updL g 0 (undoC R n d).toInt64))))]) sz 0 := by
  refine va_MetW (cc := cL_drop) (maxL := 4) (ret := some .int) (hh := [(0, 9, 12, 19), (0, 9, 15, 13)]) (by decide) rfl ?_
  intro p e s m args below meth c s₁ B hml hv
  obtain ⟨rfl, hsz, hP, hK, hD0, hX, hN⟩ := hv
  have hx := B.exec
  have hb := B.bytes
  have hr := B.returns
  have hts := atoms_spec (ws := wsL_drop) B.pre
  have hown : s.vm.findClass RL = some m.cls := findClass_of_methodNamed B.named
  have hlocks := B.notSynchronized
  have htab := vx_table (x := yL_drop) B (hts (.codeWith yL_drop cL_drop 4 (some .int) [(0, 9, 12, 19), (0, 9, 15, 13)]) (by decide +kernel))
  subst hsz
  have hD := hD0.self (sz := s.heap.size)
  generalize hAe : va_A (cC h a cy R nd n dr fl ++ [(o, .inl (ly, 1, .inr (.inl g)))]) s.heap.size = A at hD hX ⊢
  have hA : ∀ q : Nat, s.heap.size ≤ q → A q := fun q h => by rw [← hAe]; exact Or.inr h
  have hS : va_S A s.heap s.heap [] := va_S.rf
  have hl := lv_entry ([.ref h, .int d, .ref o]) (n := 4) (Nat.le_of_ble_eq_true rfl)
  rw [lg_entry_eq]
  generalize (lg_sl ([.ref h, .int d, .ref o]) ++ List.replicate (4 - (lg_sl ([.ref h, .int d, .ref o])).length) Slot.unset).toArray = ls at hl ⊢
  have hl : lv_has ls 4 [(0, .ref h), (1, .int d), (2, .ref o)] := hl
  refine lv_aload_n hx hb dL_drop_0 rfl (lv_at hl 2 rfl) ?_
  refine lv_iconst (v := 0) hx hb dL_drop_1 (by decide) ?_
  refine lv_aload_n hx hb dL_drop_2 rfl (lv_at hl 0 rfl) ?_
  refine lv_iload_n hx hb dL_drop_3 rfl (lv_at hl 1 rfl) ?_
  refine wr_VI (q := (RX0, TX0, 15)) (ci := 0) (q0 := 0) (ws0' := cC h a cy (undoR R n d) nd (undoN R n d) dr fl ++ [(o, .inl (ly, 1, .inr (.inl g)))]) (As := [.int d]) (rest := [.int 0, .ref o]) ⟨hx, hb, hml, hown, hts⟩ (fun sz => mX0_drop_ok l D cy h a R nd n dr fl d hnd hn hdr hout hn2 sz) (cwV 1 hts gL_drop_X0_drop rfl rfl rfl (by decide +kernel) ⟨Nat.le_of_ble_eq_true rfl, Nat.le_of_ble_eq_true rfl⟩) hP hK.kk hD hS hA [0, 1, 2, 3, 4, 5, 6, 7, 8, 9, 10, 11] [12] [1, 2, 3, 4, 5, 6, 7, 8, 9, 10, 11, 12, 0] rfl rfl rfl (by decide) rfl rfl rfl rfl rfl rfl rfl hl.1 rfl (Nat.le_of_ble_eq_true rfl) dL_drop_4 (Nat.zero_le _) (Nat.zero_le _) (fun H locs hP hD hS => ?_)
  refine lv_i2l (v := (undoC R n d).toInt64) hx hb dL_drop_7 rfl ?_
  refine va_last hx hb hK.1 hP hD hS 12 1 rfl rfl (vp_in_nI (n := 0) (by omega) (by omega)) dL_drop_8 (fun H locs hP hD hS => ?_)
  have hP : va_P D vwCl (cC h a cy (undoR R n d) nd (undoN R n d) dr fl ++ [(o, .inl (ly, 1, .inr (.inl (vp_updL g 0 (undoC R n d).toInt64))))]) H := hP
  refine lv_goto (tgt := 18) hx hb dL_drop_9 (by decide) ?_
  refine lv_iconst (v := 0) hx hb dL_drop_18 (by decide) ?_
  refine W.widen (k := 1) (n := 6) (Nat.le_of_ble_eq_true rfl) (Nat.le_of_ble_eq_true rfl) ?_
  exact W.iret (v := 0) hx hb hr (fun t ht hW => ⟨⟨0, (), rfl, rfl, by show va_P D vwCl _ t.heap; rw [ht]; exact hP⟩, hS.F ht⟩) hS.2.2 dL_drop_19

set_option maxHeartbeats 4000000 in
set_option maxRecDepth 100000 in
theorem mL_drop_t1 (l : Launch) (hfl : l.stackTraces = false) (D : va_G) (cy ly : ClassId) (h : Nat) (a : Nat → Nat) (R : Nat → Nat → Int32) (nd n dr : Nat) (fl : Int32) (o : Nat) (g : Nat → Int64) (d : Int32) (hnd : nd < 1000000) (hn : n < 1000000) (hdr : dr < 1000000) (hout : openX R nd d = 1) (sz : Nat) : LhI l yL_drop wsL_drop 7 103 [.ref h, .int d, .ref o] D cy ly (cC h a cy R nd n dr fl ++ [(o, .inl (ly, 1, .inr (.inl g)))]) (cC h a cy R nd n dr fl ++ [(o, .inl (ly, 1, .inr (.inl g)))]) sz 1 := by
  refine va_MetW (cc := cL_drop) (maxL := 4) (ret := some .int) (hh := [(0, 9, 12, 19), (0, 9, 15, 13)]) (by decide) rfl ?_
  intro p e s m args below meth c s₁ B hml hv
  obtain ⟨rfl, hsz, hP, hK, hD0, hX, hN⟩ := hv
  have hx := B.exec
  have hb := B.bytes
  have hr := B.returns
  have hts := atoms_spec (ws := wsL_drop) B.pre
  have hown : s.vm.findClass RL = some m.cls := findClass_of_methodNamed B.named
  have hlocks := B.notSynchronized
  have htab := vx_table (x := yL_drop) B (hts (.codeWith yL_drop cL_drop 4 (some .int) [(0, 9, 12, 19), (0, 9, 15, 13)]) (by decide +kernel))
  subst hsz
  have hD := hD0.self (sz := s.heap.size)
  generalize hAe : va_A (cC h a cy R nd n dr fl ++ [(o, .inl (ly, 1, .inr (.inl g)))]) s.heap.size = A at hD hX ⊢
  have hA : ∀ q : Nat, s.heap.size ≤ q → A q := fun q h => by rw [← hAe]; exact Or.inr h
  have hS : va_S A s.heap s.heap [] := va_S.rf
  have hl := lv_entry ([.ref h, .int d, .ref o]) (n := 4) (Nat.le_of_ble_eq_true rfl)
  rw [lg_entry_eq]
  generalize (lg_sl ([.ref h, .int d, .ref o]) ++ List.replicate (4 - (lg_sl ([.ref h, .int d, .ref o])).length) Slot.unset).toArray = ls at hl ⊢
  have hl : lv_has ls 4 [(0, .ref h), (1, .int d), (2, .ref o)] := hl
  refine lv_aload_n hx hb dL_drop_0 rfl (lv_at hl 2 rfl) ?_
  refine lv_iconst (v := 0) hx hb dL_drop_1 (by decide) ?_
  refine lv_aload_n hx hb dL_drop_2 rfl (lv_at hl 0 rfl) ?_
  refine lv_iload_n hx hb dL_drop_3 rfl (lv_at hl 1 rfl) ?_
  refine th_V (q := (RX0, TX0, 15)) (ci := 0) (q0 := 0) (As := [.int d]) (rest := [.int 0, .ref o]) ⟨hx, hb, hml, hown, hts⟩ (fun sz => mX0_drop_t1 l hfl D cy h a R nd n dr fl d hnd hn hdr hout sz) (cwV 1 hts gL_drop_X0_drop rfl rfl rfl (by decide +kernel) ⟨Nat.le_of_ble_eq_true rfl, Nat.le_of_ble_eq_true rfl⟩) hP hK.kk hD hS hA hX [0, 1, 2, 3, 4, 5, 6, 7, 8, 9, 10, 11] [12] [1, 2, 3, 4, 5, 6, 7, 8, 9, 10, 11, 12, 0] rfl rfl rfl (by decide) rfl rfl rfl rfl rfl hl.1 rfl (Nat.le_of_ble_eq_true rfl) dL_drop_4 (Nat.le_of_ble_eq_true rfl) (Nat.le_of_ble_eq_true rfl) (fun ce q9 H locs hP hS hcell hcv hcl => ?_)
  refine vx_catch hown [] ⟨0, 9, 12, 19⟩ [⟨0, 9, 15, 13⟩] (by rw [htab]; rfl) (fun z hz => absurd hz List.not_mem_nil) rfl (by decide) (hts (.classLink RL 19 xIOB) (by decide +kernel)) (va_Nw.use rfl hX.2.2.2.2.1) hcell hcv hcl ?_
  refine lv_astore_n (lv' := [(3, .ref q9), (0, .ref h), (1, .int d), (2, .ref o)]) hx hb dL_drop_12 rfl hl (by decide) rfl (fun ls hl => ?_)
  refine lv_iconst (v := 1) hx hb dL_drop_13 (by decide) ?_
  exact W.iret (v := 1) hx hb hr (fun t ht hW => ⟨⟨1, (), rfl, rfl, by show va_P D vwCl _ t.heap; rw [ht]; exact hP⟩, hS.F ht⟩) hS.2.2 dL_drop_14

set_option maxHeartbeats 4000000 in
set_option maxRecDepth 100000 in
theorem mL_drop_t2 (l : Launch) (hfl : l.stackTraces = false) (D : va_G) (cy ly : ClassId) (h : Nat) (a : Nat → Nat) (R : Nat → Nat → Int32) (nd n dr : Nat) (fl : Int32) (o : Nat) (g : Nat → Int64) (d : Int32) (hnd : nd < 1000000) (hn : n < 1000000) (hdr : dr < 1000000) (hout : openX R nd d = 2) (sz : Nat) : LhI l yL_drop wsL_drop 7 103 [.ref h, .int d, .ref o] D cy ly (cC h a cy R nd n dr fl ++ [(o, .inl (ly, 1, .inr (.inl g)))]) (cC h a cy R nd n dr fl ++ [(o, .inl (ly, 1, .inr (.inl g)))]) sz 2 := by
  refine va_MetW (cc := cL_drop) (maxL := 4) (ret := some .int) (hh := [(0, 9, 12, 19), (0, 9, 15, 13)]) (by decide) rfl ?_
  intro p e s m args below meth c s₁ B hml hv
  obtain ⟨rfl, hsz, hP, hK, hD0, hX, hN⟩ := hv
  have hx := B.exec
  have hb := B.bytes
  have hr := B.returns
  have hts := atoms_spec (ws := wsL_drop) B.pre
  have hown : s.vm.findClass RL = some m.cls := findClass_of_methodNamed B.named
  have hlocks := B.notSynchronized
  have htab := vx_table (x := yL_drop) B (hts (.codeWith yL_drop cL_drop 4 (some .int) [(0, 9, 12, 19), (0, 9, 15, 13)]) (by decide +kernel))
  subst hsz
  have hD := hD0.self (sz := s.heap.size)
  generalize hAe : va_A (cC h a cy R nd n dr fl ++ [(o, .inl (ly, 1, .inr (.inl g)))]) s.heap.size = A at hD hX ⊢
  have hA : ∀ q : Nat, s.heap.size ≤ q → A q := fun q h => by rw [← hAe]; exact Or.inr h
  have hS : va_S A s.heap s.heap [] := va_S.rf
  have hl := lv_entry ([.ref h, .int d, .ref o]) (n := 4) (Nat.le_of_ble_eq_true rfl)
  rw [lg_entry_eq]
  generalize (lg_sl ([.ref h, .int d, .ref o]) ++ List.replicate (4 - (lg_sl ([.ref h, .int d, .ref o])).length) Slot.unset).toArray = ls at hl ⊢
  have hl : lv_has ls 4 [(0, .ref h), (1, .int d), (2, .ref o)] := hl
  refine lv_aload_n hx hb dL_drop_0 rfl (lv_at hl 2 rfl) ?_
  refine lv_iconst (v := 0) hx hb dL_drop_1 (by decide) ?_
  refine lv_aload_n hx hb dL_drop_2 rfl (lv_at hl 0 rfl) ?_
  refine lv_iload_n hx hb dL_drop_3 rfl (lv_at hl 1 rfl) ?_
  refine th_V (q := (RX0, TX0, 15)) (ci := 0) (q0 := 0) (As := [.int d]) (rest := [.int 0, .ref o]) ⟨hx, hb, hml, hown, hts⟩ (fun sz => mX0_drop_t2 l hfl D cy h a R nd n dr fl d hnd hn hdr hout sz) (cwV 1 hts gL_drop_X0_drop rfl rfl rfl (by decide +kernel) ⟨Nat.le_of_ble_eq_true rfl, Nat.le_of_ble_eq_true rfl⟩) hP hK.kk hD hS hA hX [0, 1, 2, 3, 4, 5, 6, 7, 8, 9, 10, 11] [12] [1, 2, 3, 4, 5, 6, 7, 8, 9, 10, 11, 12, 0] rfl rfl rfl (by decide) rfl rfl rfl rfl rfl hl.1 rfl (Nat.le_of_ble_eq_true rfl) dL_drop_4 (Nat.le_of_ble_eq_true rfl) (Nat.le_of_ble_eq_true rfl) (fun ce q9 H locs hP hS hcell hcv hcl => ?_)
  refine vx_catch hown [⟨0, 9, 12, 19⟩] ⟨0, 9, 15, 13⟩ [] (by rw [htab]; rfl) (List.forall_mem_cons.mpr ⟨(Or.inr ⟨by decide, xIOB, (hts (.classLink RL 19 xIOB) (by decide +kernel)), hN.2.1⟩), (fun _ h => absurd h List.not_mem_nil)⟩) rfl (by decide) (hts (.classLink RL 13 xISE) (by decide +kernel)) (va_Nw.use rfl hX.2.2.1) hcell hcv hcl ?_
  refine lv_astore_n (lv' := [(3, .ref q9), (0, .ref h), (1, .int d), (2, .ref o)]) hx hb dL_drop_15 rfl hl (by decide) rfl (fun ls hl => ?_)
  refine lv_iconst (v := 2) hx hb dL_drop_16 (by decide) ?_
  exact W.iret (v := 2) hx hb hr (fun t ht hW => ⟨⟨2, (), rfl, rfl, by show va_P D vwCl _ t.heap; rw [ht]; exact hP⟩, hS.F ht⟩) hS.2.2 dL_drop_17

set_option maxHeartbeats 4000000 in
set_option maxRecDepth 100000 in
theorem mL_shelve_ok (l : Launch) (D : va_G) (cy ly : ClassId) (h : Nat) (a : Nat → Nat) (R : Nat → Nat → Int32) (nd n dr : Nat) (fl : Int32) (o : Nat) (g : Nat → Int64) (u : Int32) (hnd : nd < 1000000) (hn : n < 1000000) (hdr : dr < 1000000) (hout : potX u = 0) (sz : Nat) : LhI l yL_shelve wsL_shelve 4 87 [.ref h, .int u, .ref o] D cy ly (cC h a cy R nd n dr fl ++ [(o, .inl (ly, 1, .inr (.inl g)))]) (cC h a cy (stepR (stepR R 1 8 u (atS 8 (R 0) u)) 2 8 u (lastS (R 6) u n)) nd n (dryN dr (lastN1 (R 6) u n)) fl ++ [(o, .inl (ly, 1, .inr (.inl (vp_updL g 0 (nI (dryN dr (lastN1 (R 6) u n)) - nI dr).toInt64))))]) sz 0 := by
  refine va_MetW (cc := cL_shelve) (maxL := 4) (ret := some .int) (hh := [(0, 9, 12, 19)]) (by decide) rfl ?_
  intro p e s m args below meth c s₁ B hml hv
  obtain ⟨rfl, hsz, hP, hK, hD0, hX, hN⟩ := hv
  have hx := B.exec
  have hb := B.bytes
  have hr := B.returns
  have hts := atoms_spec (ws := wsL_shelve) B.pre
  have hown : s.vm.findClass RL = some m.cls := findClass_of_methodNamed B.named
  have hlocks := B.notSynchronized
  have htab := vx_table (x := yL_shelve) B (hts (.codeWith yL_shelve cL_shelve 4 (some .int) [(0, 9, 12, 19)]) (by decide +kernel))
  subst hsz
  have hD := hD0.self (sz := s.heap.size)
  generalize hAe : va_A (cC h a cy R nd n dr fl ++ [(o, .inl (ly, 1, .inr (.inl g)))]) s.heap.size = A at hD hX ⊢
  have hA : ∀ q : Nat, s.heap.size ≤ q → A q := fun q h => by rw [← hAe]; exact Or.inr h
  have hS : va_S A s.heap s.heap [] := va_S.rf
  have hl := lv_entry ([.ref h, .int u, .ref o]) (n := 4) (Nat.le_of_ble_eq_true rfl)
  rw [lg_entry_eq]
  generalize (lg_sl ([.ref h, .int u, .ref o]) ++ List.replicate (4 - (lg_sl ([.ref h, .int u, .ref o])).length) Slot.unset).toArray = ls at hl ⊢
  have hl : lv_has ls 4 [(0, .ref h), (1, .int u), (2, .ref o)] := hl
  refine lv_aload_n hx hb dL_shelve_0 rfl (lv_at hl 2 rfl) ?_
  refine lv_iconst (v := 0) hx hb dL_shelve_1 (by decide) ?_
  refine lv_aload_n hx hb dL_shelve_2 rfl (lv_at hl 0 rfl) ?_
  refine lv_iload_n hx hb dL_shelve_3 rfl (lv_at hl 1 rfl) ?_
  refine wr_VI (q := (RX0, TX0, 15)) (ci := 0) (q0 := 0) (ws0' := cC h a cy (stepR (stepR R 1 8 u (atS 8 (R 0) u)) 2 8 u (lastS (R 6) u n)) nd n (dryN dr (lastN1 (R 6) u n)) fl ++ [(o, .inl (ly, 1, .inr (.inl g)))]) (As := [.int u]) (rest := [.int 0, .ref o]) ⟨hx, hb, hml, hown, hts⟩ (fun sz => mX0_shelve_ok l D cy h a R nd n dr fl u hnd hn hdr hout  sz) (cwV 1 hts gL_shelve_X0_shelve rfl rfl rfl (by decide +kernel) ⟨Nat.le_of_ble_eq_true rfl, Nat.le_of_ble_eq_true rfl⟩) hP hK.kk hD hS hA [0, 1, 2, 3, 4, 5, 6, 7, 8, 9, 10, 11] [12] [1, 2, 3, 4, 5, 6, 7, 8, 9, 10, 11, 12, 0] rfl rfl rfl (by decide) rfl rfl rfl rfl rfl rfl rfl hl.1 rfl (Nat.le_of_ble_eq_true rfl) dL_shelve_4 (Nat.zero_le _) (Nat.zero_le _) (fun H locs hP hD hS => ?_)
  refine lv_i2l (v := (nI (dryN dr (lastN1 (R 6) u n)) - nI dr).toInt64) hx hb dL_shelve_7 rfl ?_
  refine va_last hx hb hK.1 hP hD hS 12 1 rfl rfl (vp_in_nI (n := 0) (by omega) (by omega)) dL_shelve_8 (fun H locs hP hD hS => ?_)
  have hP : va_P D vwCl (cC h a cy (stepR (stepR R 1 8 u (atS 8 (R 0) u)) 2 8 u (lastS (R 6) u n)) nd n (dryN dr (lastN1 (R 6) u n)) fl ++ [(o, .inl (ly, 1, .inr (.inl (vp_updL g 0 (nI (dryN dr (lastN1 (R 6) u n)) - nI dr).toInt64))))]) H := hP
  refine lv_goto (tgt := 15) hx hb dL_shelve_9 (by decide) ?_
  refine lv_iconst (v := 0) hx hb dL_shelve_15 (by decide) ?_
  refine W.widen (k := 1) (n := 6) (Nat.le_of_ble_eq_true rfl) (Nat.le_of_ble_eq_true rfl) ?_
  exact W.iret (v := 0) hx hb hr (fun t ht hW => ⟨⟨0, (), rfl, rfl, by show va_P D vwCl _ t.heap; rw [ht]; exact hP⟩, hS.F ht⟩) hS.2.2 dL_shelve_16

set_option maxHeartbeats 4000000 in
set_option maxRecDepth 100000 in
theorem mL_shelve_t1 (l : Launch) (hfl : l.stackTraces = false) (D : va_G) (cy ly : ClassId) (h : Nat) (a : Nat → Nat) (R : Nat → Nat → Int32) (nd n dr : Nat) (fl : Int32) (o : Nat) (g : Nat → Int64) (u : Int32) (hnd : nd < 1000000) (hn : n < 1000000) (hdr : dr < 1000000) (hout : potX u = 1) (sz : Nat) : LhI l yL_shelve wsL_shelve 7 105 [.ref h, .int u, .ref o] D cy ly (cC h a cy R nd n dr fl ++ [(o, .inl (ly, 1, .inr (.inl g)))]) (cC h a cy R nd n dr fl ++ [(o, .inl (ly, 1, .inr (.inl g)))]) sz 1 := by
  refine va_MetW (cc := cL_shelve) (maxL := 4) (ret := some .int) (hh := [(0, 9, 12, 19)]) (by decide) rfl ?_
  intro p e s m args below meth c s₁ B hml hv
  obtain ⟨rfl, hsz, hP, hK, hD0, hX, hN⟩ := hv
  have hx := B.exec
  have hb := B.bytes
  have hr := B.returns
  have hts := atoms_spec (ws := wsL_shelve) B.pre
  have hown : s.vm.findClass RL = some m.cls := findClass_of_methodNamed B.named
  have hlocks := B.notSynchronized
  have htab := vx_table (x := yL_shelve) B (hts (.codeWith yL_shelve cL_shelve 4 (some .int) [(0, 9, 12, 19)]) (by decide +kernel))
  subst hsz
  have hD := hD0.self (sz := s.heap.size)
  generalize hAe : va_A (cC h a cy R nd n dr fl ++ [(o, .inl (ly, 1, .inr (.inl g)))]) s.heap.size = A at hD hX ⊢
  have hA : ∀ q : Nat, s.heap.size ≤ q → A q := fun q h => by rw [← hAe]; exact Or.inr h
  have hS : va_S A s.heap s.heap [] := va_S.rf
  have hl := lv_entry ([.ref h, .int u, .ref o]) (n := 4) (Nat.le_of_ble_eq_true rfl)
  rw [lg_entry_eq]
  generalize (lg_sl ([.ref h, .int u, .ref o]) ++ List.replicate (4 - (lg_sl ([.ref h, .int u, .ref o])).length) Slot.unset).toArray = ls at hl ⊢
  have hl : lv_has ls 4 [(0, .ref h), (1, .int u), (2, .ref o)] := hl
  refine lv_aload_n hx hb dL_shelve_0 rfl (lv_at hl 2 rfl) ?_
  refine lv_iconst (v := 0) hx hb dL_shelve_1 (by decide) ?_
  refine lv_aload_n hx hb dL_shelve_2 rfl (lv_at hl 0 rfl) ?_
  refine lv_iload_n hx hb dL_shelve_3 rfl (lv_at hl 1 rfl) ?_
  refine th_V (q := (RX0, TX0, 15)) (ci := 0) (q0 := 0) (As := [.int u]) (rest := [.int 0, .ref o]) ⟨hx, hb, hml, hown, hts⟩ (fun sz => mX0_shelve_t1 l hfl D cy h a R nd n dr fl u hnd hn hdr hout sz) (cwV 1 hts gL_shelve_X0_shelve rfl rfl rfl (by decide +kernel) ⟨Nat.le_of_ble_eq_true rfl, Nat.le_of_ble_eq_true rfl⟩) hP hK.kk hD hS hA hX [0, 1, 2, 3, 4, 5, 6, 7, 8, 9, 10, 11] [12] [1, 2, 3, 4, 5, 6, 7, 8, 9, 10, 11, 12, 0] rfl rfl rfl (by decide) rfl rfl rfl rfl rfl hl.1 rfl (Nat.le_of_ble_eq_true rfl) dL_shelve_4 (Nat.le_of_ble_eq_true rfl) (Nat.le_of_ble_eq_true rfl) (fun ce q9 H locs hP hS hcell hcv hcl => ?_)
  refine vx_catch hown [] ⟨0, 9, 12, 19⟩ [] (by rw [htab]; rfl) (fun z hz => absurd hz List.not_mem_nil) rfl (by decide) (hts (.classLink RL 19 xIOB) (by decide +kernel)) (va_Nw.use rfl hX.2.2.2.2.1) hcell hcv hcl ?_
  refine lv_astore_n (lv' := [(3, .ref q9), (0, .ref h), (1, .int u), (2, .ref o)]) hx hb dL_shelve_12 rfl hl (by decide) rfl (fun ls hl => ?_)
  refine lv_iconst (v := 1) hx hb dL_shelve_13 (by decide) ?_
  exact W.iret (v := 1) hx hb hr (fun t ht hW => ⟨⟨1, (), rfl, rfl, by show va_P D vwCl _ t.heap; rw [ht]; exact hP⟩, hS.F ht⟩) hS.2.2 dL_shelve_14

set_option maxHeartbeats 4000000 in
set_option maxRecDepth 100000 in
theorem mL_pot_ok (l : Launch) (D : va_G) (cy ly : ClassId) (h : Nat) (a : Nat → Nat) (R : Nat → Nat → Int32) (nd n dr : Nat) (fl : Int32) (o : Nat) (g : Nat → Int64) (u w : Int32) (hnd : nd < 1000000) (hn : n < 1000000) (hdr : dr < 1000000) (hout : potqX u w = 0) (sz : Nat) : LhI l yL_pot wsL_pot 6 130 [.ref h, .int u, .int w, .ref o] D cy ly (cC h a cy R nd n dr fl ++ [(o, .inl (ly, 1, .inr (.inl g)))]) (cC h a cy R nd n dr fl ++ [(o, .inl (ly, 1, .inr (.inl (vp_updL g 0 (potAnsS R n u w).toInt64))))]) sz 0 := by
  refine va_MetW (cc := cL_pot) (maxL := 5) (ret := some .int) (hh := [(0, 10, 13, 19)]) (by decide) rfl ?_
  intro p e s m args below meth c s₁ B hml hv
  obtain ⟨rfl, hsz, hP, hK, hD0, hX, hN⟩ := hv
  have hx := B.exec
  have hb := B.bytes
  have hr := B.returns
  have hts := atoms_spec (ws := wsL_pot) B.pre
  have hown : s.vm.findClass RL = some m.cls := findClass_of_methodNamed B.named
  have hlocks := B.notSynchronized
  have htab := vx_table (x := yL_pot) B (hts (.codeWith yL_pot cL_pot 5 (some .int) [(0, 10, 13, 19)]) (by decide +kernel))
  subst hsz
  have hD := hD0.self (sz := s.heap.size)
  generalize hAe : va_A (cC h a cy R nd n dr fl ++ [(o, .inl (ly, 1, .inr (.inl g)))]) s.heap.size = A at hD hX ⊢
  have hA : ∀ q : Nat, s.heap.size ≤ q → A q := fun q h => by rw [← hAe]; exact Or.inr h
  have hS : va_S A s.heap s.heap [] := va_S.rf
  have hl := lv_entry ([.ref h, .int u, .int w, .ref o]) (n := 5) (Nat.le_of_ble_eq_true rfl)
  rw [lg_entry_eq]
  generalize (lg_sl ([.ref h, .int u, .int w, .ref o]) ++ List.replicate (5 - (lg_sl ([.ref h, .int u, .int w, .ref o])).length) Slot.unset).toArray = ls at hl ⊢
  have hl : lv_has ls 5 [(0, .ref h), (1, .int u), (2, .int w), (3, .ref o)] := hl
  refine lv_aload_n hx hb dL_pot_0 rfl (lv_at hl 3 rfl) ?_
  refine lv_iconst (v := 0) hx hb dL_pot_1 (by decide) ?_
  refine lv_aload_n hx hb dL_pot_2 rfl (lv_at hl 0 rfl) ?_
  refine lv_iload_n hx hb dL_pot_3 rfl (lv_at hl 1 rfl) ?_
  refine lv_iload_n hx hb dL_pot_4 rfl (lv_at hl 2 rfl) ?_
  refine rd_V (q := (RX0, TX0, 15)) (ci := 0) (q0 := 0) (As := [.int u, .int w]) (rest := [.int 0, .ref o]) ⟨hx, hb, hml, hown, hts⟩ (mX0_pot_ok l D cy h a R nd n dr fl u w hnd hn hdr hout ) (cwV 2 hts gL_pot_X0_pot rfl rfl rfl (by decide +kernel) ⟨Nat.le_of_ble_eq_true rfl, Nat.le_of_ble_eq_true rfl⟩) (hP.sub (ws' := cC h a cy R nd n dr fl) [0, 1, 2, 3, 4, 5, 6, 7, 8, 9, 10, 11] rfl) hK.kk rfl rfl rfl hl.1 rfl (Nat.le_of_ble_eq_true rfl) dL_pot_5 (Nat.zero_le _) (Nat.zero_le _) ?_
  refine lv_i2l (v := (potAnsS R n u w).toInt64) hx hb dL_pot_8 rfl ?_
  refine va_last hx hb hK.1 hP hD hS 12 1 rfl rfl (vp_in_nI (n := 0) (by omega) (by omega)) dL_pot_9 (fun H locs hP hD hS => ?_)
  have hP : va_P D vwCl (cC h a cy R nd n dr fl ++ [(o, .inl (ly, 1, .inr (.inl (vp_updL g 0 (potAnsS R n u w).toInt64))))]) H := hP
  refine lv_goto (tgt := 17) hx hb dL_pot_10 (by decide) ?_
  refine lv_iconst (v := 0) hx hb dL_pot_17 (by decide) ?_
  refine W.widen (k := 1) (n := 6) (Nat.le_of_ble_eq_true rfl) (Nat.le_of_ble_eq_true rfl) ?_
  exact W.iret (v := 0) hx hb hr (fun t ht hW => ⟨⟨0, (), rfl, rfl, by show va_P D vwCl _ t.heap; rw [ht]; exact hP⟩, hS.F ht⟩) hS.2.2 dL_pot_18

set_option maxHeartbeats 4000000 in
set_option maxRecDepth 100000 in
theorem mL_pot_t1 (l : Launch) (hfl : l.stackTraces = false) (D : va_G) (cy ly : ClassId) (h : Nat) (a : Nat → Nat) (R : Nat → Nat → Int32) (nd n dr : Nat) (fl : Int32) (o : Nat) (g : Nat → Int64) (u w : Int32) (hnd : nd < 1000000) (hn : n < 1000000) (hdr : dr < 1000000) (hout : potqX u w = 1) (sz : Nat) : LhI l yL_pot wsL_pot 7 104 [.ref h, .int u, .int w, .ref o] D cy ly (cC h a cy R nd n dr fl ++ [(o, .inl (ly, 1, .inr (.inl g)))]) (cC h a cy R nd n dr fl ++ [(o, .inl (ly, 1, .inr (.inl g)))]) sz 1 := by
  refine va_MetW (cc := cL_pot) (maxL := 5) (ret := some .int) (hh := [(0, 10, 13, 19)]) (by decide) rfl ?_
  intro p e s m args below meth c s₁ B hml hv
  obtain ⟨rfl, hsz, hP, hK, hD0, hX, hN⟩ := hv
  have hx := B.exec
  have hb := B.bytes
  have hr := B.returns
  have hts := atoms_spec (ws := wsL_pot) B.pre
  have hown : s.vm.findClass RL = some m.cls := findClass_of_methodNamed B.named
  have hlocks := B.notSynchronized
  have htab := vx_table (x := yL_pot) B (hts (.codeWith yL_pot cL_pot 5 (some .int) [(0, 10, 13, 19)]) (by decide +kernel))
  subst hsz
  have hD := hD0.self (sz := s.heap.size)
  generalize hAe : va_A (cC h a cy R nd n dr fl ++ [(o, .inl (ly, 1, .inr (.inl g)))]) s.heap.size = A at hD hX ⊢
  have hA : ∀ q : Nat, s.heap.size ≤ q → A q := fun q h => by rw [← hAe]; exact Or.inr h
  have hS : va_S A s.heap s.heap [] := va_S.rf
  have hl := lv_entry ([.ref h, .int u, .int w, .ref o]) (n := 5) (Nat.le_of_ble_eq_true rfl)
  rw [lg_entry_eq]
  generalize (lg_sl ([.ref h, .int u, .int w, .ref o]) ++ List.replicate (5 - (lg_sl ([.ref h, .int u, .int w, .ref o])).length) Slot.unset).toArray = ls at hl ⊢
  have hl : lv_has ls 5 [(0, .ref h), (1, .int u), (2, .int w), (3, .ref o)] := hl
  refine lv_aload_n hx hb dL_pot_0 rfl (lv_at hl 3 rfl) ?_
  refine lv_iconst (v := 0) hx hb dL_pot_1 (by decide) ?_
  refine lv_aload_n hx hb dL_pot_2 rfl (lv_at hl 0 rfl) ?_
  refine lv_iload_n hx hb dL_pot_3 rfl (lv_at hl 1 rfl) ?_
  refine lv_iload_n hx hb dL_pot_4 rfl (lv_at hl 2 rfl) ?_
  refine th_V (q := (RX0, TX0, 15)) (ci := 0) (q0 := 0) (As := [.int u, .int w]) (rest := [.int 0, .ref o]) ⟨hx, hb, hml, hown, hts⟩ (fun sz => mX0_pot_t1 l hfl D cy h a R nd n dr fl u w hnd hn hdr hout sz) (cwV 2 hts gL_pot_X0_pot rfl rfl rfl (by decide +kernel) ⟨Nat.le_of_ble_eq_true rfl, Nat.le_of_ble_eq_true rfl⟩) hP hK.kk hD hS hA hX [0, 1, 2, 3, 4, 5, 6, 7, 8, 9, 10, 11] [12] [1, 2, 3, 4, 5, 6, 7, 8, 9, 10, 11, 12, 0] rfl rfl rfl (by decide) rfl rfl rfl rfl rfl hl.1 rfl (Nat.le_of_ble_eq_true rfl) dL_pot_5 (Nat.le_of_ble_eq_true rfl) (Nat.le_of_ble_eq_true rfl) (fun ce q9 H locs hP hS hcell hcv hcl => ?_)
  refine vx_catch hown [] ⟨0, 10, 13, 19⟩ [] (by rw [htab]; rfl) (fun z hz => absurd hz List.not_mem_nil) rfl (by decide) (hts (.classLink RL 19 xIOB) (by decide +kernel)) (va_Nw.use rfl hX.2.2.2.2.1) hcell hcv hcl ?_
  refine lv_astore (lv' := [(4, .ref q9), (0, .ref h), (1, .int u), (2, .int w), (3, .ref o)]) hx hb dL_pot_13 hl (by decide) rfl (fun ls hl => ?_)
  refine lv_iconst (v := 1) hx hb dL_pot_15 (by decide) ?_
  exact W.iret (v := 1) hx hb hr (fun t ht hW => ⟨⟨1, (), rfl, rfl, by show va_P D vwCl _ t.heap; rw [ht]; exact hP⟩, hS.F ht⟩) hS.2.2 dL_pot_16

set_option maxHeartbeats 4000000 in
set_option maxRecDepth 100000 in
theorem mL_dish_ok (l : Launch) (D : va_G) (cy ly : ClassId) (h : Nat) (a : Nat → Nat) (R : Nat → Nat → Int32) (nd n dr : Nat) (fl : Int32) (o : Nat) (g : Nat → Int64) (d w : Int32) (hnd : nd < 1000000) (hn : n < 1000000) (hdr : dr < 1000000) (hout : dishqX nd d w = 0) (sz : Nat) : LhI l yL_dish wsL_dish 7 153 [.ref h, .int d, .int w, .ref o] D cy ly (cC h a cy R nd n dr fl ++ [(o, .inl (ly, 1, .inr (.inl g)))]) (cC h a cy R nd n dr fl ++ [(o, .inl (ly, 1, .inr (.inl (vp_updL g 0 (dishAnsS R n d w).toInt64))))]) sz 0 := by
  refine va_MetW (cc := cL_dish) (maxL := 5) (ret := some .int) (hh := [(0, 10, 13, 19)]) (by decide) rfl ?_
  intro p e s m args below meth c s₁ B hml hv
  obtain ⟨rfl, hsz, hP, hK, hD0, hX, hN⟩ := hv
  have hx := B.exec
  have hb := B.bytes
  have hr := B.returns
  have hts := atoms_spec (ws := wsL_dish) B.pre
  have hown : s.vm.findClass RL = some m.cls := findClass_of_methodNamed B.named
  have hlocks := B.notSynchronized
  have htab := vx_table (x := yL_dish) B (hts (.codeWith yL_dish cL_dish 5 (some .int) [(0, 10, 13, 19)]) (by decide +kernel))
  subst hsz
  have hD := hD0.self (sz := s.heap.size)
  generalize hAe : va_A (cC h a cy R nd n dr fl ++ [(o, .inl (ly, 1, .inr (.inl g)))]) s.heap.size = A at hD hX ⊢
  have hA : ∀ q : Nat, s.heap.size ≤ q → A q := fun q h => by rw [← hAe]; exact Or.inr h
  have hS : va_S A s.heap s.heap [] := va_S.rf
  have hl := lv_entry ([.ref h, .int d, .int w, .ref o]) (n := 5) (Nat.le_of_ble_eq_true rfl)
  rw [lg_entry_eq]
  generalize (lg_sl ([.ref h, .int d, .int w, .ref o]) ++ List.replicate (5 - (lg_sl ([.ref h, .int d, .int w, .ref o])).length) Slot.unset).toArray = ls at hl ⊢
  have hl : lv_has ls 5 [(0, .ref h), (1, .int d), (2, .int w), (3, .ref o)] := hl
  refine lv_aload_n hx hb dL_dish_0 rfl (lv_at hl 3 rfl) ?_
  refine lv_iconst (v := 0) hx hb dL_dish_1 (by decide) ?_
  refine lv_aload_n hx hb dL_dish_2 rfl (lv_at hl 0 rfl) ?_
  refine lv_iload_n hx hb dL_dish_3 rfl (lv_at hl 1 rfl) ?_
  refine lv_iload_n hx hb dL_dish_4 rfl (lv_at hl 2 rfl) ?_
  refine rd_V (q := (RX0, TX0, 15)) (ci := 0) (q0 := 0) (As := [.int d, .int w]) (rest := [.int 0, .ref o]) ⟨hx, hb, hml, hown, hts⟩ (mX0_dish_ok l D cy h a R nd n dr fl d w hnd hn hdr hout ) (cwV 2 hts gL_dish_X0_dish rfl rfl rfl (by decide +kernel) ⟨Nat.le_of_ble_eq_true rfl, Nat.le_of_ble_eq_true rfl⟩) (hP.sub (ws' := cC h a cy R nd n dr fl) [0, 1, 2, 3, 4, 5, 6, 7, 8, 9, 10, 11] rfl) hK.kk rfl rfl rfl hl.1 rfl (Nat.le_of_ble_eq_true rfl) dL_dish_5 (Nat.zero_le _) (Nat.zero_le _) ?_
  refine lv_i2l (v := (dishAnsS R n d w).toInt64) hx hb dL_dish_8 rfl ?_
  refine va_last hx hb hK.1 hP hD hS 12 1 rfl rfl (vp_in_nI (n := 0) (by omega) (by omega)) dL_dish_9 (fun H locs hP hD hS => ?_)
  have hP : va_P D vwCl (cC h a cy R nd n dr fl ++ [(o, .inl (ly, 1, .inr (.inl (vp_updL g 0 (dishAnsS R n d w).toInt64))))]) H := hP
  refine lv_goto (tgt := 17) hx hb dL_dish_10 (by decide) ?_
  refine lv_iconst (v := 0) hx hb dL_dish_17 (by decide) ?_
  refine W.widen (k := 1) (n := 6) (Nat.le_of_ble_eq_true rfl) (Nat.le_of_ble_eq_true rfl) ?_
  exact W.iret (v := 0) hx hb hr (fun t ht hW => ⟨⟨0, (), rfl, rfl, by show va_P D vwCl _ t.heap; rw [ht]; exact hP⟩, hS.F ht⟩) hS.2.2 dL_dish_18

set_option maxHeartbeats 4000000 in
set_option maxRecDepth 100000 in
theorem mL_dish_t1 (l : Launch) (hfl : l.stackTraces = false) (D : va_G) (cy ly : ClassId) (h : Nat) (a : Nat → Nat) (R : Nat → Nat → Int32) (nd n dr : Nat) (fl : Int32) (o : Nat) (g : Nat → Int64) (d w : Int32) (hnd : nd < 1000000) (hn : n < 1000000) (hdr : dr < 1000000) (hout : dishqX nd d w = 1) (sz : Nat) : LhI l yL_dish wsL_dish 7 104 [.ref h, .int d, .int w, .ref o] D cy ly (cC h a cy R nd n dr fl ++ [(o, .inl (ly, 1, .inr (.inl g)))]) (cC h a cy R nd n dr fl ++ [(o, .inl (ly, 1, .inr (.inl g)))]) sz 1 := by
  refine va_MetW (cc := cL_dish) (maxL := 5) (ret := some .int) (hh := [(0, 10, 13, 19)]) (by decide) rfl ?_
  intro p e s m args below meth c s₁ B hml hv
  obtain ⟨rfl, hsz, hP, hK, hD0, hX, hN⟩ := hv
  have hx := B.exec
  have hb := B.bytes
  have hr := B.returns
  have hts := atoms_spec (ws := wsL_dish) B.pre
  have hown : s.vm.findClass RL = some m.cls := findClass_of_methodNamed B.named
  have hlocks := B.notSynchronized
  have htab := vx_table (x := yL_dish) B (hts (.codeWith yL_dish cL_dish 5 (some .int) [(0, 10, 13, 19)]) (by decide +kernel))
  subst hsz
  have hD := hD0.self (sz := s.heap.size)
  generalize hAe : va_A (cC h a cy R nd n dr fl ++ [(o, .inl (ly, 1, .inr (.inl g)))]) s.heap.size = A at hD hX ⊢
  have hA : ∀ q : Nat, s.heap.size ≤ q → A q := fun q h => by rw [← hAe]; exact Or.inr h
  have hS : va_S A s.heap s.heap [] := va_S.rf
  have hl := lv_entry ([.ref h, .int d, .int w, .ref o]) (n := 5) (Nat.le_of_ble_eq_true rfl)
  rw [lg_entry_eq]
  generalize (lg_sl ([.ref h, .int d, .int w, .ref o]) ++ List.replicate (5 - (lg_sl ([.ref h, .int d, .int w, .ref o])).length) Slot.unset).toArray = ls at hl ⊢
  have hl : lv_has ls 5 [(0, .ref h), (1, .int d), (2, .int w), (3, .ref o)] := hl
  refine lv_aload_n hx hb dL_dish_0 rfl (lv_at hl 3 rfl) ?_
  refine lv_iconst (v := 0) hx hb dL_dish_1 (by decide) ?_
  refine lv_aload_n hx hb dL_dish_2 rfl (lv_at hl 0 rfl) ?_
  refine lv_iload_n hx hb dL_dish_3 rfl (lv_at hl 1 rfl) ?_
  refine lv_iload_n hx hb dL_dish_4 rfl (lv_at hl 2 rfl) ?_
  refine th_V (q := (RX0, TX0, 15)) (ci := 0) (q0 := 0) (As := [.int d, .int w]) (rest := [.int 0, .ref o]) ⟨hx, hb, hml, hown, hts⟩ (fun sz => mX0_dish_t1 l hfl D cy h a R nd n dr fl d w hnd hn hdr hout sz) (cwV 2 hts gL_dish_X0_dish rfl rfl rfl (by decide +kernel) ⟨Nat.le_of_ble_eq_true rfl, Nat.le_of_ble_eq_true rfl⟩) hP hK.kk hD hS hA hX [0, 1, 2, 3, 4, 5, 6, 7, 8, 9, 10, 11] [12] [1, 2, 3, 4, 5, 6, 7, 8, 9, 10, 11, 12, 0] rfl rfl rfl (by decide) rfl rfl rfl rfl rfl hl.1 rfl (Nat.le_of_ble_eq_true rfl) dL_dish_5 (Nat.le_of_ble_eq_true rfl) (Nat.le_of_ble_eq_true rfl) (fun ce q9 H locs hP hS hcell hcv hcl => ?_)
  refine vx_catch hown [] ⟨0, 10, 13, 19⟩ [] (by rw [htab]; rfl) (fun z hz => absurd hz List.not_mem_nil) rfl (by decide) (hts (.classLink RL 19 xIOB) (by decide +kernel)) (va_Nw.use rfl hX.2.2.2.2.1) hcell hcv hcl ?_
  refine lv_astore (lv' := [(4, .ref q9), (0, .ref h), (1, .int d), (2, .int w), (3, .ref o)]) hx hb dL_dish_13 hl (by decide) rfl (fun ls hl => ?_)
  refine lv_iconst (v := 1) hx hb dL_dish_15 (by decide) ?_
  exact W.iret (v := 1) hx hb hr (fun t ht hW => ⟨⟨1, (), rfl, rfl, by show va_P D vwCl _ t.heap; rw [ht]; exact hP⟩, hS.F ht⟩) hS.2.2 dL_dish_16

set_option maxHeartbeats 4000000 in
set_option maxRecDepth 100000 in
theorem mL_line_ok (l : Launch) (D : va_G) (cy ly : ClassId) (h : Nat) (a : Nat → Nat) (R : Nat → Nat → Int32) (nd n dr : Nat) (fl : Int32) (o : Nat) (g : Nat → Int64) (u w : Int32) (hnd : nd < 1000000) (hn : n < 1000000) (hdr : dr < 1000000) (hout : lineqX n u w = 0) (sz : Nat) : LhI l yL_line wsL_line 4 86 [.ref h, .int u, .int w, .ref o] D cy ly (cC h a cy R nd n dr fl ++ [(o, .inl (ly, 1, .inr (.inl g)))]) (cC h a cy R nd n dr fl ++ [(o, .inl (ly, 1, .inr (.inl (vp_updL g 0 (lineAnsS R dr u w).toInt64))))]) sz 0 := by
  refine va_MetW (cc := cL_line) (maxL := 5) (ret := some .int) (hh := [(0, 10, 13, 19)]) (by decide) rfl ?_
  intro p e s m args below meth c s₁ B hml hv
  obtain ⟨rfl, hsz, hP, hK, hD0, hX, hN⟩ := hv
  have hx := B.exec
  have hb := B.bytes
  have hr := B.returns
  have hts := atoms_spec (ws := wsL_line) B.pre
  have hown : s.vm.findClass RL = some m.cls := findClass_of_methodNamed B.named
  have hlocks := B.notSynchronized
  have htab := vx_table (x := yL_line) B (hts (.codeWith yL_line cL_line 5 (some .int) [(0, 10, 13, 19)]) (by decide +kernel))
  subst hsz
  have hD := hD0.self (sz := s.heap.size)
  generalize hAe : va_A (cC h a cy R nd n dr fl ++ [(o, .inl (ly, 1, .inr (.inl g)))]) s.heap.size = A at hD hX ⊢
  have hA : ∀ q : Nat, s.heap.size ≤ q → A q := fun q h => by rw [← hAe]; exact Or.inr h
  have hS : va_S A s.heap s.heap [] := va_S.rf
  have hl := lv_entry ([.ref h, .int u, .int w, .ref o]) (n := 5) (Nat.le_of_ble_eq_true rfl)
  rw [lg_entry_eq]
  generalize (lg_sl ([.ref h, .int u, .int w, .ref o]) ++ List.replicate (5 - (lg_sl ([.ref h, .int u, .int w, .ref o])).length) Slot.unset).toArray = ls at hl ⊢
  have hl : lv_has ls 5 [(0, .ref h), (1, .int u), (2, .int w), (3, .ref o)] := hl
  refine lv_aload_n hx hb dL_line_0 rfl (lv_at hl 3 rfl) ?_
  refine lv_iconst (v := 0) hx hb dL_line_1 (by decide) ?_
  refine lv_aload_n hx hb dL_line_2 rfl (lv_at hl 0 rfl) ?_
  refine lv_iload_n hx hb dL_line_3 rfl (lv_at hl 1 rfl) ?_
  refine lv_iload_n hx hb dL_line_4 rfl (lv_at hl 2 rfl) ?_
  refine rd_V (q := (RX0, TX0, 15)) (ci := 0) (q0 := 0) (As := [.int u, .int w]) (rest := [.int 0, .ref o]) ⟨hx, hb, hml, hown, hts⟩ (mX0_line_ok l D cy h a R nd n dr fl u w hnd hn hdr hout ) (cwV 2 hts gL_line_X0_line rfl rfl rfl (by decide +kernel) ⟨Nat.le_of_ble_eq_true rfl, Nat.le_of_ble_eq_true rfl⟩) (hP.sub (ws' := cC h a cy R nd n dr fl) [0, 1, 2, 3, 4, 5, 6, 7, 8, 9, 10, 11] rfl) hK.kk rfl rfl rfl hl.1 rfl (Nat.le_of_ble_eq_true rfl) dL_line_5 (Nat.zero_le _) (Nat.zero_le _) ?_
  refine lv_i2l (v := (lineAnsS R dr u w).toInt64) hx hb dL_line_8 rfl ?_
  refine va_last hx hb hK.1 hP hD hS 12 1 rfl rfl (vp_in_nI (n := 0) (by omega) (by omega)) dL_line_9 (fun H locs hP hD hS => ?_)
  have hP : va_P D vwCl (cC h a cy R nd n dr fl ++ [(o, .inl (ly, 1, .inr (.inl (vp_updL g 0 (lineAnsS R dr u w).toInt64))))]) H := hP
  refine lv_goto (tgt := 17) hx hb dL_line_10 (by decide) ?_
  refine lv_iconst (v := 0) hx hb dL_line_17 (by decide) ?_
  refine W.widen (k := 1) (n := 6) (Nat.le_of_ble_eq_true rfl) (Nat.le_of_ble_eq_true rfl) ?_
  exact W.iret (v := 0) hx hb hr (fun t ht hW => ⟨⟨0, (), rfl, rfl, by show va_P D vwCl _ t.heap; rw [ht]; exact hP⟩, hS.F ht⟩) hS.2.2 dL_line_18

set_option maxHeartbeats 4000000 in
set_option maxRecDepth 100000 in
theorem mL_line_t1 (l : Launch) (hfl : l.stackTraces = false) (D : va_G) (cy ly : ClassId) (h : Nat) (a : Nat → Nat) (R : Nat → Nat → Int32) (nd n dr : Nat) (fl : Int32) (o : Nat) (g : Nat → Int64) (u w : Int32) (hnd : nd < 1000000) (hn : n < 1000000) (hdr : dr < 1000000) (hout : lineqX n u w = 1) (sz : Nat) : LhI l yL_line wsL_line 7 104 [.ref h, .int u, .int w, .ref o] D cy ly (cC h a cy R nd n dr fl ++ [(o, .inl (ly, 1, .inr (.inl g)))]) (cC h a cy R nd n dr fl ++ [(o, .inl (ly, 1, .inr (.inl g)))]) sz 1 := by
  refine va_MetW (cc := cL_line) (maxL := 5) (ret := some .int) (hh := [(0, 10, 13, 19)]) (by decide) rfl ?_
  intro p e s m args below meth c s₁ B hml hv
  obtain ⟨rfl, hsz, hP, hK, hD0, hX, hN⟩ := hv
  have hx := B.exec
  have hb := B.bytes
  have hr := B.returns
  have hts := atoms_spec (ws := wsL_line) B.pre
  have hown : s.vm.findClass RL = some m.cls := findClass_of_methodNamed B.named
  have hlocks := B.notSynchronized
  have htab := vx_table (x := yL_line) B (hts (.codeWith yL_line cL_line 5 (some .int) [(0, 10, 13, 19)]) (by decide +kernel))
  subst hsz
  have hD := hD0.self (sz := s.heap.size)
  generalize hAe : va_A (cC h a cy R nd n dr fl ++ [(o, .inl (ly, 1, .inr (.inl g)))]) s.heap.size = A at hD hX ⊢
  have hA : ∀ q : Nat, s.heap.size ≤ q → A q := fun q h => by rw [← hAe]; exact Or.inr h
  have hS : va_S A s.heap s.heap [] := va_S.rf
  have hl := lv_entry ([.ref h, .int u, .int w, .ref o]) (n := 5) (Nat.le_of_ble_eq_true rfl)
  rw [lg_entry_eq]
  generalize (lg_sl ([.ref h, .int u, .int w, .ref o]) ++ List.replicate (5 - (lg_sl ([.ref h, .int u, .int w, .ref o])).length) Slot.unset).toArray = ls at hl ⊢
  have hl : lv_has ls 5 [(0, .ref h), (1, .int u), (2, .int w), (3, .ref o)] := hl
  refine lv_aload_n hx hb dL_line_0 rfl (lv_at hl 3 rfl) ?_
  refine lv_iconst (v := 0) hx hb dL_line_1 (by decide) ?_
  refine lv_aload_n hx hb dL_line_2 rfl (lv_at hl 0 rfl) ?_
  refine lv_iload_n hx hb dL_line_3 rfl (lv_at hl 1 rfl) ?_
  refine lv_iload_n hx hb dL_line_4 rfl (lv_at hl 2 rfl) ?_
  refine th_V (q := (RX0, TX0, 15)) (ci := 0) (q0 := 0) (As := [.int u, .int w]) (rest := [.int 0, .ref o]) ⟨hx, hb, hml, hown, hts⟩ (fun sz => mX0_line_t1 l hfl D cy h a R nd n dr fl u w hnd hn hdr hout sz) (cwV 2 hts gL_line_X0_line rfl rfl rfl (by decide +kernel) ⟨Nat.le_of_ble_eq_true rfl, Nat.le_of_ble_eq_true rfl⟩) hP hK.kk hD hS hA hX [0, 1, 2, 3, 4, 5, 6, 7, 8, 9, 10, 11] [12] [1, 2, 3, 4, 5, 6, 7, 8, 9, 10, 11, 12, 0] rfl rfl rfl (by decide) rfl rfl rfl rfl rfl hl.1 rfl (Nat.le_of_ble_eq_true rfl) dL_line_5 (Nat.le_of_ble_eq_true rfl) (Nat.le_of_ble_eq_true rfl) (fun ce q9 H locs hP hS hcell hcv hcl => ?_)
  refine vx_catch hown [] ⟨0, 10, 13, 19⟩ [] (by rw [htab]; rfl) (fun z hz => absurd hz List.not_mem_nil) rfl (by decide) (hts (.classLink RL 19 xIOB) (by decide +kernel)) (va_Nw.use rfl hX.2.2.2.2.1) hcell hcv hcl ?_
  refine lv_astore (lv' := [(4, .ref q9), (0, .ref h), (1, .int u), (2, .int w), (3, .ref o)]) hx hb dL_line_13 hl (by decide) rfl (fun ls hl => ?_)
  refine lv_iconst (v := 1) hx hb dL_line_15 (by decide) ?_
  exact W.iret (v := 1) hx hb hr (fun t ht hW => ⟨⟨1, (), rfl, rfl, by show va_P D vwCl _ t.heap; rw [ht]; exact hP⟩, hS.F ht⟩) hS.2.2 dL_line_16

set_option maxHeartbeats 4000000 in
set_option maxRecDepth 100000 in
theorem mL_count_ok (l : Launch) (D : va_G) (cy ly : ClassId) (h : Nat) (a : Nat → Nat) (R : Nat → Nat → Int32) (nd n dr : Nat) (fl : Int32) (o : Nat) (g : Nat → Int64) (w : Int32) (hnd : nd < 1000000) (hn : n < 1000000) (hdr : dr < 1000000) (hout : countqX w = 0) (sz : Nat) : LhI l yL_count wsL_count 7 153 [.ref h, .int w, .ref o] D cy ly (cC h a cy R nd n dr fl ++ [(o, .inl (ly, 1, .inr (.inl g)))]) (cC h a cy R nd n dr fl ++ [(o, .inl (ly, 1, .inr (.inl (vp_updL g 0 (countAnsS R nd n dr fl w).toInt64))))]) sz 0 := by
  refine va_MetW (cc := cL_count) (maxL := 4) (ret := some .int) (hh := [(0, 9, 12, 19)]) (by decide) rfl ?_
  intro p e s m args below meth c s₁ B hml hv
  obtain ⟨rfl, hsz, hP, hK, hD0, hX, hN⟩ := hv
  have hx := B.exec
  have hb := B.bytes
  have hr := B.returns
  have hts := atoms_spec (ws := wsL_count) B.pre
  have hown : s.vm.findClass RL = some m.cls := findClass_of_methodNamed B.named
  have hlocks := B.notSynchronized
  have htab := vx_table (x := yL_count) B (hts (.codeWith yL_count cL_count 4 (some .int) [(0, 9, 12, 19)]) (by decide +kernel))
  subst hsz
  have hD := hD0.self (sz := s.heap.size)
  generalize hAe : va_A (cC h a cy R nd n dr fl ++ [(o, .inl (ly, 1, .inr (.inl g)))]) s.heap.size = A at hD hX ⊢
  have hA : ∀ q : Nat, s.heap.size ≤ q → A q := fun q h => by rw [← hAe]; exact Or.inr h
  have hS : va_S A s.heap s.heap [] := va_S.rf
  have hl := lv_entry ([.ref h, .int w, .ref o]) (n := 4) (Nat.le_of_ble_eq_true rfl)
  rw [lg_entry_eq]
  generalize (lg_sl ([.ref h, .int w, .ref o]) ++ List.replicate (4 - (lg_sl ([.ref h, .int w, .ref o])).length) Slot.unset).toArray = ls at hl ⊢
  have hl : lv_has ls 4 [(0, .ref h), (1, .int w), (2, .ref o)] := hl
  refine lv_aload_n hx hb dL_count_0 rfl (lv_at hl 2 rfl) ?_
  refine lv_iconst (v := 0) hx hb dL_count_1 (by decide) ?_
  refine lv_aload_n hx hb dL_count_2 rfl (lv_at hl 0 rfl) ?_
  refine lv_iload_n hx hb dL_count_3 rfl (lv_at hl 1 rfl) ?_
  refine rd_V (q := (RX0, TX0, 15)) (ci := 0) (q0 := 0) (As := [.int w]) (rest := [.int 0, .ref o]) ⟨hx, hb, hml, hown, hts⟩ (mX0_count_ok l D cy h a R nd n dr fl w hnd hn hdr hout ) (cwV 1 hts gL_count_X0_count rfl rfl rfl (by decide +kernel) ⟨Nat.le_of_ble_eq_true rfl, Nat.le_of_ble_eq_true rfl⟩) (hP.sub (ws' := cC h a cy R nd n dr fl) [0, 1, 2, 3, 4, 5, 6, 7, 8, 9, 10, 11] rfl) hK.kk rfl rfl rfl hl.1 rfl (Nat.le_of_ble_eq_true rfl) dL_count_4 (Nat.zero_le _) (Nat.zero_le _) ?_
  refine lv_i2l (v := (countAnsS R nd n dr fl w).toInt64) hx hb dL_count_7 rfl ?_
  refine va_last hx hb hK.1 hP hD hS 12 1 rfl rfl (vp_in_nI (n := 0) (by omega) (by omega)) dL_count_8 (fun H locs hP hD hS => ?_)
  have hP : va_P D vwCl (cC h a cy R nd n dr fl ++ [(o, .inl (ly, 1, .inr (.inl (vp_updL g 0 (countAnsS R nd n dr fl w).toInt64))))]) H := hP
  refine lv_goto (tgt := 15) hx hb dL_count_9 (by decide) ?_
  refine lv_iconst (v := 0) hx hb dL_count_15 (by decide) ?_
  refine W.widen (k := 1) (n := 6) (Nat.le_of_ble_eq_true rfl) (Nat.le_of_ble_eq_true rfl) ?_
  exact W.iret (v := 0) hx hb hr (fun t ht hW => ⟨⟨0, (), rfl, rfl, by show va_P D vwCl _ t.heap; rw [ht]; exact hP⟩, hS.F ht⟩) hS.2.2 dL_count_16

set_option maxHeartbeats 4000000 in
set_option maxRecDepth 100000 in
theorem mL_count_t1 (l : Launch) (hfl : l.stackTraces = false) (D : va_G) (cy ly : ClassId) (h : Nat) (a : Nat → Nat) (R : Nat → Nat → Int32) (nd n dr : Nat) (fl : Int32) (o : Nat) (g : Nat → Int64) (w : Int32) (hnd : nd < 1000000) (hn : n < 1000000) (hdr : dr < 1000000) (hout : countqX w = 1) (sz : Nat) : LhI l yL_count wsL_count 7 103 [.ref h, .int w, .ref o] D cy ly (cC h a cy R nd n dr fl ++ [(o, .inl (ly, 1, .inr (.inl g)))]) (cC h a cy R nd n dr fl ++ [(o, .inl (ly, 1, .inr (.inl g)))]) sz 1 := by
  refine va_MetW (cc := cL_count) (maxL := 4) (ret := some .int) (hh := [(0, 9, 12, 19)]) (by decide) rfl ?_
  intro p e s m args below meth c s₁ B hml hv
  obtain ⟨rfl, hsz, hP, hK, hD0, hX, hN⟩ := hv
  have hx := B.exec
  have hb := B.bytes
  have hr := B.returns
  have hts := atoms_spec (ws := wsL_count) B.pre
  have hown : s.vm.findClass RL = some m.cls := findClass_of_methodNamed B.named
  have hlocks := B.notSynchronized
  have htab := vx_table (x := yL_count) B (hts (.codeWith yL_count cL_count 4 (some .int) [(0, 9, 12, 19)]) (by decide +kernel))
  subst hsz
  have hD := hD0.self (sz := s.heap.size)
  generalize hAe : va_A (cC h a cy R nd n dr fl ++ [(o, .inl (ly, 1, .inr (.inl g)))]) s.heap.size = A at hD hX ⊢
  have hA : ∀ q : Nat, s.heap.size ≤ q → A q := fun q h => by rw [← hAe]; exact Or.inr h
  have hS : va_S A s.heap s.heap [] := va_S.rf
  have hl := lv_entry ([.ref h, .int w, .ref o]) (n := 4) (Nat.le_of_ble_eq_true rfl)
  rw [lg_entry_eq]
  generalize (lg_sl ([.ref h, .int w, .ref o]) ++ List.replicate (4 - (lg_sl ([.ref h, .int w, .ref o])).length) Slot.unset).toArray = ls at hl ⊢
  have hl : lv_has ls 4 [(0, .ref h), (1, .int w), (2, .ref o)] := hl
  refine lv_aload_n hx hb dL_count_0 rfl (lv_at hl 2 rfl) ?_
  refine lv_iconst (v := 0) hx hb dL_count_1 (by decide) ?_
  refine lv_aload_n hx hb dL_count_2 rfl (lv_at hl 0 rfl) ?_
  refine lv_iload_n hx hb dL_count_3 rfl (lv_at hl 1 rfl) ?_
  refine th_V (q := (RX0, TX0, 15)) (ci := 0) (q0 := 0) (As := [.int w]) (rest := [.int 0, .ref o]) ⟨hx, hb, hml, hown, hts⟩ (fun sz => mX0_count_t1 l hfl D cy h a R nd n dr fl w hnd hn hdr hout sz) (cwV 1 hts gL_count_X0_count rfl rfl rfl (by decide +kernel) ⟨Nat.le_of_ble_eq_true rfl, Nat.le_of_ble_eq_true rfl⟩) hP hK.kk hD hS hA hX [0, 1, 2, 3, 4, 5, 6, 7, 8, 9, 10, 11] [12] [1, 2, 3, 4, 5, 6, 7, 8, 9, 10, 11, 12, 0] rfl rfl rfl (by decide) rfl rfl rfl rfl rfl hl.1 rfl (Nat.le_of_ble_eq_true rfl) dL_count_4 (Nat.le_of_ble_eq_true rfl) (Nat.le_of_ble_eq_true rfl) (fun ce q9 H locs hP hS hcell hcv hcl => ?_)
  refine vx_catch hown [] ⟨0, 9, 12, 19⟩ [] (by rw [htab]; rfl) (fun z hz => absurd hz List.not_mem_nil) rfl (by decide) (hts (.classLink RL 19 xIOB) (by decide +kernel)) (va_Nw.use rfl hX.2.2.2.2.1) hcell hcv hcl ?_
  refine lv_astore_n (lv' := [(3, .ref q9), (0, .ref h), (1, .int w), (2, .ref o)]) hx hb dL_count_12 rfl hl (by decide) rfl (fun ls hl => ?_)
  refine lv_iconst (v := 1) hx hb dL_count_13 (by decide) ?_
  exact W.iret (v := 1) hx hb hr (fun t ht hW => ⟨⟨1, (), rfl, rfl, by show va_P D vwCl _ t.heap; rw [ht]; exact hP⟩, hS.F ht⟩) hS.2.2 dL_count_14

set_option maxHeartbeats 4000000 in
set_option maxRecDepth 100000 in
theorem mL_would_ok (l : Launch) (D : va_G) (cy ly : ClassId) (h : Nat) (a : Nat → Nat) (R : Nat → Nat → Int32) (nd n dr : Nat) (fl : Int32) (o : Nat) (g : Nat → Int64) (w : Int32) (hnd : nd < 1000000) (hn : n < 1000000) (hdr : dr < 1000000) (hout : wouldX w = 0) (sz : Nat) : LhI l yL_would wsL_would 6 132 [.ref h, .int w, .ref o] D cy ly (cC h a cy R nd n dr fl ++ [(o, .inl (ly, 1, .inr (.inl g)))]) (cC h a cy R nd n dr fl ++ [(o, .inl (ly, 1, .inr (.inl (vp_updL g 0 (wouldAnsS R nd n dr w).toInt64))))]) sz 0 := by
  refine va_MetW (cc := cL_would) (maxL := 4) (ret := some .int) (hh := [(0, 9, 12, 19)]) (by decide) rfl ?_
  intro p e s m args below meth c s₁ B hml hv
  obtain ⟨rfl, hsz, hP, hK, hD0, hX, hN⟩ := hv
  have hx := B.exec
  have hb := B.bytes
  have hr := B.returns
  have hts := atoms_spec (ws := wsL_would) B.pre
  have hown : s.vm.findClass RL = some m.cls := findClass_of_methodNamed B.named
  have hlocks := B.notSynchronized
  have htab := vx_table (x := yL_would) B (hts (.codeWith yL_would cL_would 4 (some .int) [(0, 9, 12, 19)]) (by decide +kernel))
  subst hsz
  have hD := hD0.self (sz := s.heap.size)
  generalize hAe : va_A (cC h a cy R nd n dr fl ++ [(o, .inl (ly, 1, .inr (.inl g)))]) s.heap.size = A at hD hX ⊢
  have hA : ∀ q : Nat, s.heap.size ≤ q → A q := fun q h => by rw [← hAe]; exact Or.inr h
  have hS : va_S A s.heap s.heap [] := va_S.rf
  have hl := lv_entry ([.ref h, .int w, .ref o]) (n := 4) (Nat.le_of_ble_eq_true rfl)
  rw [lg_entry_eq]
  generalize (lg_sl ([.ref h, .int w, .ref o]) ++ List.replicate (4 - (lg_sl ([.ref h, .int w, .ref o])).length) Slot.unset).toArray = ls at hl ⊢
  have hl : lv_has ls 4 [(0, .ref h), (1, .int w), (2, .ref o)] := hl
  refine lv_aload_n hx hb dL_would_0 rfl (lv_at hl 2 rfl) ?_
  refine lv_iconst (v := 0) hx hb dL_would_1 (by decide) ?_
  refine lv_aload_n hx hb dL_would_2 rfl (lv_at hl 0 rfl) ?_
  refine lv_iload_n hx hb dL_would_3 rfl (lv_at hl 1 rfl) ?_
  refine rd_V (q := (RX0, TX0, 15)) (ci := 0) (q0 := 0) (As := [.int w]) (rest := [.int 0, .ref o]) ⟨hx, hb, hml, hown, hts⟩ (mX0_would_ok l D cy h a R nd n dr fl w hnd hn hdr hout ) (cwV 1 hts gL_would_X0_would rfl rfl rfl (by decide +kernel) ⟨Nat.le_of_ble_eq_true rfl, Nat.le_of_ble_eq_true rfl⟩) (hP.sub (ws' := cC h a cy R nd n dr fl) [0, 1, 2, 3, 4, 5, 6, 7, 8, 9, 10, 11] rfl) hK.kk rfl rfl rfl hl.1 rfl (Nat.le_of_ble_eq_true rfl) dL_would_4 (Nat.zero_le _) (Nat.zero_le _) ?_
  refine lv_i2l (v := (wouldAnsS R nd n dr w).toInt64) hx hb dL_would_7 rfl ?_
  refine va_last hx hb hK.1 hP hD hS 12 1 rfl rfl (vp_in_nI (n := 0) (by omega) (by omega)) dL_would_8 (fun H locs hP hD hS => ?_)
  have hP : va_P D vwCl (cC h a cy R nd n dr fl ++ [(o, .inl (ly, 1, .inr (.inl (vp_updL g 0 (wouldAnsS R nd n dr w).toInt64))))]) H := hP
  refine lv_goto (tgt := 15) hx hb dL_would_9 (by decide) ?_
  refine lv_iconst (v := 0) hx hb dL_would_15 (by decide) ?_
  refine W.widen (k := 1) (n := 6) (Nat.le_of_ble_eq_true rfl) (Nat.le_of_ble_eq_true rfl) ?_
  exact W.iret (v := 0) hx hb hr (fun t ht hW => ⟨⟨0, (), rfl, rfl, by show va_P D vwCl _ t.heap; rw [ht]; exact hP⟩, hS.F ht⟩) hS.2.2 dL_would_16

set_option maxHeartbeats 4000000 in
set_option maxRecDepth 100000 in
theorem mL_would_t1 (l : Launch) (hfl : l.stackTraces = false) (D : va_G) (cy ly : ClassId) (h : Nat) (a : Nat → Nat) (R : Nat → Nat → Int32) (nd n dr : Nat) (fl : Int32) (o : Nat) (g : Nat → Int64) (w : Int32) (hnd : nd < 1000000) (hn : n < 1000000) (hdr : dr < 1000000) (hout : wouldX w = 1) (sz : Nat) : LhI l yL_would wsL_would 7 103 [.ref h, .int w, .ref o] D cy ly (cC h a cy R nd n dr fl ++ [(o, .inl (ly, 1, .inr (.inl g)))]) (cC h a cy R nd n dr fl ++ [(o, .inl (ly, 1, .inr (.inl g)))]) sz 1 := by
  refine va_MetW (cc := cL_would) (maxL := 4) (ret := some .int) (hh := [(0, 9, 12, 19)]) (by decide) rfl ?_
  intro p e s m args below meth c s₁ B hml hv
  obtain ⟨rfl, hsz, hP, hK, hD0, hX, hN⟩ := hv
  have hx := B.exec
  have hb := B.bytes
  have hr := B.returns
  have hts := atoms_spec (ws := wsL_would) B.pre
  have hown : s.vm.findClass RL = some m.cls := findClass_of_methodNamed B.named
  have hlocks := B.notSynchronized
  have htab := vx_table (x := yL_would) B (hts (.codeWith yL_would cL_would 4 (some .int) [(0, 9, 12, 19)]) (by decide +kernel))
  subst hsz
  have hD := hD0.self (sz := s.heap.size)
  generalize hAe : va_A (cC h a cy R nd n dr fl ++ [(o, .inl (ly, 1, .inr (.inl g)))]) s.heap.size = A at hD hX ⊢
  have hA : ∀ q : Nat, s.heap.size ≤ q → A q := fun q h => by rw [← hAe]; exact Or.inr h
  have hS : va_S A s.heap s.heap [] := va_S.rf
  have hl := lv_entry ([.ref h, .int w, .ref o]) (n := 4) (Nat.le_of_ble_eq_true rfl)
  rw [lg_entry_eq]
  generalize (lg_sl ([.ref h, .int w, .ref o]) ++ List.replicate (4 - (lg_sl ([.ref h, .int w, .ref o])).length) Slot.unset).toArray = ls at hl ⊢
  have hl : lv_has ls 4 [(0, .ref h), (1, .int w), (2, .ref o)] := hl
  refine lv_aload_n hx hb dL_would_0 rfl (lv_at hl 2 rfl) ?_
  refine lv_iconst (v := 0) hx hb dL_would_1 (by decide) ?_
  refine lv_aload_n hx hb dL_would_2 rfl (lv_at hl 0 rfl) ?_
  refine lv_iload_n hx hb dL_would_3 rfl (lv_at hl 1 rfl) ?_
  refine th_V (q := (RX0, TX0, 15)) (ci := 0) (q0 := 0) (As := [.int w]) (rest := [.int 0, .ref o]) ⟨hx, hb, hml, hown, hts⟩ (fun sz => mX0_would_t1 l hfl D cy h a R nd n dr fl w hnd hn hdr hout sz) (cwV 1 hts gL_would_X0_would rfl rfl rfl (by decide +kernel) ⟨Nat.le_of_ble_eq_true rfl, Nat.le_of_ble_eq_true rfl⟩) hP hK.kk hD hS hA hX [0, 1, 2, 3, 4, 5, 6, 7, 8, 9, 10, 11] [12] [1, 2, 3, 4, 5, 6, 7, 8, 9, 10, 11, 12, 0] rfl rfl rfl (by decide) rfl rfl rfl rfl rfl hl.1 rfl (Nat.le_of_ble_eq_true rfl) dL_would_4 (Nat.le_of_ble_eq_true rfl) (Nat.le_of_ble_eq_true rfl) (fun ce q9 H locs hP hS hcell hcv hcl => ?_)
  refine vx_catch hown [] ⟨0, 9, 12, 19⟩ [] (by rw [htab]; rfl) (fun z hz => absurd hz List.not_mem_nil) rfl (by decide) (hts (.classLink RL 19 xIOB) (by decide +kernel)) (va_Nw.use rfl hX.2.2.2.2.1) hcell hcv hcl ?_
  refine lv_astore_n (lv' := [(3, .ref q9), (0, .ref h), (1, .int w), (2, .ref o)]) hx hb dL_would_12 rfl hl (by decide) rfl (fun ls hl => ?_)
  refine lv_iconst (v := 1) hx hb dL_would_13 (by decide) ?_
  exact W.iret (v := 1) hx hb hr (fun t ht hW => ⟨⟨1, (), rfl, rfl, by show va_P D vwCl _ t.heap; rw [ht]; exact hP⟩, hS.F ht⟩) hS.2.2 dL_would_14

set_option maxHeartbeats 4000000 in
set_option maxRecDepth 100000 in
theorem mL_left_ok (l : Launch) (D : va_G) (cy ly : ClassId) (h : Nat) (a : Nat → Nat) (R : Nat → Nat → Int32) (nd n dr : Nat) (fl : Int32) (o : Nat) (g : Nat → Int64) (u : Int32) (hnd : nd < 1000000) (hn : n < 1000000) (hdr : dr < 1000000) (hout : potX u = 0) (sz : Nat) : LhI l yL_left wsL_left 5 113 [.ref h, .int u, .ref o] D cy ly (cC h a cy R nd n dr fl ++ [(o, .inl (ly, 1, .inr (.inl g)))]) (cC h a cy R nd n dr fl ++ [(o, .inl (ly, 1, .inr (.inl (vp_updL g 0 (leftAnsS R nd dr u).toInt64))))]) sz 0 := by
  refine va_MetW (cc := cL_left) (maxL := 4) (ret := some .int) (hh := [(0, 9, 12, 19)]) (by decide) rfl ?_
  intro p e s m args below meth c s₁ B hml hv
  obtain ⟨rfl, hsz, hP, hK, hD0, hX, hN⟩ := hv
  have hx := B.exec
  have hb := B.bytes
  have hr := B.returns
  have hts := atoms_spec (ws := wsL_left) B.pre
  have hown : s.vm.findClass RL = some m.cls := findClass_of_methodNamed B.named
  have hlocks := B.notSynchronized
  have htab := vx_table (x := yL_left) B (hts (.codeWith yL_left cL_left 4 (some .int) [(0, 9, 12, 19)]) (by decide +kernel))
  subst hsz
  have hD := hD0.self (sz := s.heap.size)
  generalize hAe : va_A (cC h a cy R nd n dr fl ++ [(o, .inl (ly, 1, .inr (.inl g)))]) s.heap.size = A at hD hX ⊢
  have hA : ∀ q : Nat, s.heap.size ≤ q → A q := fun q h => by rw [← hAe]; exact Or.inr h
  have hS : va_S A s.heap s.heap [] := va_S.rf
  have hl := lv_entry ([.ref h, .int u, .ref o]) (n := 4) (Nat.le_of_ble_eq_true rfl)
  rw [lg_entry_eq]
  generalize (lg_sl ([.ref h, .int u, .ref o]) ++ List.replicate (4 - (lg_sl ([.ref h, .int u, .ref o])).length) Slot.unset).toArray = ls at hl ⊢
  have hl : lv_has ls 4 [(0, .ref h), (1, .int u), (2, .ref o)] := hl
  refine lv_aload_n hx hb dL_left_0 rfl (lv_at hl 2 rfl) ?_
  refine lv_iconst (v := 0) hx hb dL_left_1 (by decide) ?_
  refine lv_aload_n hx hb dL_left_2 rfl (lv_at hl 0 rfl) ?_
  refine lv_iload_n hx hb dL_left_3 rfl (lv_at hl 1 rfl) ?_
  refine rd_V (q := (RX0, TX0, 15)) (ci := 0) (q0 := 0) (As := [.int u]) (rest := [.int 0, .ref o]) ⟨hx, hb, hml, hown, hts⟩ (mX0_left_ok l D cy h a R nd n dr fl u hnd hn hdr hout ) (cwV 1 hts gL_left_X0_left rfl rfl rfl (by decide +kernel) ⟨Nat.le_of_ble_eq_true rfl, Nat.le_of_ble_eq_true rfl⟩) (hP.sub (ws' := cC h a cy R nd n dr fl) [0, 1, 2, 3, 4, 5, 6, 7, 8, 9, 10, 11] rfl) hK.kk rfl rfl rfl hl.1 rfl (Nat.le_of_ble_eq_true rfl) dL_left_4 (Nat.zero_le _) (Nat.zero_le _) ?_
  refine lv_i2l (v := (leftAnsS R nd dr u).toInt64) hx hb dL_left_7 rfl ?_
  refine va_last hx hb hK.1 hP hD hS 12 1 rfl rfl (vp_in_nI (n := 0) (by omega) (by omega)) dL_left_8 (fun H locs hP hD hS => ?_)
  have hP : va_P D vwCl (cC h a cy R nd n dr fl ++ [(o, .inl (ly, 1, .inr (.inl (vp_updL g 0 (leftAnsS R nd dr u).toInt64))))]) H := hP
  refine lv_goto (tgt := 15) hx hb dL_left_9 (by decide) ?_
  refine lv_iconst (v := 0) hx hb dL_left_15 (by decide) ?_
  refine W.widen (k := 1) (n := 6) (Nat.le_of_ble_eq_true rfl) (Nat.le_of_ble_eq_true rfl) ?_
  exact W.iret (v := 0) hx hb hr (fun t ht hW => ⟨⟨0, (), rfl, rfl, by show va_P D vwCl _ t.heap; rw [ht]; exact hP⟩, hS.F ht⟩) hS.2.2 dL_left_16

set_option maxHeartbeats 4000000 in
set_option maxRecDepth 100000 in
theorem mL_left_t1 (l : Launch) (hfl : l.stackTraces = false) (D : va_G) (cy ly : ClassId) (h : Nat) (a : Nat → Nat) (R : Nat → Nat → Int32) (nd n dr : Nat) (fl : Int32) (o : Nat) (g : Nat → Int64) (u : Int32) (hnd : nd < 1000000) (hn : n < 1000000) (hdr : dr < 1000000) (hout : potX u = 1) (sz : Nat) : LhI l yL_left wsL_left 7 105 [.ref h, .int u, .ref o] D cy ly (cC h a cy R nd n dr fl ++ [(o, .inl (ly, 1, .inr (.inl g)))]) (cC h a cy R nd n dr fl ++ [(o, .inl (ly, 1, .inr (.inl g)))]) sz 1 := by
  refine va_MetW (cc := cL_left) (maxL := 4) (ret := some .int) (hh := [(0, 9, 12, 19)]) (by decide) rfl ?_
  intro p e s m args below meth c s₁ B hml hv
  obtain ⟨rfl, hsz, hP, hK, hD0, hX, hN⟩ := hv
  have hx := B.exec
  have hb := B.bytes
  have hr := B.returns
  have hts := atoms_spec (ws := wsL_left) B.pre
  have hown : s.vm.findClass RL = some m.cls := findClass_of_methodNamed B.named
  have hlocks := B.notSynchronized
  have htab := vx_table (x := yL_left) B (hts (.codeWith yL_left cL_left 4 (some .int) [(0, 9, 12, 19)]) (by decide +kernel))
  subst hsz
  have hD := hD0.self (sz := s.heap.size)
  generalize hAe : va_A (cC h a cy R nd n dr fl ++ [(o, .inl (ly, 1, .inr (.inl g)))]) s.heap.size = A at hD hX ⊢
  have hA : ∀ q : Nat, s.heap.size ≤ q → A q := fun q h => by rw [← hAe]; exact Or.inr h
  have hS : va_S A s.heap s.heap [] := va_S.rf
  have hl := lv_entry ([.ref h, .int u, .ref o]) (n := 4) (Nat.le_of_ble_eq_true rfl)
  rw [lg_entry_eq]
  generalize (lg_sl ([.ref h, .int u, .ref o]) ++ List.replicate (4 - (lg_sl ([.ref h, .int u, .ref o])).length) Slot.unset).toArray = ls at hl ⊢
  have hl : lv_has ls 4 [(0, .ref h), (1, .int u), (2, .ref o)] := hl
  refine lv_aload_n hx hb dL_left_0 rfl (lv_at hl 2 rfl) ?_
  refine lv_iconst (v := 0) hx hb dL_left_1 (by decide) ?_
  refine lv_aload_n hx hb dL_left_2 rfl (lv_at hl 0 rfl) ?_
  refine lv_iload_n hx hb dL_left_3 rfl (lv_at hl 1 rfl) ?_
  refine th_V (q := (RX0, TX0, 15)) (ci := 0) (q0 := 0) (As := [.int u]) (rest := [.int 0, .ref o]) ⟨hx, hb, hml, hown, hts⟩ (fun sz => mX0_left_t1 l hfl D cy h a R nd n dr fl u hnd hn hdr hout sz) (cwV 1 hts gL_left_X0_left rfl rfl rfl (by decide +kernel) ⟨Nat.le_of_ble_eq_true rfl, Nat.le_of_ble_eq_true rfl⟩) hP hK.kk hD hS hA hX [0, 1, 2, 3, 4, 5, 6, 7, 8, 9, 10, 11] [12] [1, 2, 3, 4, 5, 6, 7, 8, 9, 10, 11, 12, 0] rfl rfl rfl (by decide) rfl rfl rfl rfl rfl hl.1 rfl (Nat.le_of_ble_eq_true rfl) dL_left_4 (Nat.le_of_ble_eq_true rfl) (Nat.le_of_ble_eq_true rfl) (fun ce q9 H locs hP hS hcell hcv hcl => ?_)
  refine vx_catch hown [] ⟨0, 9, 12, 19⟩ [] (by rw [htab]; rfl) (fun z hz => absurd hz List.not_mem_nil) rfl (by decide) (hts (.classLink RL 19 xIOB) (by decide +kernel)) (va_Nw.use rfl hX.2.2.2.2.1) hcell hcv hcl ?_
  refine lv_astore_n (lv' := [(3, .ref q9), (0, .ref h), (1, .int u), (2, .ref o)]) hx hb dL_left_12 rfl hl (by decide) rfl (fun ls hl => ?_)
  refine lv_iconst (v := 1) hx hb dL_left_13 (by decide) ?_
  exact W.iret (v := 1) hx hb hr (fun t ht hW => ⟨⟨1, (), rfl, rfl, by show va_P D vwCl _ t.heap; rw [ht]; exact hP⟩, hS.F ht⟩) hS.2.2 dL_left_14
