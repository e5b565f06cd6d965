section CSB
-- the nest links that the model's methods need
def nwAll (U : State) : Prop :=
  va_Nw (.fieldLinkNest RX2 64 RX1 "lines" "I" RX2) U ∧ va_Nw (.fieldLinkNest RX2 123 RX1 "dry" "I" RX2) U ∧ va_Nw (.fieldLinkNest RX2 57 RX1 "stove" "[I" RX2) U ∧ va_Nw (.fieldLinkNest RX2 76 RX1 "shelf" "[I" RX2) U ∧ va_Nw (.fieldLinkNest RX2 79 RX1 "stamp" "[I" RX2) U ∧ va_Nw (.fieldLinkNest RX2 95 RX1 "dish" "[I" RX2) U ∧ va_Nw (.fieldLinkNest RX2 108 RX1 "kind" "[I" RX2) U ∧ va_Nw (.fieldLinkNest RX2 111 RX1 "pot" "[I" RX2) U ∧ va_Nw (.fieldLinkNest RX2 114 RX1 "ahead" "[I" RX2) U ∧ va_Nw (.fieldLinkNest RX2 117 RX1 "behind" "[I" RX2) U ∧ va_Nw (.fieldLinkNest RX2 120 RX1 "takes" "[I" RX2) U ∧ va_Nw (.fieldLinkNest RX2 88 RX1 "anew" "I" RX2) U ∧ va_Nw (.fieldLinkNest RX2 146 RX1 "first" "I" RX2) U ∧ va_Nw (.fieldLinkNest RX2 143 RX1 "back" "I" RX2) U ∧ va_Nw (.fieldLinkNest RX1 68 RX2 "dishes" "I" RX2) U
theorem nwAll_warm {s U : State} (hW : s.WarmedH U.vm) (h : nwAll s) : nwAll U := by
  obtain ⟨h0, h1, h2, h3, h4, h5, h6, h7, h8, h9, h10, h11, h12, h13, h14⟩ := h
  exact ⟨va_Nw.warmF hW h0, va_Nw.warmF hW h1, va_Nw.warmF hW h2, va_Nw.warmF hW h3, va_Nw.warmF hW h4, va_Nw.warmF hW h5, va_Nw.warmF hW h6, va_Nw.warmF hW h7, va_Nw.warmF hW h8, va_Nw.warmF hW h9, va_Nw.warmF hW h10, va_Nw.warmF hW h11, va_Nw.warmF hW h12, va_Nw.warmF hW h13, va_Nw.warmF hW h14⟩
theorem nwAll_same {u U : State} (h : u.vm = U.vm) (k : nwAll u) : nwAll U := by
  obtain ⟨h0, h1, h2, h3, h4, h5, h6, h7, h8, h9, h10, h11, h12, h13, h14⟩ := k
  exact ⟨va_Nw.same rfl h h0, va_Nw.same rfl h h1, va_Nw.same rfl h h2, va_Nw.same rfl h h3, va_Nw.same rfl h h4, va_Nw.same rfl h h5, va_Nw.same rfl h h6, va_Nw.same rfl h h7, va_Nw.same rfl h h8, va_Nw.same rfl h h9, va_Nw.same rfl h h10, va_Nw.same rfl h h11, va_Nw.same rfl h h12, va_Nw.same rfl h h13, va_Nw.same rfl h h14⟩
-- what the tables say: classes, the class of int rows, nest links
def KK (D : va_G) (cy : ClassId) (U : State) : Prop := va_K D vwCl [(cy, .int)] U ∧ nwAll U
theorem KK.blind {D : va_G} {cy : ClassId} {U : State} {g : JFrame} {mk : MethodId} {a : Array Value} (h : KK D cy U) : KK D cy (U.calling g mk a) :=
  ⟨va_K.moved (u := U) (U := U.calling g mk a) (Vm.Alike.refl U.vm) h.1, nwAll_same (u := U) (U := U.calling g mk a) rfl h.2⟩
theorem KK.warm {D : va_G} {cy : ClassId} {s U : State} (hW : s.WarmedH U.vm) (h : KK D cy s) : KK D cy U := ⟨va_K.moved hW.alike h.1, nwAll_warm hW h.2⟩
abbrev rdB (D : va_G) (cy : ClassId) (ws : va_W) : State → Prop := fun U => va_P D vwCl ws U.heap ∧ KK D cy U
abbrev wrB (D : va_G) (cy : ClassId) (ws : va_W) (sz : Nat) : State → Prop := fun U => U.heap.size = sz ∧ va_P D vwCl ws U.heap ∧ KK D cy U ∧ va_D (fun _ => True) ws
theorem fm_of {α β : Type} {is : List α} {f : α → Option β} {ws : List β} (h : is.map f = ws.map some) : is.filterMap f = ws := by
  have h2 := congrArg (List.filterMap id) h
  simpa [List.filterMap_map] using h2
theorem rd_preS {s : State} {H : Heap} {D : va_G} {cy : ClassId} {ws : va_W} {As : List Value} (hP : va_P D vwCl ws H) (hK : KK D cy s) : PreS s H (va_Pc As (rdB D cy ws)) As :=
  ⟨fun a U g mk q => ⟨q.1, q.2.1, q.2.2.blind⟩, fun U hU hW => ⟨rfl, by rw [hU]; exact hP, hK.warm hW⟩⟩
theorem rd_preV {s : State} {H : Heap} {D : va_G} {cy : ClassId} {ws : va_W} {b : Addr} {As : List Value} {ci q0 : Nat} {q : vw_C} {fs : List Value} (hP : va_P D vwCl ws H) (hK : KK D cy s) (hc : vwCl[ci]? = some q) (he : ws[q0]? = some (b, .inr (ci, fs))) : PreV s H q.1 b (va_Pc (.ref b :: As) (rdB D cy ws)) As :=
  ⟨fun a U g mk q => ⟨q.1, q.2.1, q.2.2.blind⟩, va_recv hK.1 hP hc he, fun U hU hW => ⟨rfl, by rw [hU]; exact hP, hK.warm hW⟩⟩
theorem wr_preS {s : State} {H : Heap} {D : va_G} {cy : ClassId} {ws : va_W} {As : List Value} {A : Nat → Prop} (hP : va_P D vwCl ws H) (hD : va_D A ws) (hK : KK D cy s) : PreS s H (va_Pc As (wrB D cy ws H.size)) As :=
  ⟨fun a U g mk q => ⟨q.1, q.2.1, q.2.2.1, q.2.2.2.1.blind, q.2.2.2.2⟩, fun U hU hW => ⟨rfl, by rw [hU], by rw [hU]; exact hP, hK.warm hW, hD.weaken (fun _ _ _ _ => trivial)⟩⟩
theorem wr_preV {s : State} {H : Heap} {D : va_G} {cy : ClassId} {ws : va_W} {b : Addr} {As : List Value} {ci q0 : Nat} {q : vw_C} {fs : List Value} {A : Nat → Prop} (hP : va_P D vwCl ws H) (hD : va_D A ws) (hK : KK D cy s) (hc : vwCl[ci]? = some q) (he : ws[q0]? = some (b, .inr (ci, fs))) : PreV s H q.1 b (va_Pc (.ref b :: As) (wrB D cy ws H.size)) As :=
  ⟨fun a U g mk q => ⟨q.1, q.2.1, q.2.2.1, q.2.2.2.1.blind, q.2.2.2.2⟩, va_recv hK.1 hP hc he, fun U hU hW => ⟨rfl, by rw [hU], by rw [hU]; exact hP, hK.warm hW, hD.weaken (fun _ _ _ _ => trivial)⟩⟩
-- apartness speaks of the addresses alone
theorem va_adr {A : Nat → Prop} {ws ws' : va_W} (h : va_D A ws) (e : ws'.map Prod.fst = ws.map Prod.fst) : va_D A ws' := by
  have at1 : ∀ (k : Nat) (q : Nat × va_E), ws'[k]? = some q → ∃ q', ws[k]? = some q' ∧ q'.1 = q.1 := by
    intro k q hq
    have h1 : (ws'.map Prod.fst)[k]? = some q.1 := by rw [List.getElem?_map, hq]; rfl
    rw [e, List.getElem?_map] at h1
    cases hw : ws[k]? with
    | none => rw [hw] at h1; cases h1
    | some q' => rw [hw] at h1; exact ⟨q', rfl, Option.some.inj h1⟩
  refine ⟨fun i j p q hp hq hpq => ?_, fun k q hq => ?_⟩
  · obtain ⟨p', h1, h2⟩ := at1 i p hp
    obtain ⟨q', h3, h4⟩ := at1 j q hq
    exact h.1 i j p' q' h1 h3 (by rw [h2, h4, hpq])
  · obtain ⟨q', h1, h2⟩ := at1 k q hq
    rw [← h2]
    exact h.2 k q' h1
-- contracts: a method that only reads; one that changes its world
abbrev RdI (l : Launch) (y : MethodName) (wd : List Cond) (fr lo : Nat) (As : List Value) (D : va_G) (cy : ClassId) (ws : va_W) (v : Int32) : Prop :=
  Met l y wd { frames := fr, cells := 0, slots := 0, locals := lo } (va_Pc As (rdB D cy ws)) (vp_Si (fun r => r = v)) 0 0 (fun _ => False)
abbrev WrV (l : Launch) (y : MethodName) (wd : List Cond) (fr lo : Nat) (As : List Value) (D : va_G) (cy : ClassId) (ws ws1 : va_W) (sz : Nat) : Prop :=
  Met l y wd { frames := fr, cells := 0, slots := 0, locals := lo } (va_Pc As (wrB D cy ws sz)) (va_Qv (fun _ : Unit => True) (fun _ t => va_P D vwCl ws1 t.heap) (va_A ws sz)) 0 0 (va_A ws sz)
abbrev WrI (l : Launch) (y : MethodName) (wd : List Cond) (fr lo : Nat) (As : List Value) (D : va_G) (cy : ClassId) (ws ws1 : va_W) (sz : Nat) (v : Int32) : Prop :=
  Met l y wd { frames := fr, cells := 0, slots := 0, locals := lo } (va_Pc As (wrB D cy ws sz)) (va_Qi (fun (r : Int32) (_ : Unit) => r = v) (fun _ t => va_P D vwCl ws1 t.heap) (va_A ws sz)) 0 0 (va_A ws sz)
abbrev WnI (l : Launch) (y : MethodName) (wd : List Cond) (fr lo mc ms : Nat) (As : List Value) (D : va_G) (cy : ClassId) (ws ws1 : va_W) (sz : Nat) (v : Int32) : Prop :=
  Met l y wd { frames := fr, cells := mc, slots := ms, locals := lo } (va_Pc As (wrB D cy ws sz)) (va_Qi (fun (r : Int32) (_ : Unit) => r = v) (fun _ t => va_P D vwCl ws1 t.heap) (va_A ws sz)) mc ms (va_A ws sz)
abbrev WnL (l : Launch) (y : MethodName) (wd : List Cond) (fr lo mc ms : Nat) (As : List Value) (D : va_G) (cy : ClassId) (ws ws1 : va_W) (sz : Nat) (v : Int64) : Prop :=
  Met l y wd { frames := fr, cells := mc, slots := ms, locals := lo } (va_Pc As (wrB D cy ws sz)) (va_Ql (fun (r : Int64) (_ : Unit) => r = v) (fun _ t => va_P D vwCl ws1 t.heap) (va_A ws sz)) mc ms (va_A ws sz)
variable {p : Program} {l : Launch} {e : Env} {R : Room} {s : State} {m : MethodId} {args : Array Value} {below : List Frame} {meth : Method} {c : Code} {H : Heap} {locs : List Loc} {cells slots : Nat} {Q : State → Prop}
variable {y : MethodName} {bytes cc : ByteArray} {maxL nL n index fr lo : Nat} {ret : Option FieldType} {wd Ts : List Cond} {own : String} {b : Addr} {As rest st : List Value} {D : va_G} {cy : ClassId} {ws ws0 ws1 : va_W} {v : Int32} {pc : Nat} {ls : Array Slot} {A : Nat → Prop} {H0 : Heap}
theorem rd_S (S : CallFix p m c cc nL s args Ts own) (hM : RdI l y wd fr lo As D cy ws v)
    (cw : CallB R s args own index y bytes maxL ret wd { frames := fr, cells := 0, slots := 0, locals := lo } 0 0 n ∧ (Cond.static y).before args s = true)
    (hP : va_P D vwCl ws H) (hK : KK D cy s) (hn : As.length = n) (hsize : ls.size = nL) (hst : st = As.reverse ++ rest) (hw : (rest.map fun v => v.category).sum ≤ 8) (hdg : decode cc pc = .ok (.invokestatic index, 3)) (hc : cells ≤ R.cells) (hs : slots ≤ R.slots)
    (kk : W p l e R s m args below meth c H locs cells slots Q (F0 m (pc + 3) ls (.int v :: rest))) : W p l e R s m args below meth c H locs cells slots Q (F0 m pc ls st) :=
  vp_callSi (W.runS S hM cw (rd_preS hP hK) rfl hn hsize hst (lv_room (pc := pc) (ls := ls) (m := m) (rest := st) hw) hdg ⟨hc, hs⟩) (fun r hr => by subst hr; exact kk)
theorem rd_V {q : vw_C} {ci q0 : Nat} {fs : List Value} (S : CallFix p m c cc nL s args Ts own) (hM : RdI l y wd fr lo (.ref b :: As) D cy ws v)
    (cw : CallW R s args own q.1 index y bytes maxL ret wd { frames := fr, cells := 0, slots := 0, locals := lo } 0 0 n)
    (hP : va_P D vwCl ws H) (hK : KK D cy s) (hq : vwCl[ci]? = some q) (he : ws[q0]? = some (b, .inr (ci, fs))) (hn : As.length = n) (hsize : ls.size = nL) (hst : st = As.reverse ++ .ref b :: rest) (hw : (rest.map fun v => v.category).sum ≤ 8) (hdg : decode cc pc = .ok (.invokevirtual index, 3)) (hc : cells ≤ R.cells) (hs : slots ≤ R.slots)
    (kk : W p l e R s m args below meth c H locs cells slots Q (F0 m (pc + 3) ls (.int v :: rest))) : W p l e R s m args below meth c H locs cells slots Q (F0 m pc ls st) :=
  vp_callSi (W.runV S hM cw (rd_preV hP hK hq he) rfl hn hsize hst (lv_room (pc := pc) (ls := ls) (m := m) (rest := st) hw) hdg ⟨hc, hs⟩) (fun r hr => by subst hr; exact kk)
-- behind a call that changes the world ws, part (isC) of the caller's ws0, to ws1: the caller's world is ws0'
theorem wr_post {wr ws0' : va_W} {H1 : Heap} (hP : va_P D vwCl ws0 H) (hD : va_D A ws0) (hS : va_S A H0 H locs) (hA : ∀ q, H0.size ≤ q → A q) (isC isR perm : List Nat) (hC : isC.map (fun i => ws0[i]?) = ws.map some) (hR : isR.map (fun i => ws0[i]?) = wr.map some) (hnd : va_nd isR = true) (hdis : ∀ i ∈ isR, i ∉ isC) (hnC : va_nd isC = true)
    (ha1 : ws1.map Prod.fst = ws.map Prod.fst) (hpm : perm.filterMap (fun i => (wr ++ ws1)[i]?) = ws0') (hk : ∀ q : Nat, q < H.size → ¬ va_A ws H.size q → H1[q]? = H[q]?) (hP1 : va_P D vwCl ws1 H1) : va_P D vwCl ws0' H1 := by
  have hD1 : va_D (va_A ws H.size) ws1 := va_adr (hD.sub isC hnC hC).self ha1
  exact (va_join hP hD isC isR hC hR hnd hdis hk (va_free hD hS hA isC hC) hP1 hD1).1.sub perm hpm
theorem wr_SV {ws0' : va_W} (S : CallFix p m c cc nL s args Ts own) (hM : ∀ sz, WrV l y wd fr lo As D cy ws ws1 sz)
    (cw : CallB R s args own index y bytes maxL ret wd { frames := fr, cells := 0, slots := 0, locals := lo } 0 0 n ∧ (Cond.static y).before args s = true)
    (hP : va_P D vwCl ws0 H) (hK : KK D cy s) (hD : va_D A ws0) (hS : va_S A H0 H locs) (hA : ∀ q, H0.size ≤ q → A q) (isC isR perm : List Nat) (hC : isC.map (fun i => ws0[i]?) = ws.map some) (hR : isR.map (fun i => ws0[i]?) = (isR.filterMap (fun i => ws0[i]?)).map some) (hnd : va_nd isR = true) (hdis : ∀ i ∈ isR, i ∉ isC) (hnC : va_nd isC = true)
    (ha1 : ws1.map Prod.fst = ws.map Prod.fst) (hpm : perm.filterMap (fun i => (isR.filterMap (fun i => ws0[i]?) ++ ws1)[i]?) = ws0') (ha0 : ws0'.map Prod.fst = ws0.map Prod.fst)
    (hn : As.length = n) (hsize : ls.size = nL) (hst : st = As.reverse ++ rest) (hw : (rest.map fun v => v.category).sum ≤ 8) (hdg : decode cc pc = .ok (.invokestatic index, 3)) (hc : cells ≤ R.cells) (hs : slots ≤ R.slots)
    (kk : ∀ (H1 : Heap) (locs1 : List Loc), va_P D vwCl ws0' H1 → va_D A ws0' → va_S A H0 H1 locs1 → W p l e R s m args below meth c H1 locs1 cells slots Q (F0 m (pc + 3) ls rest)) : W p l e R s m args below meth c H locs cells slots Q (F0 m pc ls st) :=
  va_callv (va_runS S (hM H.size) cw (wr_preS (hP.sub isC (fm_of hC)) (hD.sub isC hnC hC) hK) rfl hn hsize hst (lv_room (pc := pc) (ls := ls) (m := m) (rest := st) hw) hdg ⟨hc, hs⟩) hS (fun q _ h => va_free hD hS hA isC hC q h) (va_free hD hS hA isC hC)
    (fun u t H1 locs1 ht hvm hu hB hz hk hS1 => kk H1 locs1 (wr_post hP hD hS hA isC isR perm hC hR hnd hdis hnC ha1 hpm hk (by rw [← ht]; exact hB)) (va_adr hD ha0) hS1)
theorem wr_VV {ws0' : va_W} {q : vw_C} {ci q0 : Nat} {fs : List Value} (S : CallFix p m c cc nL s args Ts own) (hM : ∀ sz, WrV l y wd fr lo (.ref b :: As) D cy ws ws1 sz)
    (cw : CallW R s args own q.1 index y bytes maxL ret wd { frames := fr, cells := 0, slots := 0, locals := lo } 0 0 n)
    (hP : va_P D vwCl ws0 H) (hK : KK D cy s) (hD : va_D A ws0) (hS : va_S A H0 H locs) (hA : ∀ q, H0.size ≤ q → A q) (isC isR perm : List Nat) (hC : isC.map (fun i => ws0[i]?) = ws.map some) (hR : isR.map (fun i => ws0[i]?) = (isR.filterMap (fun i => ws0[i]?)).map some) (hnd : va_nd isR = true) (hdis : ∀ i ∈ isR, i ∉ isC) (hnC : va_nd isC = true)
    (ha1 : ws1.map Prod.fst = ws.map Prod.fst) (hpm : perm.filterMap (fun i => (isR.filterMap (fun i => ws0[i]?) ++ ws1)[i]?) = ws0') (ha0 : ws0'.map Prod.fst = ws0.map Prod.fst)
    (hq : vwCl[ci]? = some q) (he : ws[q0]? = some (b, .inr (ci, fs))) (hn : As.length = n) (hsize : ls.size = nL) (hst : st = As.reverse ++ .ref b :: rest) (hw : (rest.map fun v => v.category).sum ≤ 8) (hdg : decode cc pc = .ok (.invokevirtual index, 3)) (hc : cells ≤ R.cells) (hs : slots ≤ R.slots)
    (kk : ∀ (H1 : Heap) (locs1 : List Loc), va_P D vwCl ws0' H1 → va_D A ws0' → va_S A H0 H1 locs1 → W p l e R s m args below meth c H1 locs1 cells slots Q (F0 m (pc + 3) ls rest)) : W p l e R s m args below meth c H locs cells slots Q (F0 m pc ls st) :=
  va_callv (va_runV S (hM H.size) cw (wr_preV (hP.sub isC (fm_of hC)) (hD.sub isC hnC hC) hK hq he) rfl hn hsize hst (lv_room (pc := pc) (ls := ls) (m := m) (rest := st) hw) hdg ⟨hc, hs⟩) hS (fun q _ h => va_free hD hS hA isC hC q h) (va_free hD hS hA isC hC)
    (fun u t H1 locs1 ht hvm hu hB hz hk hS1 => kk H1 locs1 (wr_post hP hD hS hA isC isR perm hC hR hnd hdis hnC ha1 hpm hk (by rw [← ht]; exact hB)) (va_adr hD ha0) hS1)
theorem wr_VI {ws0' : va_W} {q : vw_C} {ci q0 : Nat} {fs : List Value} (S : CallFix p m c cc nL s args Ts own) (hM : ∀ sz, WrI l y wd fr lo (.ref b :: As) D cy ws ws1 sz v)
    (cw : CallW R s args own q.1 index y bytes maxL ret wd { frames := fr, cells := 0, slots := 0, locals := lo } 0 0 n)
    (hP : va_P D vwCl ws0 H) (hK : KK D cy s) (hD : va_D A ws0) (hS : va_S A H0 H locs) (hA : ∀ q, H0.size ≤ q → A q) (isC isR perm : List Nat) (hC : isC.map (fun i => ws0[i]?) = ws.map some) (hR : isR.map (fun i => ws0[i]?) = (isR.filterMap (fun i => ws0[i]?)).map some) (hnd : va_nd isR = true) (hdis : ∀ i ∈ isR, i ∉ isC) (hnC : va_nd isC = true)
    (ha1 : ws1.map Prod.fst = ws.map Prod.fst) (hpm : perm.filterMap (fun i => (isR.filterMap (fun i => ws0[i]?) ++ ws1)[i]?) = ws0') (ha0 : ws0'.map Prod.fst = ws0.map Prod.fst)
    (hq : vwCl[ci]? = some q) (he : ws[q0]? = some (b, .inr (ci, fs))) (hn : As.length = n) (hsize : ls.size = nL) (hst : st = As.reverse ++ .ref b :: rest) (hw : (rest.map fun v => v.category).sum ≤ 8) (hdg : decode cc pc = .ok (.invokevirtual index, 3)) (hc : cells ≤ R.cells) (hs : slots ≤ R.slots)
    (kk : ∀ (H1 : Heap) (locs1 : List Loc), va_P D vwCl ws0' H1 → va_D A ws0' → va_S A H0 H1 locs1 → W p l e R s m args below meth c H1 locs1 cells slots Q (F0 m (pc + 3) ls (.int v :: rest))) : W p l e R s m args below meth c H locs cells slots Q (F0 m pc ls st) :=
  va_calli (va_runV S (hM H.size) cw (wr_preV (hP.sub isC (fm_of hC)) (hD.sub isC hnC hC) hK hq he) rfl hn hsize hst (lv_room (pc := pc) (ls := ls) (m := m) (rest := st) hw) hdg ⟨hc, hs⟩) hS (fun q _ h => va_free hD hS hA isC hC q h) (va_free hD hS hA isC hC)
    (fun r u t H1 locs1 ht hvm hu hB hz hk hS1 => by subst hu; exact kk H1 locs1 (wr_post hP hD hS hA isC isR perm hC hR hnd hdis hnC ha1 hpm hk (by rw [← ht]; exact hB)) (va_adr hD ha0) hS1)
theorem wn_VI {ws0' : va_W} {mc ms : Nat} {q : vw_C} {ci q0 : Nat} {fs : List Value} (S : CallFix p m c cc nL s args Ts own) (hM : ∀ sz, WnI l y wd fr lo mc ms (.ref b :: As) D cy ws ws1 sz v)
    (cw : CallW R s args own q.1 index y bytes maxL ret wd { frames := fr, cells := mc, slots := ms, locals := lo } mc ms n)
    (hP : va_P D vwCl ws0 H) (hK : KK D cy s) (hD : va_D A ws0) (hS : va_S A H0 H locs) (hA : ∀ q, H0.size ≤ q → A q) (isC isR perm : List Nat) (hC : isC.map (fun i => ws0[i]?) = ws.map some) (hR : isR.map (fun i => ws0[i]?) = (isR.filterMap (fun i => ws0[i]?)).map some) (hnd : va_nd isR = true) (hdis : ∀ i ∈ isR, i ∉ isC) (hnC : va_nd isC = true)
    (ha1 : ws1.map Prod.fst = ws.map Prod.fst) (hpm : perm.filterMap (fun i => (isR.filterMap (fun i => ws0[i]?) ++ ws1)[i]?) = ws0') (ha0 : ws0'.map Prod.fst = ws0.map Prod.fst)
    (hq : vwCl[ci]? = some q) (he : ws[q0]? = some (b, .inr (ci, fs))) (hn : As.length = n) (hsize : ls.size = nL) (hst : st = As.reverse ++ .ref b :: rest) (hw : (rest.map fun v => v.category).sum ≤ 8) (hdg : decode cc pc = .ok (.invokevirtual index, 3)) (hc : cells + mc ≤ R.cells) (hs : slots + ms ≤ R.slots)
    (kk : ∀ (H1 : Heap) (locs1 : List Loc), va_P D vwCl ws0' H1 → va_D A ws0' → va_S A H0 H1 locs1 → W p l e R s m args below meth c H1 locs1 (cells + mc) (slots + ms) Q (F0 m (pc + 3) ls (.int v :: rest))) : W p l e R s m args below meth c H locs cells slots Q (F0 m pc ls st) :=
  va_calli (va_runV S (hM H.size) cw (wr_preV (hP.sub isC (fm_of hC)) (hD.sub isC hnC hC) hK hq he) rfl hn hsize hst (lv_room (pc := pc) (ls := ls) (m := m) (rest := st) hw) hdg ⟨hc, hs⟩) hS (fun q _ h => va_free hD hS hA isC hC q h) (va_free hD hS hA isC hC)
    (fun r u t H1 locs1 ht hvm hu hB hz hk hS1 => by subst hu; exact kk H1 locs1 (wr_post hP hD hS hA isC isR perm hC hR hnd hdis hnC ha1 hpm hk (by rw [← ht]; exact hB)) (va_adr hD ha0) hS1)
theorem wn_VL {ws0' : va_W} {mc ms : Nat} {v : Int64} {q : vw_C} {ci q0 : Nat} {fs : List Value} (S : CallFix p m c cc nL s args Ts own) (hM : ∀ sz, WnL l y wd fr lo mc ms (.ref b :: As) D cy ws ws1 sz v)
    (cw : CallW R s args own q.1 index y bytes maxL ret wd { frames := fr, cells := mc, slots := ms, locals := lo } mc ms n)
    (hP : va_P D vwCl ws0 H) (hK : KK D cy s) (hD : va_D A ws0) (hS : va_S A H0 H locs) (hA : ∀ q, H0.size ≤ q → A q) (isC isR perm : List Nat) (hC : isC.map (fun i => ws0[i]?) = ws.map some) (hR : isR.map (fun i => ws0[i]?) = (isR.filterMap (fun i => ws0[i]?)).map some) (hnd : va_nd isR = true) (hdis : ∀ i ∈ isR, i ∉ isC) (hnC : va_nd isC = true)
    (ha1 : ws1.map Prod.fst = ws.map Prod.fst) (hpm : perm.filterMap (fun i => (isR.filterMap (fun i => ws0[i]?) ++ ws1)[i]?) = ws0') (ha0 : ws0'.map Prod.fst = ws0.map Prod.fst)
    (hq : vwCl[ci]? = some q) (he : ws[q0]? = some (b, .inr (ci, fs))) (hn : As.length = n) (hsize : ls.size = nL) (hst : st = As.reverse ++ .ref b :: rest) (hw : (rest.map fun v => v.category).sum ≤ 8) (hdg : decode cc pc = .ok (.invokevirtual index, 3)) (hc : cells + mc ≤ R.cells) (hs : slots + ms ≤ R.slots)
    (kk : ∀ (H1 : Heap) (locs1 : List Loc), va_P D vwCl ws0' H1 → va_D A ws0' → va_S A H0 H1 locs1 → W p l e R s m args below meth c H1 locs1 (cells + mc) (slots + ms) Q (F0 m (pc + 3) ls (.long v :: rest))) : W p l e R s m args below meth c H locs cells slots Q (F0 m pc ls st) :=
  va_calll (va_runV S (hM H.size) cw (wr_preV (hP.sub isC (fm_of hC)) (hD.sub isC hnC hC) hK hq he) rfl hn hsize hst (lv_room (pc := pc) (ls := ls) (m := m) (rest := st) hw) hdg ⟨hc, hs⟩) hS (fun q _ h => va_free hD hS hA isC hC q h) (va_free hD hS hA isC hC)
    (fun r u t H1 locs1 ht hvm hu hB hz hk hS1 => by subst hu; exact kk H1 locs1 (wr_post hP hD hS hA isC isR perm hC hR hnd hdis hnC ha1 hpm hk (by rw [← ht]; exact hB)) (va_adr hD ha0) hS1)
end CSB
