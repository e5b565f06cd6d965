section LWB
variable {p : Program} {l : Launch} {e : Env} {R : Room} {s : State} {m : MethodId} {args : Array Value} {below : List Frame} {meth : Method} {c : Code} {H : Heap} {locs : List Loc} {cells slots : Nat} {Q : State → Prop}
variable {y : MethodName} {bytes cc : ByteArray} {maxL nL n index fr lo : Nat} {ret : Option FieldType} {wd Ts : List Cond} {own : String} {b : Addr} {As rest st : List Value} {D : va_G} {cy ly : ClassId} {ws ws0 ws1 ws0' : va_W} {pc : Nat} {ls : Array Slot} {A : Nat → Prop} {H0 : Heap}
theorem KKL.dr (h : KKL D cy ly s) (d : Drawn) : KKL D cy ly (s.setDrawn d) := ⟨va_K.moved (u := s) (U := s.setDrawn d) (Vm.Alike.refl s.vm) h.1, nwAll_same (u := s) (U := s.setDrawn d) rfl h.2⟩
theorem xPre.dr (h : xPre A s s.heap) (d : Drawn) : xPre A (s.setDrawn d) (s.setDrawn d).heap :=
  ⟨vx_Zq.moved (u := s) (U := s.setDrawn d) (Vm.Alike.refl s.vm) h.1, vx_Zq.moved (u := s) (U := s.setDrawn d) (Vm.Alike.refl s.vm) h.2.1, xTab.same (u := s) (U := s.setDrawn d) rfl h.2.2⟩
theorem xNc.dr (h : xNc s) (d : Drawn) : xNc (s.setDrawn d) := xNc.moved (u := s) (U := s.setDrawn d) (Vm.Alike.refl s.vm) h
/-- a helper of the law -/
theorem lh_S {hh : List (Nat × Nat × Nat × Nat)} {v : Int32} (S : CallFix p m c cc nL s args Ts own) (hM : ∀ sz, LhI l y wd fr lo As D cy ly ws ws1 sz v)
    (cw : vx_CSW R s args own index y bytes maxL ret hh wd { frames := fr, cells := 1, slots := 6, locals := lo } 1 6 n)
    (hP : va_P D vwCl ws0 H) (hK : KKL D cy ly s) (hD : va_D A ws0) (hS : va_S A s.heap H locs) (hA : ∀ q, s.heap.size ≤ q → A q) (hX : xPre A s s.heap) (hN : xNc s) (isC isR perm : List Nat) (hC : isC.map (fun i => ws0[i]?) = ws.map some) (hR : isR.map (fun i => ws0[i]?) = (isR.filterMap (fun i => ws0[i]?)).map some) (hnd : va_nd isR = true) (hdis : ∀ i ∈ isR, i ∉ isC) (hnC : va_nd isC = true)
    (ha1 : ws1.map Prod.fst = ws.map Prod.fst) (hpm : perm.filterMap (fun i => (isR.filterMap (fun i => ws0[i]?) ++ ws1)[i]?) = ws0') (ha0 : ws0'.map Prod.fst = ws0.map Prod.fst)
    (hn : As.length = n) (hsize : ls.size = nL) (hst : st = As.reverse ++ rest) (hw : (rest.map fun v => v.category).sum ≤ 8) (hdg : decode cc pc = .ok (.invokestatic index, 3)) (hc : cells + 1 ≤ R.cells) (hs : slots + 6 ≤ R.slots)
    (kk : ∀ (H1 : Heap) (locs1 : List Loc), va_P D vwCl ws0' H1 → va_D A ws0' → va_S A s.heap H1 locs1 → W p l e R s m args below meth c H1 locs1 (cells + 1) (slots + 6) Q (F0 m (pc + 3) ls (.int v :: rest))) : W p l e R s m args below meth c H locs cells slots Q (F0 m pc ls st) :=
  va_calli (vx_runSW S (hM H.size) cw (l_preS (hP.sub isC (fm_of hC)) (hD.sub isC hnC hC) hK hX hS (va_free hD hS hA isC hC) hN) rfl hn hsize hst (lv_room (pc := pc) (ls := ls) (m := m) (rest := st) hw) hdg ⟨hc, hs⟩) hS (fun q _ h => va_free hD hS hA isC hC q h) (va_free hD hS hA isC hC)
    (fun r u t H1 locs1 ht hvm hu hB hz hk hS1 => by subst hu; exact kk H1 locs1 (wr_post hP hD hS hA isC isR perm hC hR hnd hdis hnC ha1 hpm hk (by rw [← ht]; exact hB)) (va_adr hD ha0) hS1)
theorem rd_VL {v : Int64} {q : vw_C} {ci q0 : Nat} {fs : List Value} (S : CallFix p m c cc nL s args Ts own) (hM : RdL l y wd fr lo (.ref b :: As) D cy ws v)
    (cw : CallW R s args own q.1 index y bytes maxL ret wd { frames := fr, cells := 0, slots := 0, locals := lo } 0 0 n)
    (hP : va_P D vwCl ws H) (hK : KK D cy s) (hq : vwCl[ci]? = some q) (he : ws[q0]? = some (b, .inr (ci, fs))) (hn : As.length = n) (hsize : ls.size = nL) (hst : st = As.reverse ++ .ref b :: rest) (hw : (rest.map fun v => v.category).sum ≤ 8) (hdg : decode cc pc = .ok (.invokevirtual index, 3)) (hc : cells ≤ R.cells) (hs : slots ≤ R.slots)
    (kk : W p l e R s m args below meth c H locs cells slots Q (F0 m (pc + 3) ls (.long v :: rest))) : W p l e R s m args below meth c H locs cells slots Q (F0 m pc ls st) :=
  vp_callSl (W.runV S hM cw (rd_preV hP hK hq he) rfl hn hsize hst (lv_room (pc := pc) (ls := ls) (m := m) (rest := st) hw) hdg ⟨hc, hs⟩) (fun r hr => by subst hr; exact kk)
/-- a mean of the class: it may draw -/
theorem rd_VD {x : UInt64} {d0 : Drawn} {q : vw_C} {ci q0 : Nat} {fs : List Value} (hd0 : s.drawn.sameBut d0 lw_cs) (S : CallFix p m c cc nL (s.setDrawn d0) args Ts own) (hM : MetD lw_cs l y wd { frames := fr, cells := 0, slots := 0, locals := lo } (va_Pc (.ref b :: As) (rdB D cy ws)) (va_Qd (fun (r : UInt64) (_ : Unit) => alike64 r x = true) (fun _ _ => True) (fun _ => False)) 0 0 (fun _ => False))
    (cw : CallW R (s.setDrawn d0) args own q.1 index y bytes maxL ret wd { frames := fr, cells := 0, slots := 0, locals := lo } 0 0 n)
    (hP0 : va_P D vwCl ws0 H) (hS : va_S A H0 H locs) (hP : va_P D vwCl ws H) (hK : KK D cy (s.setDrawn d0)) (hq : vwCl[ci]? = some q) (he : ws[q0]? = some (b, .inr (ci, fs))) (hn : As.length = n) (hsize : ls.size = nL) (hst : st = As.reverse ++ .ref b :: rest) (hw : (rest.map fun v => v.category).sum ≤ 8) (hdg : decode cc pc = .ok (.invokevirtual index, 3)) (hc : cells ≤ R.cells) (hs : slots ≤ R.slots)
    (kk : ∀ (r : UInt64) (d1 : Drawn) (H1 : Heap) (locs1 : List Loc), alike64 r x = true → s.drawn.sameBut d1 lw_cs → va_P D vwCl ws0 H1 → va_S A H0 H1 locs1 → W p l e R (s.setDrawn d1) m args below meth c H1 locs1 cells slots Q (F0 m (pc + 3) ls (.double r :: rest))) : W p l e R (s.setDrawn d0) m args below meth c H locs cells slots Q (F0 m pc ls st) :=
  va_calldD hd0 (va_runV_D S hM cw (rd_preV hP hK hq he) rfl hn hsize hst (lv_room (pc := pc) (ls := ls) (m := m) (rest := st) hw) hdg ⟨hc, hs⟩) hS (fun q _ h => h.elim) (fun q h => h.elim)
    (fun r u t H1 locs1 ht hvm hw9 hB hz hk hS1 d1 hd1 => kk r d1 H1 locs1 hw9 hd1 (P_ext hP0 (fun q h => hk q h (fun z => z.elim))) hS1)
/-- .. and of the model -/
theorem wr_VD {x : UInt64} {d0 : Drawn} {q : vw_C} {ci q0 : Nat} {fs : List Value} (hd0 : s.drawn.sameBut d0 lw_cs) (S : CallFix p m c cc nL (s.setDrawn d0) args Ts own) (hM : ∀ sz, MetD lw_cs l y wd { frames := fr, cells := 0, slots := 0, locals := lo } (va_Pc (.ref b :: As) (wrB D cy ws sz)) (va_Qd (fun (r : UInt64) (_ : Unit) => alike64 r x = true) (fun _ t => va_P D vwCl ws1 t.heap) (va_A ws sz)) 0 0 (va_A ws sz))
    (cw : CallW R (s.setDrawn d0) args own q.1 index y bytes maxL ret wd { frames := fr, cells := 0, slots := 0, locals := lo } 0 0 n)
    (hP : va_P D vwCl ws0 H) (hK : KK D cy (s.setDrawn d0)) (hD : va_D A ws0) (hS : va_S A H0 H locs) (hA : ∀ q, H0.size ≤ q → A q) (isC isR perm : List Nat) (hC : isC.map (fun i => ws0[i]?) = ws.map some) (hR : isR.map (fun i => ws0[i]?) = (isR.filterMap (fun i => ws0[i]?)).map some) (hnd : va_nd isR = true) (hdis : ∀ i ∈ isR, i ∉ isC) (hnC : va_nd isC = true)
    (ha1 : ws1.map Prod.fst = ws.map Prod.fst) (hpm : perm.filterMap (fun i => (isR.filterMap (fun i => ws0[i]?) ++ ws1)[i]?) = ws0') (ha0 : ws0'.map Prod.fst = ws0.map Prod.fst)
    (hq : vwCl[ci]? = some q) (he : ws[q0]? = some (b, .inr (ci, fs))) (hn : As.length = n) (hsize : ls.size = nL) (hst : st = As.reverse ++ .ref b :: rest) (hw : (rest.map fun v => v.category).sum ≤ 8) (hdg : decode cc pc = .ok (.invokevirtual index, 3)) (hc : cells ≤ R.cells) (hs : slots ≤ R.slots)
    (kk : ∀ (r : UInt64) (d1 : Drawn) (H1 : Heap) (locs1 : List Loc), alike64 r x = true → s.drawn.sameBut d1 lw_cs → va_P D vwCl ws0' H1 → va_D A ws0' → va_S A H0 H1 locs1 → W p l e R (s.setDrawn d1) m args below meth c H1 locs1 cells slots Q (F0 m (pc + 3) ls (.double r :: rest))) : W p l e R (s.setDrawn d0) m args below meth c H locs cells slots Q (F0 m pc ls st) :=
  va_calldD hd0 (va_runV_D S (hM H.size) cw (wr_preV (hP.sub isC (fm_of hC)) (hD.sub isC hnC hC) hK hq he) rfl hn hsize hst (lv_room (pc := pc) (ls := ls) (m := m) (rest := st) hw) hdg ⟨hc, hs⟩) hS (fun q _ h => va_free hD hS hA isC hC q h) (va_free hD hS hA isC hC)
    (fun r u t H1 locs1 ht hvm hw9 hB hz hk hS1 d1 hd1 => kk r d1 H1 locs1 hw9 hd1 (wr_post hP hD hS hA isC isR perm hC hR hnd hdis hnC ha1 hpm hk (by rw [← ht]; exact hB)) (va_adr hD ha0) hS1)
end LWB
section LWC
theorem nan_dec {a : UInt64} (h : isNaN64 a = true) : FP.Core.decode FP.Core.b64 a.toNat = .nan := by
  have h1 := isNaN64_iff.mp h
  have e : a.toNat &&& 0x7fffffffffffffff = a.toNat % 9223372036854775808 := Nat.and_two_pow_sub_one_eq_mod a.toNat 63
  rw [e] at h1
  have hE : FP.Core.fieldE FP.Core.b64 a.toNat = a.toNat / 4503599627370496 % 2048 := rfl
  have hT : FP.Core.fieldT FP.Core.b64 a.toNat = a.toNat % 4503599627370496 := rfl
  have hX : FP.Core.b64.exps - 1 = 2047 := rfl
  unfold FP.Core.decode
  rw [hE, hT, hX, if_pos (by omega), if_neg (by omega)]
theorem dcmp_nan {a : UInt64} (h : isNaN64 a = true) (b : UInt64) : FP.dcmp a b = none := by
  show FP.Core.order (FP.Core.decode FP.Core.b64 a.toNat) (FP.Core.decode FP.Core.b64 b.toNat) = none
  rw [nan_dec h]
  rfl
theorem dc_cases {r1 r2 x : UInt64} (h1 : alike64 r1 x = true) (h2 : alike64 r2 x = true) : Op.cmpValue (FP.dcmp r1 r2) .l = 0 ∨ (¬ Op.cmpValue (FP.dcmp r1 r1) .l = 0 ∧ ¬ Op.cmpValue (FP.dcmp r2 r2) .l = 0) := by
  have key : r1 = r2 ∨ (isNaN64 r1 = true ∧ isNaN64 r2 = true) := by
    simp only [alike64, Bool.or_eq_true, decide_eq_true_eq, Bool.and_eq_true] at h1 h2
    rcases h1 with h1 | h1 <;> rcases h2 with h2 | h2
    · exact Or.inl (h1.trans h2.symm)
    · exact Or.inr ⟨by rw [h1]; exact h2.2, h2.1⟩
    · exact Or.inr ⟨h1.1, by rw [h2]; exact h1.2⟩
    · exact Or.inr ⟨h1.1, h2.1⟩
  rcases key with rfl | ⟨k1, k2⟩
  · by_cases h : Op.cmpValue (FP.dcmp r1 r1) .l = 0
    · exact Or.inl h
    · exact Or.inr ⟨h, h⟩
  · rw [dcmp_nan k1, dcmp_nan k1, dcmp_nan k2]
    exact Or.inr ⟨by decide, by decide⟩
theorem lgc_self (x : Int64) : lg_cmp x x = 0 := by unfold lg_cmp; simp
theorem updL0 (g : Nat → Int64) (v : Int64) : vp_updL g 0 v (0 : Int32).toNatClampNeg = v := if_pos rfl
theorem cmp_out {g : Nat → Int64} {x y : Int32} (h : x = y) : lg_cmp (vp_updL g 0 x.toInt64 (0 : Int32).toNatClampNeg) y.toInt64 = 0 := by
  subst h
  rw [updL0]
  exact lgc_self _
-- which codes there are
theorem ite_in {P : Prop} [Decidable P] {x y : Int32} (S : Int32 → Prop) (hx : S x) (hy : S y) : S (if P then x else y) := by
  by_cases h : P
  · rw [if_pos h]; exact hx
  · rw [if_neg h]; exact hy
theorem begin_c (R : Nat → Nat → Int32) (n nd : Nat) : beginX R n nd = 0 ∨ beginX R n nd = 1 := by
  unfold beginX
  repeat' refine ite_in (fun z : Int32 => z = 0 ∨ z = 1) ?_ ?_
  all_goals first | exact Or.inl rfl | exact Or.inr rfl
theorem open_c (R : Nat → Nat → Int32) (nd : Nat) (d : Int32) : openX R nd d = 0 ∨ openX R nd d = 1 ∨ openX R nd d = 2 := by
  unfold openX
  repeat' refine ite_in (fun z : Int32 => z = 0 ∨ z = 1 ∨ z = 2) ?_ ?_
  all_goals first | exact Or.inl rfl | exact Or.inr (Or.inl rfl) | exact Or.inr (Or.inr rfl)
theorem cook_c (R : Nat → Nat → Int32) (n nd : Nat) (d u x : Int32) : cookX R n nd d u x = 0 ∨ cookX R n nd d u x = 1 ∨ cookX R n nd d u x = 2 ∨ cookX R n nd d u x = 3 := by
  unfold cookX
  repeat' refine ite_in (fun z : Int32 => z = 0 ∨ z = 1 ∨ z = 2 ∨ z = 3) ?_ ?_
  all_goals first | exact Or.inl rfl | exact Or.inr (Or.inl rfl) | exact Or.inr (Or.inr (Or.inl rfl)) | exact Or.inr (Or.inr (Or.inr rfl))
theorem pot_c (u : Int32) : potX u = 0 ∨ potX u = 1 := by
  unfold potX
  repeat' refine ite_in (fun z : Int32 => z = 0 ∨ z = 1) ?_ ?_
  all_goals first | exact Or.inl rfl | exact Or.inr rfl
theorem potq_c (u w : Int32) : potqX u w = 0 ∨ potqX u w = 1 := by
  unfold potqX
  repeat' refine ite_in (fun z : Int32 => z = 0 ∨ z = 1) ?_ ?_
  all_goals first | exact Or.inl rfl | exact Or.inr rfl
theorem dishq_c (nd : Nat) (d w : Int32) : dishqX nd d w = 0 ∨ dishqX nd d w = 1 := by
  unfold dishqX
  repeat' refine ite_in (fun z : Int32 => z = 0 ∨ z = 1) ?_ ?_
  all_goals first | exact Or.inl rfl | exact Or.inr rfl
theorem lineq_c (n : Nat) (i w : Int32) : lineqX n i w = 0 ∨ lineqX n i w = 1 := by
  unfold lineqX
  repeat' refine ite_in (fun z : Int32 => z = 0 ∨ z = 1) ?_ ?_
  all_goals first | exact Or.inl rfl | exact Or.inr rfl
theorem countq_c (w : Int32) : countqX w = 0 ∨ countqX w = 1 := by
  unfold countqX
  repeat' refine ite_in (fun z : Int32 => z = 0 ∨ z = 1) ?_ ?_
  all_goals first | exact Or.inl rfl | exact Or.inr rfl
theorem would_c (w : Int32) : wouldX w = 0 ∨ wouldX w = 1 := by
  unfold wouldX
  repeat' refine ite_in (fun z : Int32 => z = 0 ∨ z = 1) ?_ ?_
  all_goals first | exact Or.inl rfl | exact Or.inr rfl
-- what two asked numbers are, where nothing is thrown
theorem two_ok {P Q : Int32} (h : (if P = 0 then (1 : Int32) else if Q = 0 then 1 else 0) = 0) : ¬ P = 0 ∧ ¬ Q = 0 := by
  by_cases h1 : P = 0
  · rw [if_pos h1] at h; exact absurd h (by decide)
  · rw [if_neg h1] at h
    by_cases h2 : Q = 0
    · rw [if_pos h2] at h; exact absurd h (by decide)
    · exact ⟨h1, h2⟩
theorem pot_ans {R M : Nat → Nat → Int32} {nd n dr : Nat} {u w : Int32} (hI : Inv R nd n dr) (hA : Agr R M) (h : potqX u w = 0) : potAnsS R n u w = potTM M n nd u w := by
  obtain ⟨h1, h2⟩ := two_ok h
  obtain ⟨i, hi, rfl⟩ := below_ex (z := 8) (by decide) h1
  obtain ⟨j, hj, rfl⟩ := below_ex (z := 5) (by decide) h2
  exact pot_eq hI hA hi hj
theorem dish_ans {R M : Nat → Nat → Int32} {nd n dr : Nat} {d w : Int32} (hI : Inv R nd n dr) (hA : Agr R M) (h : dishqX nd d w = 0) : dishAnsS R n d w = dishTM M n d w := by
  obtain ⟨h1, h2⟩ := two_ok h
  obtain ⟨i, hi, rfl⟩ := below_ex (by have := hI.1.2.1; omega) h1
  obtain ⟨j, hj, rfl⟩ := below_ex (z := 5) (by decide) h2
  exact dish_eq hI hA hi hj
theorem line_ans {R M : Nat → Nat → Int32} {nd n dr : Nat} {u w : Int32} (hI : Inv R nd n dr) (hA : Agr R M) (h : lineqX n u w = 0) : lineAnsS R dr u w = lineTM M dr u w := by
  obtain ⟨h1, h2⟩ := two_ok h
  obtain ⟨i, hi, rfl⟩ := below_ex (by have := hI.1.1; omega) h1
  obtain ⟨j, hj, rfl⟩ := below_ex (z := 7) (by decide) h2
  exact line_eq hA hI.1.1 hi hj
theorem one_ok {P : Int32} (h : (if P = 0 then (1 : Int32) else 0) = 0) : ¬ P = 0 := fun h1 => by
  rw [if_pos h1] at h; exact absurd h (by decide)
theorem count_ans {R M : Nat → Nat → Int32} {nd n dr : Nat} {fl w : Int32} (hI : Inv R nd n dr) (hA : Agr R M) (h : countqX w = 0) : countAnsS R nd n dr fl w = countedM M nd n dr fl w := by
  obtain ⟨j, hj, rfl⟩ := below_ex (z := 11) (by decide) (one_ok h)
  exact count_eq hI hA hj
theorem would_ans {R M : Nat → Nat → Int32} {nd n dr : Nat} {w : Int32} (hI : Inv R nd n dr) (hA : Agr R M) (h : wouldX w = 0) : wouldAnsS R nd n dr w = wouldTM M n nd dr w := by
  obtain ⟨j, hj, rfl⟩ := below_ex (z := 5) (by decide) (one_ok h)
  exact would_eq hI hA hj
-- the law's world
abbrev LW (D : va_G) (cy ly : ClassId) (h : Nat) (a : Nat → Nat) (o q : Nat) (bq : Nat → Nat) (mo q2 : Nat) (b2 : Nat → Nat) (R M M2 : Nat → Nat → Int32) (nd n dr n2 dr2 : Nat) (fl an fi ba th an2 fi2 ba2 : Int32) (g : Nat → Int64) : va_W :=
  cC h a cy R nd n dr fl ++ [(o, .inl (ly, 1, .inr (.inl g)))] ++ cW q bq cy M n dr an fi ba mo th nd fl q2 b2 M2 n2 dr2 an2 fi2 ba2
abbrev lwA (s : State) : Nat → Prop := fun q => s.heap.size ≤ q
/-- what stands all the way -/
def LCtx (p : Program) (l : Launch) (s : State) (m : MethodId) (meth : Method) (c : Code) (b L : Nat) (xs : Nat → Int32) (D : va_G) (cy ly : ClassId) : Prop :=
  l.stackTraces = false ∧ lw_At p s m meth c b L xs ∧ KKL D cy ly s ∧ xPre (lwA s) s s.heap ∧ xNc s
/-- class and model beside each other -/
def LSt (s : State) (D : va_G) (cy ly : ClassId) (h : Nat) (a : Nat → Nat) (o q : Nat) (bq : Nat → Nat) (mo q2 : Nat) (b2 : Nat → Nat) (R M M2 : Nat → Nat → Int32) (nd n dr n2 dr2 : Nat) (fl an fi ba th an2 fi2 ba2 : Int32) (g : Nat → Int64) (H : Heap) (locs : List Loc) : Prop :=
  Inv R nd n dr ∧ Agr R M ∧ va_P D vwCl (LW D cy ly h a o q bq mo q2 b2 R M M2 nd n dr n2 dr2 fl an fi ba th an2 fi2 ba2 g) H ∧ va_D (lwA s) (LW D cy ly h a o q bq mo q2 b2 R M M2 nd n dr n2 dr2 fl an fi ba th an2 fi2 ba2 g) ∧ va_S (lwA s) s.heap H locs
/-- the way on from behind the switch -/
def lwK (p : Program) (l : Launch) (e : Env) (s : State) (m : MethodId) (below : List Frame) (meth : Method) (c : Code) (b : Nat) (D : va_G) (cy ly : ClassId) (h : Nat) (a : Nat → Nat) (o q : Nat) (bq : Nat → Nat) (mo q2 : Nat) (b2 : Nat → Nat) (i cells slots : Nat) : Prop :=
  ∀ (R M M2 : Nat → Nat → Int32) (nd n dr n2 dr2 : Nat) (fl an fi ba th an2 fi2 ba2 : Int32) (g : Nat → Int64) (H : Heap) (locs : List Loc) (d1 : Drawn) (ls : Array Slot) (c1 s1 : Nat), LSt s D cy ly h a o q bq mo q2 b2 R M M2 nd n dr n2 dr2 fl an fi ba th an2 fi2 ba2 g H locs → s.drawn.sameBut d1 lw_cs → c1 ≤ cells + 1000 → s1 ≤ slots + 7000 → lv_has ls 9 [(4, .int (nI i)), (3, .ref o), (2, .ref mo), (1, .ref h), (0, .ref b)] →
    W p l e room_1 (s.setDrawn d1) m #[Value.ref b] below meth c H locs c1 s1 (lw_Z below #[Value.ref b] s) (F0 m 857 ls [])
theorem rm_c {k : Nat} (h : k ≤ 540000) : k ≤ room_1.cells := Nat.le_trans h (Nat.le_of_ble_eq_true rfl)
theorem rm_s {k : Nat} (h : k ≤ 3800000) : k ≤ room_1.slots := Nat.le_trans h (Nat.le_of_ble_eq_true rfl)
end LWC
