section HBS
def KKL (D : va_G) (cy ly : ClassId) (U : State) : Prop := va_K D vwCl [(cy, .int), (ly, .long)] U ∧ nwAll U
theorem KKL.kk {D : va_G} {cy ly : ClassId} {U : State} (h : KKL D cy ly U) : KK D cy U := ⟨h.1.sub [0] rfl, h.2⟩
theorem KKL.blind {D : va_G} {cy ly : ClassId} {U : State} {g : JFrame} {mk : MethodId} {a : Array Value} (h : KKL D cy ly U) : KKL D cy ly (U.calling g mk a) :=
  ⟨va_K.moved (u := U) (U := U.calling g mk a) (Vm.Alike.refl U.vm) h.1, nwAll_same (u := U) (U := U.calling g mk a) rfl h.2⟩
theorem KKL.warm {D : va_G} {cy ly : ClassId} {s U : State} (hW : s.WarmedH U.vm) (h : KKL D cy ly s) : KKL D cy ly U := ⟨va_K.moved hW.alike h.1, nwAll_warm hW h.2⟩
def xNc (U : State) : Prop := va_Nc xIAE xIOB U ∧ va_Nc xISE xIOB U ∧ va_Nc xISE xIAE U
theorem xNc.moved {u U : State} (hvm : u.vm.Alike U.vm) (h : xNc u) : xNc U := ⟨h.1.moved hvm, h.2.1.moved hvm, h.2.2.moved hvm⟩
abbrev lB (D : va_G) (cy ly : ClassId) (ws : va_W) (sz : Nat) : State → Prop := fun U => U.heap.size = sz ∧ va_P D vwCl ws U.heap ∧ KKL D cy ly U ∧ va_D (fun _ => True) ws ∧ xPre (va_A ws sz) U U.heap ∧ xNc U
theorem l_preS {s : State} {H : Heap} {D : va_G} {cy ly : ClassId} {ws : va_W} {As : List Value} {A : Nat → Prop} {locs : List Loc} (hP : va_P D vwCl ws H) (hD : va_D A ws) (hK : KKL D cy ly s) (hX : xPre A s s.heap) (hS : va_S A s.heap H locs) (hsub : ∀ q, va_A ws H.size q → A q) (hN : xNc s) : PreS s H (va_Pc As (lB D cy ly ws H.size)) As :=
  ⟨fun a U g mk q => ⟨q.1, q.2.1, q.2.2.1, q.2.2.2.1.blind, q.2.2.2.2.1, q.2.2.2.2.2.1.blind, xNc.moved (u := U) (U := U.calling g mk a) (Vm.Alike.refl U.vm) q.2.2.2.2.2.2⟩, fun U hU hW => ⟨rfl, by rw [hU], by rw [hU]; exact hP, hK.warm hW, hD.weaken (fun _ _ _ _ => trivial), hX.call hS hsub hU hW, hN.moved hW.alike⟩⟩
theorem x_preV {s : State} {H : Heap} {D : va_G} {cy : ClassId} {ws : va_W} {b : Addr} {As : List Value} {ci q0 : Nat} {q : vw_C} {fs : List Value} {A : Nat → Prop} {locs : List Loc} (hP : va_P D vwCl ws H) (hD : va_D A ws) (hK : KK D cy s) (hX : xPre A s s.heap) (hS : va_S A s.heap H locs) (hsub : ∀ q, va_A ws H.size q → A q) (hc : vwCl[ci]? = some q) (he : ws[q0]? = some (b, .inr (ci, fs))) : PreV s H q.1 b (va_Pc (.ref b :: As) (xB D cy ws H.size)) As :=
  ⟨fun a U g mk q => ⟨q.1, ⟨q.2.1.1, q.2.1.2.1, q.2.1.2.2.1.blind, q.2.1.2.2.2⟩, q.2.2.blind⟩, va_recv hK.1 hP hc he, fun U hU hW => ⟨rfl, ⟨by rw [hU], by rw [hU]; exact hP, hK.warm hW, hD.weaken (fun _ _ _ _ => trivial)⟩, hX.call hS hsub hU hW⟩⟩
/-- a helper of the law: r is what it answers, ws1 the world behind it -/
abbrev LhI (l : Launch) (y : MethodName) (wd : List Cond) (fr lo : Nat) (As : List Value) (D : va_G) (cy ly : ClassId) (ws ws1 : va_W) (sz : Nat) (r : Int32) : Prop :=
  Met l y wd { frames := fr, cells := 1, slots := 6, locals := lo } (va_Pc As (lB D cy ly ws sz)) (va_Qi (fun (x : Int32) (_ : Unit) => x = r) (fun _ t => va_P D vwCl ws1 t.heap) (va_A ws sz)) 1 6 (va_A ws sz)
variable {p : Program} {l : Launch} {e : Env} {R : Room} {s : State} {m : MethodId} {args : Array Value} {below : List Frame} {meth : Method} {c : Code} {H : Heap} {locs : List Loc} {cells slots : Nat} {Q : State → Prop}
variable {y : MethodName} {bytes cc : ByteArray} {maxL nL n index fr lo : Nat} {ret : Option FieldType} {wd Ts : List Cond} {own : String} {b : Addr} {As rest st : List Value} {D : va_G} {cy : ClassId} {ws ws0 : va_W} {pc : Nat} {ls : Array Slot} {A : Nat → Prop} {E : String}
/-- a call that throws E: it goes to the caller's table, the caller's world as it was -/
theorem th_V {q : vw_C} {ci q0 : Nat} {fs : List Value} (S : CallFix p m c cc nL s args Ts own) (hM : ∀ sz, ThX l y wd fr lo (.ref b :: As) D cy ws sz E)
    (cw : CallW R s args own q.1 index y bytes maxL ret wd { frames := fr, cells := 1, slots := 6, locals := lo } 1 6 n)
    (hP : va_P D vwCl ws0 H) (hK : KK D cy s) (hD : va_D A ws0) (hS : va_S A s.heap H locs) (hA : ∀ q, s.heap.size ≤ q → A q) (hX : xPre A s s.heap) (isC isR perm : List Nat) (hC : isC.map (fun i => ws0[i]?) = ws.map some) (hR : isR.map (fun i => ws0[i]?) = (isR.filterMap (fun i => ws0[i]?)).map some) (hnd : va_nd isR = true) (hdis : ∀ i ∈ isR, i ∉ isC) (hnC : va_nd isC = true)
    (hpm : perm.filterMap (fun i => (isR.filterMap (fun i => ws0[i]?) ++ ws)[i]?) = ws0)
    (hq : vwCl[ci]? = some q) (he : ws[q0]? = some (b, .inr (ci, fs))) (hn : As.length = n) (hsize : ls.size = nL) (hst : st = As.reverse ++ .ref b :: rest) (hw : (rest.map fun v => v.category).sum ≤ 8) (hdg : decode cc pc = .ok (.invokevirtual index, 3)) (hc : cells + 1 ≤ R.cells) (hs : slots + 6 ≤ R.slots)
    (kx : ∀ (ce : Cell) (q9 : Addr) (H1 : Heap) (locs1 : List Loc), va_P D vwCl ws0 H1 → va_S A s.heap H1 locs1 → H1[q9]? = some ce → ce.vm = .none → s.vm.findClass E = some ce.cls → vx_W p l e R s m args below meth c H1 locs1 (cells + 1) (slots + 6) Q (F0 m pc ls rest) q9) : W p l e R s m args below meth c H locs cells slots Q (F0 m pc ls st) :=
  vx_calli (vx_runV S (hM H.size) cw (x_preV (hP.sub isC (fm_of hC)) (hD.sub isC hnC hC) hK hX hS (va_free hD hS hA isC hC) hq he) rfl hn hsize hst (lv_room (pc := pc) (ls := ls) (m := m) (rest := st) hw) hdg ⟨hc, hs⟩) hS (fun q _ h => va_free hD hS hA isC hC q h) (va_free hD hS hA isC hC) (fun q _ h => va_free hD hS hA isC hC q h)
    (fun E9 ce q9 u t H1 locs1 ht hvm hu hB hz hk hS1 h1 h2 h3 => by
      obtain ⟨rfl, hB⟩ := hB
      exact kx ce q9 H1 locs1 (wr_post hP hD hS hA isC isR perm hC hR hnd hdis hnC rfl hpm hk (by rw [← ht]; exact hB)) hS1 h1 h2 h3)
    (fun r u t H1 locs1 ht hvm hu hB hz hk hS1 => hu.elim)
end HBS
