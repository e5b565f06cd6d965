section XBS
abbrev xISE : String := "java/lang/IllegalStateException"
abbrev xIAE : String := "java/lang/IllegalArgumentException"
abbrev xIOB : String := "java/lang/IndexOutOfBoundsException"
abbrev xNm : List String := ["java/lang/RuntimeException", "java/lang/Exception"]
def xStr (k : Nat) (tx : String) (U : State) : Prop := ∃ sa : Nat, vk_R RX0 k tx sa U
/-- what the tables say that a throw needs -/
def xTab (U : State) : Prop := va_Nw (.castable xISE xISE) U ∧ va_Nw (.castable xIAE xIAE) U ∧ va_Nw (.castable xIOB xIOB) U ∧
  xStr 55 "there were 20 dishes" U ∧ xStr 64 "no room for the line" U ∧ xStr 83 "no such dish or pot" U ∧ xStr 88 "spoons are 0 to 999" U ∧ xStr 94 "the dish is not open" U ∧ xStr 100 "another dish holds the pot" U ∧ xStr 110 "no such dish" U ∧ xStr 121 "no such pot" U ∧ xStr 145 "no such pot or answer" U ∧ xStr 151 "no such dish or answer" U ∧ xStr 156 "no such line or answer" U ∧ xStr 161 "no such answer" U ∧
  va_Nw (.declares (Bundle.initS "java/lang/RuntimeException")) U ∧ va_Nw (.declares (Bundle.initS "java/lang/Exception")) U ∧ va_Nw (.declares (Bundle.initS Bundle.tN)) U
theorem xStr.warm {k : Nat} {tx : String} {s U : State} (hW : s.WarmedH U.vm) (h : xStr k tx s) : xStr k tx U := by
  obtain ⟨sa, h⟩ := h
  exact ⟨sa, vk_R.warm hW h⟩
theorem xStr.same {k : Nat} {tx : String} {u U : State} (hv : U.vm = u.vm) (h : xStr k tx u) : xStr k tx U := by
  obtain ⟨sa, h⟩ := h
  exact ⟨sa, vk_R.same hv h⟩
theorem xTab.warm {s U : State} (hW : s.WarmedH U.vm) (h : xTab s) : xTab U := by
  obtain ⟨c0, c1, c2, s0, s1, s2, s3, s4, s5, s6, s7, s8, s9, s10, s11, e0, e1, e2⟩ := h
  exact ⟨va_Nw.warmC hW c0, va_Nw.warmC hW c1, va_Nw.warmC hW c2, s0.warm hW, s1.warm hW, s2.warm hW, s3.warm hW, s4.warm hW, s5.warm hW, s6.warm hW, s7.warm hW, s8.warm hW, s9.warm hW, s10.warm hW, s11.warm hW, va_Nw.warmD hW e0, va_Nw.warmD hW e1, va_Nw.warmD hW e2⟩
theorem xTab.same {u U : State} (hv : u.vm = U.vm) (h : xTab u) : xTab U := by
  obtain ⟨c0, c1, c2, s0, s1, s2, s3, s4, s5, s6, s7, s8, s9, s10, s11, e0, e1, e2⟩ := h
  exact ⟨va_Nw.same rfl hv c0, va_Nw.same rfl hv c1, va_Nw.same rfl hv c2, s0.same hv.symm, s1.same hv.symm, s2.same hv.symm, s3.same hv.symm, s4.same hv.symm, s5.same hv.symm, s6.same hv.symm, s7.same hv.symm, s8.same hv.symm, s9.same hv.symm, s10.same hv.symm, s11.same hv.symm, va_Nw.same rfl hv e0, va_Nw.same rfl hv e1, va_Nw.same rfl hv e2⟩
/-- .. and the statics that it reads, outside A -/
def xPre (A : Nat → Prop) (U : State) (H : Heap) : Prop := vx_Zq Bundle.tN "UNASSIGNED_STACK" Bundle.steD A U H ∧ vx_Zq Bundle.tN "SUPPRESSED_SENTINEL" Bundle.listD A U H ∧ xTab U
theorem xPre.blind {A : Nat → Prop} {U : State} {g : JFrame} {mk : MethodId} {a : Array Value} (h : xPre A U U.heap) : xPre A (U.calling g mk a) (U.calling g mk a).heap :=
  ⟨vx_Zq.moved (u := U) (U := U.calling g mk a) (Vm.Alike.refl U.vm) h.1, vx_Zq.moved (u := U) (U := U.calling g mk a) (Vm.Alike.refl U.vm) h.2.1, xTab.same (u := U) (U := U.calling g mk a) rfl h.2.2⟩
theorem xPre.call {A A1 : Nat → Prop} {s U : State} {H : Heap} {locs : List Loc} (h : xPre A s s.heap) (hS : va_S A s.heap H locs) (hsub : ∀ q, A1 q → A q) (hU : U.heap = H) (hW : s.WarmedH U.vm) : xPre A1 U U.heap := by
  rw [hU]
  exact ⟨vx_Zq.moved hW.alike ((h.1.kept hS.2.1).narrow hsub), vx_Zq.moved hW.alike ((h.2.1.kept hS.2.1).narrow hsub), h.2.2.warm hW⟩
theorem P_ext {D : va_G} {ws : va_W} {H H1 : Heap} (h : va_P D vwCl ws H) (hk : ∀ q : Nat, q < H.size → H1[q]? = H[q]?) : va_P D vwCl ws H1 := h.kept (fun k q hq => hk q.1 (h k q hq).lt)
theorem F_ext {A : Nat → Prop} {s t : State} {H : Heap} {locs : List Loc} (hS : va_S A s.heap H locs) (hz : H.size ≤ t.heap.size) (hk : ∀ q : Nat, q < H.size → t.heap[q]? = H[q]?) : va_F A s t :=
  ⟨Nat.le_trans hS.1 hz, fun q h1 h2 => by rw [hk q (Nat.lt_of_lt_of_le h1 hS.1)]; exact hS.2.1 q h1 h2⟩
abbrev xB (D : va_G) (cy : ClassId) (ws : va_W) (sz : Nat) : State → Prop := fun U => wrB D cy ws sz U ∧ xPre (va_A ws sz) U U.heap
/-- a call that throws E, nothing changed -/
abbrev ThX (l : Launch) (y : MethodName) (wd : List Cond) (fr lo : Nat) (As : List Value) (D : va_G) (cy : ClassId) (ws : va_W) (sz : Nat) (E : String) : Prop :=
  vx_Met l y wd { frames := fr, cells := 1, slots := 6, locals := lo } (va_Pc As (xB D cy ws sz)) (va_Qi (fun (_ : Int32) (_ : Unit) => False) (fun _ _ => False) (va_A ws sz)) (vx_X (fun _ : Unit => True) (fun E9 _ t => E9 = E ∧ va_P D vwCl ws t.heap) (va_A ws sz)) 1 6 (va_A ws sz)
-- the words of a throw
theorem xg_ISE : ∀ w ∈ vx_atS RX0 57 xISE xNm, vx_ot w = true := by decide +kernel
theorem xg_IAE : ∀ w ∈ vx_atS RX0 90 xIAE xNm, vx_ot w = true := by decide +kernel
theorem xg_IOB : ∀ w ∈ vx_atS RX0 85 xIOB xNm, vx_ot w = true := by decide +kernel
theorem xn_ISE : ∀ w ∈ (vx_atS RX0 57 xISE xNm).filter (fun w => !goodWord w), w ∈ [Cond.castable xISE xISE, Cond.declares (Bundle.initS "java/lang/RuntimeException"), Cond.declares (Bundle.initS "java/lang/Exception"), Cond.declares (Bundle.initS Bundle.tN)] := by decide +kernel
theorem xn_IAE : ∀ w ∈ (vx_atS RX0 90 xIAE xNm).filter (fun w => !goodWord w), w ∈ [Cond.castable xIAE xIAE, Cond.declares (Bundle.initS "java/lang/RuntimeException"), Cond.declares (Bundle.initS "java/lang/Exception"), Cond.declares (Bundle.initS Bundle.tN)] := by decide +kernel
theorem xn_IOB : ∀ w ∈ (vx_atS RX0 85 xIOB xNm).filter (fun w => !goodWord w), w ∈ [Cond.castable xIOB xIOB, Cond.declares (Bundle.initS "java/lang/RuntimeException"), Cond.declares (Bundle.initS "java/lang/Exception"), Cond.declares (Bundle.initS Bundle.tN)] := by decide +kernel
end XBS
