/-! ===== BEGIN words of one list among another's, by their places ===== -/
theorem goodIn_r {big : List Cond} (ws : List Cond) (ps : List Nat) (hp : ws = ps.filterMap (fun i => big[i]?)) (h : ws.all goodWord = true) : GoodIn big ws := by
  intro w hw
  have h1 := List.all_eq_true.mp h w hw
  rw [hp] at hw
  obtain ⟨i, -, hi⟩ := List.mem_filterMap.mp hw
  have hm : w ∈ big := by first | exact List.mem_of_getElem? hi | exact List.getElem?_mem hi
  exact ⟨hm, good_of_word h1⟩
theorem goodIn_app {big a b : List Cond} (ha : GoodIn big a) (hb : GoodIn big b) : GoodIn big (a ++ b) := fun w h => (List.mem_append.mp h).elim (ha w) (hb w)
theorem goodIn_ca {big a b : List Cond} {c : Cond} (ha : GoodIn big (c :: a)) (hb : GoodIn big b) : GoodIn big (c :: (a ++ b)) := fun w h => (List.mem_cons.mp h).elim (fun e => ha w (List.mem_cons.mpr (Or.inl e))) (fun h => (List.mem_append.mp h).elim (fun h => ha w (List.mem_cons.mpr (Or.inr h))) (hb w))
theorem goodIn_sub {big ws : List Cond} (hm : ∀ w ∈ ws, w ∈ big) (h : ws.all goodWord = true) : GoodIn big ws := fun w hw => ⟨hm w hw, good_of_word (List.all_eq_true.mp h w hw)⟩
/-! ===== END ===== -/

/-! ===== BEGIN exceptions that leave a method, and their catching by the caller (launches without stack traces) ===== -/
section VXA
/-! The laws vx_back, vx_callV, vx_callS, vx_callSW, vx_throw0, vx_throwS follow proofs of the library, with one case more: JvmDerived/Free/Laws.lean (Back.of_free), Shelf42/LK1.lean (callV, callS), Shelf/KitTraced.lean (throwNew0V, throwNewS). -/
/-- where a method has thrown q: the class by its name, the cell, what was written, the world -/
def vx_T (XC : String → State → State → Prop) (st : State) (q : Addr) (t : State) (mc ms : Nat) (free : Addr → Prop) : Prop :=
  ∃ (E : String) (ce : Cell) (L : List Loc), XC E st t ∧ t.heap[q]? = some ce ∧ ce.vm = .none ∧ st.vm.findClass E = some ce.cls ∧ st.WarmedH t.vm ∧ st.sameButNew ({ t with vm := st.vm } : State) L mc ms ∧ ∀ z ∈ L, free z.base
def vx_Q (Qc : Array Value → State → Outcome → State → Prop) (XC : String → State → State → Prop) (mc ms : Nat) (free : Addr → Prop) : Array Value → State → Outcome → State → Prop := fun a st o t =>
  (Qc a st o t ∧ ∃ L, FrameEnd st o t L mc ms ∧ ∀ q ∈ L, free q.base) ∨ ∃ q, o = .threw q ∧ vx_T XC st q t mc ms free
/-- a callee that returns or throws -/
def vx_Met (l : Launch) (y : MethodName) (ws : List Cond) (rm : Room) (Pc : Array Value → State → Prop) (Qc : Array Value → State → Outcome → State → Prop) (XC : String → State → State → Prop) (mc ms : Nat) (free : Addr → Prop) : Prop :=
  MetFree l y (headSpec ws rm) Pc (fun _ _ _ _ _ => True) (vx_Q Qc XC mc ms free)
def vx_Post (XC : String → State → State → Prop) (mc ms : Nat) (free : Addr → Prop) : Pt → Array Value → Addr → Pt → Prop := fun A a q B =>
  ∃ (g : JFrame) (mk : MethodId) (t : State) (L : List Loc) (E : String) (ce : Cell), B.U.heap = t.heap ∧ B.U.vm = t.vm ∧ XC E (A.U.calling g mk a) t ∧ t.heap[q]? = some ce ∧ ce.vm = .none ∧ A.U.vm.findClass E = some ce.cls ∧ B.locs = A.locs ++ L ∧ (∀ z ∈ L, free z.base) ∧ B.cells = A.cells + mc ∧ B.slots = A.slots + ms
def vx_Back (l : Launch) (R : Room) (p : Program) (e : Env) (below : List Frame) (s : State) (sargs : Array Value) (y : MethodName) (len W9 : Nat)
    (Pre : Pt → Array Value → Prop) (Post : Pt → Array Value → Option Value → Pt → Prop) (PostX : Pt → Array Value → Addr → Pt → Prop) : Prop :=
  ∀ (m : MethodId) (meth : Method) (c : Code) (A : Pt) (g : JFrame) (ig : Instr) (mk : MethodId) (a : Array Value),
    Stand p l e R s m sargs below meth c A.U A.locs A.cells A.slots → g.method = m → g.locals.size = c.maxLocals → decode c.code g.pc = .ok (ig, len) →
    2 * g.monitorRoom + (g.stack.map fun v => v.category).sum ≤ W9 → A.U.methodNamed? y = some mk → Pre A a →
    (∃ (v : Option Value) (B : Pt), Stand p l e R s m sargs below meth c B.U B.locs B.cells B.slots ∧ Post A a v B ∧
      Steps p.tables e below (doInvoke e (A.U.setTop g) [] mk a).1 (B.U.setTop { g with pc := g.pc + len, stack := v.toList ++ g.stack })) ∨
    (∃ (q : Addr) (B : Pt), Stand p l e R s m sargs below meth c B.U B.locs B.cells B.slots ∧ PostX A a q B ∧
      Steps p.tables e below (doInvoke e (A.U.setTop g) [] mk a).1 ((B.U.setTop g).pushFrame (.throwing q)))
section Payer
variable {l : Launch} {R : Room} {p : Program} {e : Env} {below : List Frame} {s : State} {sargs : Array Value} {y : MethodName} {len W9 : Nat}
theorem vx_back {ws : List Cond} {rm : Room} {Pc : Array Value → State → Prop} {Qc : Array Value → State → Outcome → State → Prop} {XC : String → State → State → Prop} {mc ms : Nat} {free : Addr → Prop} {bytes : ByteArray} {maxL : Nat} {ret : Option FieldType}
    (hM : vx_Met l y ws rm Pc Qc XC mc ms free) (hblind : FrameBlind Pc) (hrc : rm.cells = mc) (hrs : rm.slots = ms)
    (hframes : rm.frames + 1 ≤ R.frames) (hlocals : W9 + (maxL + 11) + rm.locals ≤ R.locals)
    (hws : ∀ w ∈ ws, ∀ a' U, s.WarmedH U.vm → w.before a' U = true) (hcode : Cond.code y bytes maxL ret ∈ ws) (hinit : ∀ a' U, s.WarmedH U.vm → (Cond.initialized y.cls).before a' U = true) :
    vx_Back l R p e below s sargs y len W9 (PreOf R mc ms Pc) (PostOf Qc mc ms free) (vx_Post XC mc ms free) := by
  intro m meth c A g ig mk a X hg hsize hdg hW hn hp
  have h1 : (headSpec ws rm).pre.before a A.U = true := atoms_intro fun w hw => hws w hw _ _ X.warmed
  have h2 : (Cond.code y bytes maxL ret).before a A.U = true := hws _ hcode _ _ X.warmed
  have h3 : (Cond.initialized y.cls).before a A.U = true := hinit _ _ X.warmed
  have h4 : A.cells + (headSpec ws rm).room.cells ≤ R.cells := by rw [show (headSpec ws rm).room.cells = mc from hrc]; exact hp.1
  have h5 : A.slots + (headSpec ws rm).room.slots ≤ R.slots := by rw [show (headSpec ws rm).room.slots = ms from hrs]; exact hp.2.1
  have hPc : Pc a (A.U.calling g mk a) := hblind _ _ _ _ hp.2.2
  obtain ⟨U, Ls, c0, s0⟩ := A
  dsimp only [Pt.U, Pt.locs, Pt.cells, Pt.slots] at h1 h2 h3 h4 h5 X hn hPc ⊢
  obtain ⟨methY, cY, hmY, hcY, -, hlY, -, -, -, -⟩ := Cond.code_spec hn h2
  obtain ⟨kY, hkY, -⟩ := className_of_methodNamed hn
  have hinitY : kY.init = .initialized := Cond.initialized_spec (findClass_of_methodNamed hn) hkY h3
  have h : At U g.method c below := by rw [hg]; exact X.here
  have hlocals9 : W9 + (maxL + 11) + (headSpec ws rm).room.locals ≤ R.locals := hlocals
  have happ : (headSpec ws rm).appliesLoose y e.platform (U.calling g mk a) = true :=
    Spec.appliesLoose_calling (g := g) h hdg hn hkY hinitY
      (X.room_calling (g := g) (R' := (headSpec ws rm).room) hsize hmY hcY hframes (by rw [hlY]; omega) h4 h5) h1
  obtain ⟨mid, hmid⟩ := h.above
  have hfr : (U.setTop g).frames = (.java g :: mid) ++ below := by rw [State.frames_setTop' g h.top, hmid]; rfl
  obtain ⟨o, s₂, hsteps, -, hend, hq⟩ := Steps.callFree hM p X.admits X.cas X.clock (acts := []) hfr happ hPc trivial
  have hq' : vx_Q Qc XC mc ms free a (U.calling g mk a) o s₂ := hq
  rw [State.frames_setTop' g h.top] at hend
  obtain ⟨g₀, hg0⟩ := Option.isSome_iff_exists.mp h.top
  obtain ⟨r, hr⟩ := State.topJava?_eq_some.mp hg0
  have hr' : (({ U with heap := s₂.heap, slotsUsed := s₂.slotsUsed } : State).setVm s₂.vm).frames = .java g₀ :: r := hr
  rcases hq' with ⟨hqc, L, hfe, hL⟩ | ⟨q, rfl, E, ce, L, hx, hce, hcv, hcl, hW₂, hsm, hL⟩
  · obtain ⟨⟨v, rfl⟩, hW₂, e2, q2, q3, q4, q5, q6⟩ := id hfe
    have e3 : s₂ = ({ (U.calling g mk a).setFrames s₂.frames with heap := s₂.heap, slotsUsed := s₂.slotsUsed } : State).setVm s₂.vm := by
      have : s₂ = ({ s₂ with vm := (U.calling g mk a).vm } : State).setVm s₂.vm := rfl
      rw [e2] at this
      exact this
    obtain ⟨c₂, i₂, len₂, hc₂, hd₂, hf₂⟩ := hend
    have hW' : U.WarmedH s₂.vm := hW₂
    have hcc : c₂ = c := by
      have h1 : s₂.code? g.method = U.code? g.method := by
        rw [State.code?_eq, State.code?_eq, hW'.alike.method?]
      exact Option.some.inj (hc₂.symm.trans (h1.trans h.code))
    subst hcc
    have hlen : len₂ = len := by rw [hdg] at hd₂; cases hd₂; rfl
    subst hlen
    have hs₂ : s₂ = (({ U with heap := s₂.heap, slotsUsed := s₂.slotsUsed } : State).setVm s₂.vm).setTop { g with pc := g.pc + len₂, stack := v.toList ++ g.stack } := by
      refine e3.trans ?_
      rw [hf₂, State.calling_eq h.top, State.setFrames_setFrames, State.setTop_of_frames _ hr', hr]
      rfl
    have hsame : U.sameButNew ({ U with heap := s₂.heap, slotsUsed := s₂.slotsUsed } : State) L mc ms := by
      refine ⟨?_, q2, q3, q4, q5, q6⟩
      obtain ⟨t, ht, -⟩ := State.frames_cons hr
      show ({ U with heap := s₂.heap, slotsUsed := s₂.slotsUsed } : State) = { U.setFrames U.frames with heap := s₂.heap, slotsUsed := s₂.slotsUsed }
      rw [State.setFrames_self ht]
    subst hg
    refine Or.inl ⟨v, ⟨(({ U with heap := s₂.heap, slotsUsed := s₂.slotsUsed } : State).setVm s₂.vm), Ls ++ L, c0 + mc, s0 + ms⟩,
      ⟨X.admits, X.cas, X.clock, X.frames, X.room, X.hears, X.method, X.code, (X.here.setHeapUsed s₂.heap s₂.slotsUsed).setVm hW'.alike, X.tail, State.WarmedH.trans X.warmed hW', X.limits, X.bytes, X.same.trans (hsame.setVm s.vm)⟩,
      ⟨g, mk, s₂, L, rfl, rfl, hqc, rfl, hL, rfl, rfl⟩, ?_⟩
    show Steps p.tables e below _ ((({ U with heap := s₂.heap, slotsUsed := s₂.slotsUsed } : State).setVm s₂.vm).setTop { g with pc := g.pc + len₂, stack := v.toList ++ g.stack })
    rw [← hs₂]
    exact hsteps
  · obtain ⟨e2, q2, q3, q4, q5, q6⟩ := id hsm
    have e3 : s₂ = ({ (U.calling g mk a).setFrames s₂.frames with heap := s₂.heap, slotsUsed := s₂.slotsUsed } : State).setVm s₂.vm := by
      have : s₂ = ({ s₂ with vm := (U.calling g mk a).vm } : State).setVm s₂.vm := rfl
      rw [e2] at this
      exact this
    have hf₂ : s₂.frames = .throwing q :: .java g :: U.frames.tail := hend
    have hW' : U.WarmedH s₂.vm := hW₂
    have hs₂ : s₂ = ((({ U with heap := s₂.heap, slotsUsed := s₂.slotsUsed } : State).setVm s₂.vm).setTop g).pushFrame (.throwing q) := by
      refine e3.trans ?_
      rw [hf₂, State.calling_eq h.top, State.setFrames_setFrames, State.pushFrame, State.frames_setTop _ hr', State.setTop_of_frames _ hr', State.setFrames_setFrames, hr]
      rfl
    have hsame : U.sameButNew ({ U with heap := s₂.heap, slotsUsed := s₂.slotsUsed } : State) L mc ms := by
      refine ⟨?_, q2, q3, q4, q5, q6⟩
      obtain ⟨t, ht, -⟩ := State.frames_cons hr
      show ({ U with heap := s₂.heap, slotsUsed := s₂.slotsUsed } : State) = { U.setFrames U.frames with heap := s₂.heap, slotsUsed := s₂.slotsUsed }
      rw [State.setFrames_self ht]
    subst hg
    refine Or.inr ⟨q, ⟨(({ U with heap := s₂.heap, slotsUsed := s₂.slotsUsed } : State).setVm s₂.vm), Ls ++ L, c0 + mc, s0 + ms⟩,
      ⟨X.admits, X.cas, X.clock, X.frames, X.room, X.hears, X.method, X.code, (X.here.setHeapUsed s₂.heap s₂.slotsUsed).setVm hW'.alike, X.tail, State.WarmedH.trans X.warmed hW', X.limits, X.bytes, X.same.trans (hsame.setVm s.vm)⟩,
      ⟨g, mk, s₂, L, E, ce, rfl, rfl, hx, hce, hcv, hcl, rfl, hL, rfl, rfl⟩, ?_⟩
    show Steps p.tables e below _ (((({ U with heap := s₂.heap, slotsUsed := s₂.slotsUsed } : State).setVm s₂.vm).setTop g).pushFrame (.throwing q))
    rw [← hs₂]
    exact hsteps
end Payer
section Calls
variable {p : Program} {l : Launch} {e : Env} {R : Room} {s : State} {m : MethodId} {args : Array Value} {below : List Frame} {meth : Method} {c : Code} {T : State} {locs : List Loc} {cells slots : Nat}
theorem vx_callV (X : Stand p l e R s m args below meth c T locs cells slots) (hexec : p.tables.exec = Jvm.exec) {own C : String} {index : Nat} {y : MethodName} {bytes : ByteArray} {maxL : Nat} {ret : Option FieldType}
    (hown : s.vm.findClass own = some m.cls) (hlink : (Cond.methodLink own index y).before args s = true) (hinst : (Cond.instanceMethod y).before args s = true) (hsel : (Cond.selects C y y).before args s = true)
    (hcode : (Cond.code y bytes maxL ret).before args s = true) (hy : y.cls ≠ "java/lang/invoke/MethodHandle" ∧ y.cls ≠ "java/lang/invoke/VarHandle")
    {W9 : Nat} {Pre : Pt → Array Value → Prop} {Post : Pt → Array Value → Option Value → Pt → Prop} {PostX : Pt → Array Value → Addr → Pt → Prop} (hK : vx_Back l R p e below s args y 3 W9 Pre Post PostX)
    {b : Addr} {cellB : Cell} (hcell : T.heap[b]? = some cellB) (hobj : cellB.vm.isStatics = false) (hcls : s.vm.findClass C = some cellB.cls)
    {g : JFrame} (hg : g.method = m) (hsize : g.locals.size = c.maxLocals) {argsL rest : List Value} (hlen : ∀ sig, parseMethodDescriptor y.desc = some sig → argsL.length = sig.parameters.length)
    (hstack : g.stack = argsL.reverse ++ .ref b :: rest) (hW : 2 * g.monitorRoom + (rest.map fun v => v.category).sum ≤ W9) (hdg : decode c.code g.pc = .ok (.invokevirtual index, 3))
    (hpre : ∀ vm₁, s.WarmedH vm₁ → Pre ⟨T.setVm vm₁, locs, cells, slots⟩ (Value.ref b :: argsL).toArray) :
    (∃ (v : Option Value) (vm₁ : Vm) (B : Pt), s.WarmedH vm₁ ∧ Stand p l e R s m args below meth c B.U B.locs B.cells B.slots ∧ Post ⟨T.setVm vm₁, locs, cells, slots⟩ (Value.ref b :: argsL).toArray v B ∧
      ∀ target, Steps p.tables e below (B.U.setTop { g with pc := g.pc + 3, stack := v.toList ++ rest }) target → Steps p.tables e below (T.setTop g) target) ∨
    (∃ (q : Addr) (vm₁ : Vm) (B : Pt), s.WarmedH vm₁ ∧ Stand p l e R s m args below meth c B.U B.locs B.cells B.slots ∧ PostX ⟨T.setVm vm₁, locs, cells, slots⟩ (Value.ref b :: argsL).toArray q B ∧
      Steps p.tables e below (T.setTop g) ((B.U.setTop { g with stack := rest }).pushFrame (.throwing q))) := by
  obtain ⟨mk, methM, hnamed, hmethM, hstM, habM⟩ := Cond.instanceMethod_spec hinst
  obtain ⟨methM', cM, hmethM', -, -, -, -, -, -, hsigM⟩ := Cond.code_spec hnamed hcode
  cases hmethM.symm.trans hmethM'
  obtain ⟨c2, r2, m2, q1, q2, q3, q4, kP, hkP, hkPi⟩ := Cond.selects_spec hsel
  cases hcls.symm.trans q1
  cases (State.methodFound?_of_named hnamed hy).symm.trans q2
  cases hnamed.symm.trans q3
  have hselP : selectMethod e.platform s.vm cellB.cls mk = .method mk := by rw [Launch.admits_selectMethod X.admits]; exact q4
  obtain ⟨vm₁, X₁, hstep₁⟩ := X.invokevirtual hexec hown hlink hnamed hmethM hstM hkP hkPi hy (a := b) (cell := cellB) hcell
    (fun z h => by rw [h] at hobj; cases hobj) hselP hmethM habM hkP hkPi (g := g) hg (argsL := argsL) (rest := rest) (hlen _ hsigM) hstack hdg
  rcases hK m meth c ⟨T.setVm vm₁, locs, cells, slots⟩ { g with stack := rest } (.invokevirtual index) mk (Value.ref b :: argsL).toArray X₁ hg hsize hdg hW (X₁.named hnamed) (hpre vm₁ X₁.warmed) with ⟨v, B, X', hpost, hsteps⟩ | ⟨q, B, X', hpost, hsteps⟩
  · exact Or.inl ⟨v, vm₁, B, X₁.warmed, X', hpost, fun target h => hstep₁ _ fun acts => by rw [doInvoke_state]; exact hsteps.trans h⟩
  · exact Or.inr ⟨q, vm₁, B, X₁.warmed, X', hpost, hstep₁ _ fun acts => by rw [doInvoke_state]; exact hsteps⟩
theorem vx_callS (X : Stand p l e R s m args below meth c T locs cells slots) (hexec : p.tables.exec = Jvm.exec) {own : String} {index : Nat} {y : MethodName} {bytes : ByteArray} {maxL : Nat} {ret : Option FieldType}
    (hown : s.vm.findClass own = some m.cls) (hlink : (Cond.methodLink own index y).before args s = true) (hstat : (Cond.static y).before args s = true) (hinit : (Cond.initialized y.cls).before args s = true)
    (hcode : (Cond.code y bytes maxL ret).before args s = true) (hy : y.cls ≠ "java/lang/invoke/MethodHandle" ∧ y.cls ≠ "java/lang/invoke/VarHandle")
    {W9 : Nat} {Pre : Pt → Array Value → Prop} {Post : Pt → Array Value → Option Value → Pt → Prop} {PostX : Pt → Array Value → Addr → Pt → Prop} (hK : vx_Back l R p e below s args y 3 W9 Pre Post PostX)
    {g : JFrame} (hg : g.method = m) (hsize : g.locals.size = c.maxLocals) {argsL rest : List Value} (hlen : ∀ sig, parseMethodDescriptor y.desc = some sig → argsL.length = sig.parameters.length)
    (hstack : g.stack = argsL.reverse ++ rest) (hW : 2 * g.monitorRoom + (rest.map fun v => v.category).sum ≤ W9) (hdg : decode c.code g.pc = .ok (.invokestatic index, 3))
    (hpre : ∀ vm₁, s.WarmedH vm₁ → Pre ⟨T.setVm vm₁, locs, cells, slots⟩ argsL.toArray) :
    (∃ (v : Option Value) (vm₁ : Vm) (B : Pt), s.WarmedH vm₁ ∧ Stand p l e R s m args below meth c B.U B.locs B.cells B.slots ∧ Post ⟨T.setVm vm₁, locs, cells, slots⟩ argsL.toArray v B ∧
      ∀ target, Steps p.tables e below (B.U.setTop { g with pc := g.pc + 3, stack := v.toList ++ rest }) target → Steps p.tables e below (T.setTop g) target) ∨
    (∃ (q : Addr) (vm₁ : Vm) (B : Pt), s.WarmedH vm₁ ∧ Stand p l e R s m args below meth c B.U B.locs B.cells B.slots ∧ PostX ⟨T.setVm vm₁, locs, cells, slots⟩ argsL.toArray q B ∧
      Steps p.tables e below (T.setTop g) ((B.U.setTop { g with stack := rest }).pushFrame (.throwing q))) := by
  obtain ⟨mk, hnamed⟩ := Cond.code_named hcode
  obtain ⟨methM, cM, hmethM, -, -, -, -, -, -, hsigM⟩ := Cond.code_spec hnamed hcode
  have hstatic : methM.isStatic = true := Cond.static_spec hnamed hmethM hstat
  obtain ⟨kP, hkP, -⟩ := className_of_methodNamed hnamed
  have hinitP : kP.init = .initialized := Cond.initialized_spec (findClass_of_methodNamed hnamed) hkP hinit
  obtain ⟨vm₁, X₁, hstep₁⟩ := X.invokestatic hexec hown hlink hnamed hmethM hstatic hkP hinitP hy (g := g) hg (argsL := argsL) (rest := rest) (hlen _ hsigM) hstack hdg
  rcases hK m meth c ⟨T.setVm vm₁, locs, cells, slots⟩ { g with stack := rest } (.invokestatic index) mk argsL.toArray X₁ hg hsize hdg hW (X₁.named hnamed) (hpre vm₁ X₁.warmed) with ⟨v, B, X', hpost, hsteps⟩ | ⟨q, B, X', hpost, hsteps⟩
  · exact Or.inl ⟨v, vm₁, B, X₁.warmed, X', hpost, fun target h => hstep₁ _ fun acts => by rw [doInvoke_state]; exact hsteps.trans h⟩
  · exact Or.inr ⟨q, vm₁, B, X₁.warmed, X', hpost, hstep₁ _ fun acts => by rw [doInvoke_state]; exact hsteps⟩
end Calls
theorem vx_cls {s : State} {T : State} {vm₁ : Vm} {E : String} {k : ClassId} (hW : s.WarmedH vm₁) (h : (T.setVm vm₁).vm.findClass E = some k) : s.vm.findClass E = some k := by
  have h1 : vm₁.findClass E = some k := h
  rw [hW.alike.findClass] at h1
  exact h1
/-- the method's frame g, with q thrown over it -/
def vx_W (p : Program) (l : Launch) (e : Env) (R : Room) (s : State) (m : MethodId) (args : Array Value) (below : List Frame) (meth : Method) (c : Code) (H : Heap) (locs : List Loc) (cells slots : Nat) (Q : State → Prop) (g : JFrame) (q : Addr) : Prop :=
  ∀ T : State, T.heap = H → Stand p l e R s m args below meth c T locs cells slots → ∃ t, Steps p.tables e below ((T.setTop g).pushFrame (.throwing q)) t ∧ Q t
def vx_Run (p : Program) (l : Launch) (e : Env) (R : Room) (s : State) (m : MethodId) (args : Array Value) (below : List Frame) (meth : Method) (c : Code) (H : Heap) (locs : List Loc) (cells slots mc ms : Nat) (g : JFrame) (rest : List Value) (Qa : State → Outcome → State → Prop) (XC : String → State → State → Prop) (free : Addr → Prop) : Prop :=
  ∀ T : State, T.heap = H → Stand p l e R s m args below meth c T locs cells slots →
    (∃ (v : Option Value) (st₀ t T' : State) (L : List Loc), st₀.heap = H ∧ Stand p l e R s m args below meth c T' (locs ++ L) (cells + mc) (slots + ms) ∧ (∀ q ∈ L, free q.base) ∧ T'.heap = t.heap ∧ T'.vm = t.vm ∧ Qa st₀ (.returned v) t ∧
      Goes p e below T g T' { g with pc := g.pc + 3, stack := v.toList ++ rest }) ∨
    (∃ (q : Addr) (st₀ t T' : State) (L : List Loc) (E : String) (ce : Cell), st₀.heap = H ∧ Stand p l e R s m args below meth c T' (locs ++ L) (cells + mc) (slots + ms) ∧ (∀ z ∈ L, free z.base) ∧ T'.heap = t.heap ∧ T'.vm = t.vm ∧ XC E st₀ t ∧ t.heap[q]? = some ce ∧ ce.vm = .none ∧ s.vm.findClass E = some ce.cls ∧
      Steps p.tables e below (T.setTop g) ((T'.setTop { g with stack := rest }).pushFrame (.throwing q)))
def vx_X {S : Type} (px : S → Prop) (B : String → S → State → Prop) (A : Nat → Prop) : String → State → State → Prop := fun E st t => ∃ u : S, px u ∧ B E u t ∧ va_F A st t
section Runs
variable {p : Program} {l : Launch} {e : Env} {R : Room} {s : State} {m : MethodId} {args : Array Value} {below : List Frame} {meth : Method} {c : Code} {H : Heap} {locs : List Loc} {cells slots : Nat}
variable {y : MethodName} {bytes cc : ByteArray} {maxL nL mc ms n index : Nat} {ret : Option FieldType} {ws : List Cond} {rm : Room} {Pc : Array Value → State → Prop} {Qc : Array Value → State → Outcome → State → Prop} {XC : String → State → State → Prop} {free : Addr → Prop} {Ts : List Cond} {own C : String} {b : Addr} {As rest : List Value} {g : JFrame}
theorem vx_callBack (cb : CallB R s args own index y bytes maxL ret ws rm mc ms n) (hM : vx_Met l y ws rm Pc Qc XC mc ms free) (hbl : FrameBlind Pc) : vx_Back l R p e below s args y 3 8 (PreOf R mc ms Pc) (PostOf Qc mc ms free) (vx_Post XC mc ms free) := by
  obtain ⟨hrc, hrs, hfr, hlo, hws, hcw, -, hini, -⟩ := cb
  exact vx_back (bytes := bytes) (maxL := maxL) (ret := ret) hM hbl hrc hrs hfr hlo hws hcw (fun a' U hW => word_at hW (Or.inl (by first | rfl | simp [Cond.onTables, Cond.keeps, Cond.steady])) hini)
theorem vx_runV (S : CallFix p m c cc nL s args Ts own) (hM : vx_Met l y ws rm Pc Qc XC mc ms free) (cw : CallW R s args own C index y bytes maxL ret ws rm mc ms n) (hp : PreV s H C b Pc As)
    (hg : g.method = m) (hn : As.length = n) (hsize : g.locals.size = nL) (hstack : g.stack = As.reverse ++ .ref b :: rest) (hW : 2 * g.monitorRoom + (rest.map fun v => v.category).sum ≤ 8) (hdg : decode cc g.pc = .ok (.invokevirtual index, 3)) (hf : cells + mc ≤ R.cells ∧ slots + ms ≤ R.slots) :
    vx_Run p l e R s m args below meth c H locs cells slots mc ms g rest (Qc (Value.ref b :: As).toArray) XC free := by
  have hK : vx_Back l R p e below s args y 3 8 (PreOf R mc ms Pc) (PostOf Qc mc ms free) (vx_Post XC mc ms free) := vx_callBack cw.1 hM hp.1
  obtain ⟨⟨-, -, -, -, -, -, hcode, -, hy, hlen, hl⟩, hin, hse⟩ := cw
  obtain ⟨hx, hb, hml, ho, -⟩ := S
  obtain ⟨-, ⟨cellB, hcB, hoB, hclB⟩, hPc⟩ := hp
  intro T hT X
  rcases vx_callV X hx (C := C) (bytes := bytes) (maxL := maxL) (ret := ret) ho hl hin hse hcode hy hK (by rw [hT]; exact hcB) hoB hclB hg (hsize.trans hml.symm) (argsL := As) (rest := rest) (fun sig h => hn.trans (hlen sig h)) hstack hW (by rw [hb]; exact hdg)
    (fun vm₁ hW₁ => ⟨hf.1, hf.2, hPc (T.setVm vm₁) hT hW₁⟩) with ⟨v, vm₁, ⟨U', l2, c2, s2⟩, hW₁, X', ⟨g', mk, t, L, e1, e2, hq, h1, hL, h2, h3⟩, st⟩ | ⟨q, vm₁, ⟨U', l2, c2, s2⟩, hW₁, X', ⟨g', mk, t, L, E, ce, e1, e2, hq, hce, hcv, hcl, h1, hL, h2, h3⟩, st⟩
  · dsimp only [Pt.U, Pt.locs, Pt.cells, Pt.slots] at X' e1 e2 h1 h2 h3 st
    subst h1; subst h2; subst h3
    exact Or.inl ⟨v, (T.setVm vm₁).calling g' mk (Value.ref b :: As).toArray, t, U', L, hT, X', hL, e1, e2, hq, st⟩
  · dsimp only [Pt.U, Pt.locs, Pt.cells, Pt.slots] at X' e1 e2 h1 h2 h3 st hcl
    subst h1; subst h2; subst h3
    exact Or.inr ⟨q, (T.setVm vm₁).calling g' mk (Value.ref b :: As).toArray, t, U', L, E, ce, hT, X', hL, e1, e2, hq, hce, hcv, vx_cls hW₁ hcl, st⟩
theorem vx_runS (S : CallFix p m c cc nL s args Ts own) (hM : vx_Met l y ws rm Pc Qc XC mc ms free) (cw : CallB R s args own index y bytes maxL ret ws rm mc ms n ∧ (Cond.static y).before args s = true) (hp : PreS s H Pc As)
    (hg : g.method = m) (hn : As.length = n) (hsize : g.locals.size = nL) (hstack : g.stack = As.reverse ++ rest) (hW : 2 * g.monitorRoom + (rest.map fun v => v.category).sum ≤ 8) (hdg : decode cc g.pc = .ok (.invokestatic index, 3)) (hf : cells + mc ≤ R.cells ∧ slots + ms ≤ R.slots) :
    vx_Run p l e R s m args below meth c H locs cells slots mc ms g rest (Qc As.toArray) XC free := by
  have hK : vx_Back l R p e below s args y 3 8 (PreOf R mc ms Pc) (PostOf Qc mc ms free) (vx_Post XC mc ms free) := vx_callBack cw.1 hM hp.1
  obtain ⟨⟨-, -, -, -, -, -, hcode, hini, hy, hlen, hl⟩, hstt⟩ := cw
  obtain ⟨hx, hb, hml, ho, -⟩ := S
  intro T hT X
  rcases vx_callS X hx (bytes := bytes) (maxL := maxL) (ret := ret) ho hl hstt hini hcode hy hK hg (hsize.trans hml.symm) (argsL := As) (rest := rest) (fun sig h => hn.trans (hlen sig h)) hstack hW (by rw [hb]; exact hdg)
    (fun vm₁ hW₁ => ⟨hf.1, hf.2, hp.2 (T.setVm vm₁) hT hW₁⟩) with ⟨v, vm₁, ⟨U', l2, c2, s2⟩, hW₁, X', ⟨g', mk, t, L, e1, e2, hq, h1, hL, h2, h3⟩, st⟩ | ⟨q, vm₁, ⟨U', l2, c2, s2⟩, hW₁, X', ⟨g', mk, t, L, E, ce, e1, e2, hq, hce, hcv, hcl, h1, hL, h2, h3⟩, st⟩
  · dsimp only [Pt.U, Pt.locs, Pt.cells, Pt.slots] at X' e1 e2 h1 h2 h3 st
    subst h1; subst h2; subst h3
    exact Or.inl ⟨v, (T.setVm vm₁).calling g' mk As.toArray, t, U', L, hT, X', hL, e1, e2, hq, st⟩
  · dsimp only [Pt.U, Pt.locs, Pt.cells, Pt.slots] at X' e1 e2 h1 h2 h3 st hcl
    subst h1; subst h2; subst h3
    exact Or.inr ⟨q, (T.setVm vm₁).calling g' mk As.toArray, t, U', L, E, ce, hT, X', hL, e1, e2, hq, hce, hcv, vx_cls hW₁ hcl, st⟩
end Runs
section Rows
variable {p : Program} {l : Launch} {e : Env} {R : Room} {s : State} {m : MethodId} {args : Array Value} {below : List Frame} {meth : Method} {c : Code} {H : Heap} {locs : List Loc} {cells slots : Nat} {Q : State → Prop}
variable {mc ms : Nat} {free : Addr → Prop} {A0 A1 : Nat → Prop} {H0 : Heap} {a : Array Value} {pc : Nat} {ls : Array Slot} {st0 rest : List Value}
theorem vx_keep {st₀ t T' : State} {L : List Loc} (h0 : st₀.heap = H) (e1 : T'.heap = t.heap) (hS : va_S A0 H0 H locs) (hA : ∀ q, q < H.size → A1 q → A0 q) (hf : ∀ q, free q → A0 q) (hL : ∀ q ∈ L, free q.base) (hF : va_F A1 st₀ t) :
    H.size ≤ T'.heap.size ∧ (∀ q : Nat, q < H.size → ¬ A1 q → T'.heap[q]? = H[q]?) ∧ va_S A0 H0 T'.heap (locs ++ L) := by
  obtain ⟨hz, hk⟩ := hF
  rw [h0] at hz hk
  exact ⟨by rw [e1]; exact hz, fun q h1 h2 => by rw [e1]; exact hk q h1 h2,
    ⟨Nat.le_trans hS.1 (by rw [e1]; exact hz), fun q h1 h2 => by rw [e1, hk q (Nat.lt_of_lt_of_le h1 hS.1) (fun z => h2 (hA q (Nat.lt_of_lt_of_le h1 hS.1) z))]; exact hS.2.1 q h1 h2, fun q hq => by
      rcases List.mem_append.mp hq with h | h
      · exact hS.2.2 q h
      · exact hf _ (hL q h)⟩⟩
theorem vx_calli {S SX : Type} {post : Int32 → S → Prop} {px : SX → Prop} {B : S → State → Prop} {BX : String → SX → State → Prop} {AX : Nat → Prop} (hr : vx_Run p l e R s m args below meth c H locs cells slots mc ms (F0 m pc ls st0) rest (va_Qi post B A1 a) (vx_X px BX AX) free) (hS : va_S A0 H0 H locs) (hA : ∀ q, q < H.size → A1 q → A0 q) (hf : ∀ q, free q → A0 q) (hAX : ∀ q, q < H.size → AX q → A0 q)
    (kx : ∀ (E : String) (ce : Cell) (q9 : Addr) (u : SX) (t : State) (H1 : Heap) (locs1 : List Loc), t.heap = H1 → s.vm.Alike t.vm → px u → BX E u t → H.size ≤ H1.size → (∀ q : Nat, q < H.size → ¬ AX q → H1[q]? = H[q]?) → va_S A0 H0 H1 locs1 → H1[q9]? = some ce → ce.vm = .none → s.vm.findClass E = some ce.cls → vx_W p l e R s m args below meth c H1 locs1 (cells + mc) (slots + ms) Q (F0 m pc ls rest) q9)
    (kk : ∀ (r : Int32) (u : S) (t : State) (H1 : Heap) (locs1 : List Loc), t.heap = H1 → s.vm.Alike t.vm → post r u → B u t → H.size ≤ H1.size → (∀ q : Nat, q < H.size → ¬ A1 q → H1[q]? = H[q]?) → va_S A0 H0 H1 locs1 → W p l e R s m args below meth c H1 locs1 (cells + mc) (slots + ms) Q (F0 m (pc + 3) ls (.int r :: rest))) : W p l e R s m args below meth c H locs cells slots Q (F0 m pc ls st0) := by
  intro T hT X
  rcases hr T hT X with ⟨v, st₀, t, T', L, h0, X', hL, e1, e2, ⟨⟨r, u, hv, hp, hb⟩, hF⟩, st⟩ | ⟨q, st₀, t, T', L, E, ce, h0, X', hL, e1, e2, ⟨u, hp, hb, hF⟩, hce, hcv, hcl, st⟩
  · cases hv
    obtain ⟨k1, k2, k3⟩ := vx_keep h0 e1 hS hA hf hL hF
    obtain ⟨t2, a1, b1⟩ := kk r u t T'.heap (locs ++ L) e1.symm (by rw [← e2]; exact X'.warmed.alike) hp hb k1 k2 k3 T' rfl X'
    exact ⟨t2, st t2 a1, b1⟩
  · obtain ⟨k1, k2, k3⟩ := vx_keep h0 e1 hS hAX hf hL hF
    obtain ⟨t2, a1, b1⟩ := kx E ce q u t T'.heap (locs ++ L) e1.symm (by rw [← e2]; exact X'.warmed.alike) hp hb k1 k2 k3 (by rw [e1]; exact hce) hcv hcl T' rfl X'
    exact ⟨t2, st.trans a1, b1⟩
theorem vx_calll {S SX : Type} {post : Int64 → S → Prop} {px : SX → Prop} {B : S → State → Prop} {BX : String → SX → State → Prop} {AX : Nat → Prop} (hr : vx_Run p l e R s m args below meth c H locs cells slots mc ms (F0 m pc ls st0) rest (va_Ql post B A1 a) (vx_X px BX AX) free) (hS : va_S A0 H0 H locs) (hA : ∀ q, q < H.size → A1 q → A0 q) (hf : ∀ q, free q → A0 q) (hAX : ∀ q, q < H.size → AX q → A0 q)
    (kx : ∀ (E : String) (ce : Cell) (q9 : Addr) (u : SX) (t : State) (H1 : Heap) (locs1 : List Loc), t.heap = H1 → s.vm.Alike t.vm → px u → BX E u t → H.size ≤ H1.size → (∀ q : Nat, q < H.size → ¬ AX q → H1[q]? = H[q]?) → va_S A0 H0 H1 locs1 → H1[q9]? = some ce → ce.vm = .none → s.vm.findClass E = some ce.cls → vx_W p l e R s m args below meth c H1 locs1 (cells + mc) (slots + ms) Q (F0 m pc ls rest) q9)
    (kk : ∀ (r : Int64) (u : S) (t : State) (H1 : Heap) (locs1 : List Loc), t.heap = H1 → s.vm.Alike t.vm → post r u → B u t → H.size ≤ H1.size → (∀ q : Nat, q < H.size → ¬ A1 q → H1[q]? = H[q]?) → va_S A0 H0 H1 locs1 → W p l e R s m args below meth c H1 locs1 (cells + mc) (slots + ms) Q (F0 m (pc + 3) ls (.long r :: rest))) : W p l e R s m args below meth c H locs cells slots Q (F0 m pc ls st0) := by
  intro T hT X
  rcases hr T hT X with ⟨v, st₀, t, T', L, h0, X', hL, e1, e2, ⟨⟨r, u, hv, hp, hb⟩, hF⟩, st⟩ | ⟨q, st₀, t, T', L, E, ce, h0, X', hL, e1, e2, ⟨u, hp, hb, hF⟩, hce, hcv, hcl, st⟩
  · cases hv
    obtain ⟨k1, k2, k3⟩ := vx_keep h0 e1 hS hA hf hL hF
    obtain ⟨t2, a1, b1⟩ := kk r u t T'.heap (locs ++ L) e1.symm (by rw [← e2]; exact X'.warmed.alike) hp hb k1 k2 k3 T' rfl X'
    exact ⟨t2, st t2 a1, b1⟩
  · obtain ⟨k1, k2, k3⟩ := vx_keep h0 e1 hS hAX hf hL hF
    obtain ⟨t2, a1, b1⟩ := kx E ce q u t T'.heap (locs ++ L) e1.symm (by rw [← e2]; exact X'.warmed.alike) hp hb k1 k2 k3 (by rw [e1]; exact hce) hcv hcl T' rfl X'
    exact ⟨t2, st.trans a1, b1⟩
theorem vx_callf {S SX : Type} {post : UInt32 → S → Prop} {px : SX → Prop} {B : S → State → Prop} {BX : String → SX → State → Prop} {AX : Nat → Prop} (hr : vx_Run p l e R s m args below meth c H locs cells slots mc ms (F0 m pc ls st0) rest (va_Qf post B A1 a) (vx_X px BX AX) free) (hS : va_S A0 H0 H locs) (hA : ∀ q, q < H.size → A1 q → A0 q) (hf : ∀ q, free q → A0 q) (hAX : ∀ q, q < H.size → AX q → A0 q)
    (kx : ∀ (E : String) (ce : Cell) (q9 : Addr) (u : SX) (t : State) (H1 : Heap) (locs1 : List Loc), t.heap = H1 → s.vm.Alike t.vm → px u → BX E u t → H.size ≤ H1.size → (∀ q : Nat, q < H.size → ¬ AX q → H1[q]? = H[q]?) → va_S A0 H0 H1 locs1 → H1[q9]? = some ce → ce.vm = .none → s.vm.findClass E = some ce.cls → vx_W p l e R s m args below meth c H1 locs1 (cells + mc) (slots + ms) Q (F0 m pc ls rest) q9)
    (kk : ∀ (r : UInt32) (u : S) (t : State) (H1 : Heap) (locs1 : List Loc), t.heap = H1 → s.vm.Alike t.vm → post r u → B u t → H.size ≤ H1.size → (∀ q : Nat, q < H.size → ¬ A1 q → H1[q]? = H[q]?) → va_S A0 H0 H1 locs1 → W p l e R s m args below meth c H1 locs1 (cells + mc) (slots + ms) Q (F0 m (pc + 3) ls (.float r :: rest))) : W p l e R s m args below meth c H locs cells slots Q (F0 m pc ls st0) := by
  intro T hT X
  rcases hr T hT X with ⟨v, st₀, t, T', L, h0, X', hL, e1, e2, ⟨⟨r, u, hv, hp, hb⟩, hF⟩, st⟩ | ⟨q, st₀, t, T', L, E, ce, h0, X', hL, e1, e2, ⟨u, hp, hb, hF⟩, hce, hcv, hcl, st⟩
  · cases hv
    obtain ⟨k1, k2, k3⟩ := vx_keep h0 e1 hS hA hf hL hF
    obtain ⟨t2, a1, b1⟩ := kk r u t T'.heap (locs ++ L) e1.symm (by rw [← e2]; exact X'.warmed.alike) hp hb k1 k2 k3 T' rfl X'
    exact ⟨t2, st t2 a1, b1⟩
  · obtain ⟨k1, k2, k3⟩ := vx_keep h0 e1 hS hAX hf hL hF
    obtain ⟨t2, a1, b1⟩ := kx E ce q u t T'.heap (locs ++ L) e1.symm (by rw [← e2]; exact X'.warmed.alike) hp hb k1 k2 k3 (by rw [e1]; exact hce) hcv hcl T' rfl X'
    exact ⟨t2, st.trans a1, b1⟩
theorem vx_calld {S SX : Type} {post : UInt64 → S → Prop} {px : SX → Prop} {B : S → State → Prop} {BX : String → SX → State → Prop} {AX : Nat → Prop} (hr : vx_Run p l e R s m args below meth c H locs cells slots mc ms (F0 m pc ls st0) rest (va_Qd post B A1 a) (vx_X px BX AX) free) (hS : va_S A0 H0 H locs) (hA : ∀ q, q < H.size → A1 q → A0 q) (hf : ∀ q, free q → A0 q) (hAX : ∀ q, q < H.size → AX q → A0 q)
    (kx : ∀ (E : String) (ce : Cell) (q9 : Addr) (u : SX) (t : State) (H1 : Heap) (locs1 : List Loc), t.heap = H1 → s.vm.Alike t.vm → px u → BX E u t → H.size ≤ H1.size → (∀ q : Nat, q < H.size → ¬ AX q → H1[q]? = H[q]?) → va_S A0 H0 H1 locs1 → H1[q9]? = some ce → ce.vm = .none → s.vm.findClass E = some ce.cls → vx_W p l e R s m args below meth c H1 locs1 (cells + mc) (slots + ms) Q (F0 m pc ls rest) q9)
    (kk : ∀ (r : UInt64) (u : S) (t : State) (H1 : Heap) (locs1 : List Loc), t.heap = H1 → s.vm.Alike t.vm → post r u → B u t → H.size ≤ H1.size → (∀ q : Nat, q < H.size → ¬ A1 q → H1[q]? = H[q]?) → va_S A0 H0 H1 locs1 → W p l e R s m args below meth c H1 locs1 (cells + mc) (slots + ms) Q (F0 m (pc + 3) ls (.double r :: rest))) : W p l e R s m args below meth c H locs cells slots Q (F0 m pc ls st0) := by
  intro T hT X
  rcases hr T hT X with ⟨v, st₀, t, T', L, h0, X', hL, e1, e2, ⟨⟨r, u, hv, hp, hb⟩, hF⟩, st⟩ | ⟨q, st₀, t, T', L, E, ce, h0, X', hL, e1, e2, ⟨u, hp, hb, hF⟩, hce, hcv, hcl, st⟩
  · cases hv
    obtain ⟨k1, k2, k3⟩ := vx_keep h0 e1 hS hA hf hL hF
    obtain ⟨t2, a1, b1⟩ := kk r u t T'.heap (locs ++ L) e1.symm (by rw [← e2]; exact X'.warmed.alike) hp hb k1 k2 k3 T' rfl X'
    exact ⟨t2, st t2 a1, b1⟩
  · obtain ⟨k1, k2, k3⟩ := vx_keep h0 e1 hS hAX hf hL hF
    obtain ⟨t2, a1, b1⟩ := kx E ce q u t T'.heap (locs ++ L) e1.symm (by rw [← e2]; exact X'.warmed.alike) hp hb k1 k2 k3 (by rw [e1]; exact hce) hcv hcl T' rfl X'
    exact ⟨t2, st.trans a1, b1⟩
theorem vx_callv {S SX : Type} {post : S → Prop} {px : SX → Prop} {B : S → State → Prop} {BX : String → SX → State → Prop} {AX : Nat → Prop} (hr : vx_Run p l e R s m args below meth c H locs cells slots mc ms (F0 m pc ls st0) rest (va_Qv post B A1 a) (vx_X px BX AX) free) (hS : va_S A0 H0 H locs) (hA : ∀ q, q < H.size → A1 q → A0 q) (hf : ∀ q, free q → A0 q) (hAX : ∀ q, q < H.size → AX q → A0 q)
    (kx : ∀ (E : String) (ce : Cell) (q9 : Addr) (u : SX) (t : State) (H1 : Heap) (locs1 : List Loc), t.heap = H1 → s.vm.Alike t.vm → px u → BX E u t → H.size ≤ H1.size → (∀ q : Nat, q < H.size → ¬ AX q → H1[q]? = H[q]?) → va_S A0 H0 H1 locs1 → H1[q9]? = some ce → ce.vm = .none → s.vm.findClass E = some ce.cls → vx_W p l e R s m args below meth c H1 locs1 (cells + mc) (slots + ms) Q (F0 m pc ls rest) q9)
    (kk : ∀ (u : S) (t : State) (H1 : Heap) (locs1 : List Loc), t.heap = H1 → s.vm.Alike t.vm → post u → B u t → H.size ≤ H1.size → (∀ q : Nat, q < H.size → ¬ A1 q → H1[q]? = H[q]?) → va_S A0 H0 H1 locs1 → W p l e R s m args below meth c H1 locs1 (cells + mc) (slots + ms) Q (F0 m (pc + 3) ls (rest))) : W p l e R s m args below meth c H locs cells slots Q (F0 m pc ls st0) := by
  intro T hT X
  rcases hr T hT X with ⟨v, st₀, t, T', L, h0, X', hL, e1, e2, ⟨⟨u, hv, hp, hb⟩, hF⟩, st⟩ | ⟨q, st₀, t, T', L, E, ce, h0, X', hL, e1, e2, ⟨u, hp, hb, hF⟩, hce, hcv, hcl, st⟩
  · cases hv
    obtain ⟨k1, k2, k3⟩ := vx_keep h0 e1 hS hA hf hL hF
    obtain ⟨t2, a1, b1⟩ := kk u t T'.heap (locs ++ L) e1.symm (by rw [← e2]; exact X'.warmed.alike) hp hb k1 k2 k3 T' rfl X'
    exact ⟨t2, st t2 a1, b1⟩
  · obtain ⟨k1, k2, k3⟩ := vx_keep h0 e1 hS hAX hf hL hF
    obtain ⟨t2, a1, b1⟩ := kx E ce q u t T'.heap (locs ++ L) e1.symm (by rw [← e2]; exact X'.warmed.alike) hp hb k1 k2 k3 (by rw [e1]; exact hce) hcv hcl T' rfl X'
    exact ⟨t2, st.trans a1, b1⟩
/-- caught by the row x of this method's table; the rows ahead don't take it -/
theorem vx_catch {own name : String} {E : String} {ce : Cell} {q : Addr} (hown : s.vm.findClass own = some m.cls) (pre : List ExceptionTableEntry) (x : ExceptionTableEntry) (suf : List ExceptionTableEntry) (hsplit : c.exceptionTable.toList = pre ++ x :: suf)
    (hpass : ∀ z ∈ pre, covers z pc = false ∨ (z.catchType ≠ 0 ∧ ∃ nm : String, (Cond.classLink own z.catchType nm).before args s = true ∧ va_Nc E nm s)) (hx : covers x pc = true) (h0 : x.catchType ≠ 0)
    (hlink : (Cond.classLink own x.catchType name).before args s = true) (hcast : (Cond.castable E name).before args s = true) (hcell : H[q]? = some ce) (hv : ce.vm = .none) (hcl : s.vm.findClass E = some ce.cls)
    (kk : W p l e R s m args below meth c H locs cells slots Q (F0 m x.handlerPc ls [.ref q])) : vx_W p l e R s m args below meth c H locs cells slots Q (F0 m pc ls rest) q := by
  intro T hT X
  have hpl : e.platform.magicAccessors = ({} : Platform).magicAccessors := by rw [X.admits.platform]
  obtain ⟨c3, c4, hc3, hc4, hasg⟩ := Cond.castable_spec hcast
  cases Option.some.inj (hc3.symm.trans hcl)
  obtain ⟨c5, hc5, hcl5⟩ := Cond.classLink_spec hown hlink e.platform hpl
  cases Option.some.inj (hc4.symm.trans hc5)
  obtain ⟨vm', X', st⟩ := X.thenCaughtThrough q (g := F0 m pc ls rest) rfl (Steps.refl _) (by rw [hT]; exact hcell) (by rw [hv]; rfl) (by obtain ⟨k9, h9, -⟩ := Vm.findClass_spec hcl; exact ⟨k9, h9⟩) pre x suf hsplit
    (fun z hz => by
      rcases hpass z hz with h | ⟨hz0, nm, hl1, hn1⟩
      · exact Or.inl h
      · obtain ⟨c6, hc6, hcl6⟩ := Cond.classLink_spec hown hl1 e.platform hpl
        obtain ⟨a8, b8, h1, h2, h3⟩ := hn1
        cases Option.some.inj (h1.symm.trans hcl)
        cases Option.some.inj (h2.symm.trans hc6)
        exact Or.inr ⟨hz0, _, hcl6, h3⟩) hx (Or.inr ⟨h0, c4, hcl5, hasg⟩)
  obtain ⟨t, a1, b1⟩ := kk (T.setVm vm') hT X'
  exact ⟨t, st.trans a1, b1⟩
end Rows
section Ends
variable {p : Program} {l : Launch} {e : Env} {R : Room} {s : State} {m : MethodId} {args : Array Value} {below : List Frame} {meth : Method} {c : Code} {H : Heap} {locs : List Loc} {cells slots : Nat} {Q : State → Prop}
variable {mc ms : Nat} {free : Addr → Prop} {A0 A1 : Nat → Prop} {H0 : Heap} {a : Array Value} {ls : Array Slot} {st0 rest : List Value}
variable {Qc : Array Value → State → Outcome → State → Prop} {XC : String → State → State → Prop}
/-- what a body that may throw owes at its end -/
def vx_MQ (below : List Frame) (Qc : Array Value → State → Outcome → State → Prop) (XC : String → State → State → Prop) (a : Array Value) (s : State) (mc ms : Nat) (free : Addr → Prop) : State → Prop := fun t =>
  ∃ o, t.status = .running ∧ Ended t below o ∧ vx_Q Qc XC mc ms free a s o t
theorem vx_ret {g : JFrame} {mc ms : Nat} (k : W p l e R s m args below meth c H locs cells slots (MQ below Qc args s mc ms free) g) : W p l e R s m args below meth c H locs cells slots (vx_MQ below Qc XC args s mc ms free) g := by
  intro T hT X
  obtain ⟨t, a1, o, b1, b2, b3, b4⟩ := k T hT X
  exact ⟨t, a1, o, b1, b2, Or.inl ⟨b3, b4⟩⟩
/-- not caught here: it goes on to the caller -/
theorem vx_widen {g : JFrame} {q : Addr} {k n : Nat} (h1 : cells ≤ k) (h2 : slots ≤ n) (kk : vx_W p l e R s m args below meth c H locs k n Q g q) : vx_W p l e R s m args below meth c H locs cells slots Q g q := fun T hT X => kk T hT (stand_widen X h1 h2)
theorem vx_out {pc : Nat} {E : String} {ce : Cell} {q : Addr} {mc ms : Nat} (hout : ∀ x ∈ c.exceptionTable.toList, covers x pc = false) (hlocks : meth.locks = false) (hcell : H[q]? = some ce) (hv : ce.vm = .none) (hcl : s.vm.findClass E = some ce.cls)
    (hx : ∀ t : State, t.heap = H → s.vm.Alike t.vm → XC E s t) (hf : ∀ z ∈ locs, free z.base) (hc : cells ≤ mc) (hs : slots ≤ ms) :
    vx_W p l e R s m args below meth c H locs cells slots (vx_MQ below Qc XC args s mc ms free) (F0 m pc ls rest) q := by
  intro T hT X
  obtain ⟨st1, hrun, hend, hW, hsm⟩ := X.leaveThrown q (g := F0 m pc ls rest) rfl rfl rfl hout hlocks
  have hcell9 : (T.setFrames (.throwing q :: below)).heap[q]? = some ce := by
    show T.heap[q]? = some ce
    rw [hT]; exact hcell
  exact ⟨_, st1, .threw q, hrun, hend, Or.inr ⟨q, rfl, E, ce, locs, hx _ hT hW.alike, hcell9, hv, hcl, hW, hsm.mono hc hs, hf⟩⟩
theorem vx_frame {U : State} {k n : Nat} (h : s.sameButNew ({ U with vm := s.vm } : State) locs k n) : s.heap.size ≤ U.heap.size ∧ ∀ q : Nat, q < s.heap.size → (∀ z ∈ locs, z.base ≠ q) → U.heap[q]? = s.heap[q]? := by
  obtain ⟨-, h2, -, -, -, h6⟩ := h
  refine ⟨h2, fun q hq hz => ?_⟩
  obtain ⟨c9, e1, e2, e3, e4⟩ := h6 q _ (Array.getElem?_eq_getElem hq)
  have hs : c9.slots = (s.heap[q]).slots := Array.ext_getElem? fun i => e4 i fun hm => hz _ hm rfl
  have h9 : c9 = s.heap[q] := by
    rw [hs] at e2
    exact e2
  have e5 : U.heap[q]? = some c9 := e1
  rw [e5, h9, Array.getElem?_eq_getElem hq]
/-- the words of a throw but the four that speak of the heap -/
def vx_no (w : Cond) : Bool := decide (w ≠ .isRef (.static Bundle.tN "UNASSIGNED_STACK" Bundle.steD)) && decide (w ≠ .isRef (.static Bundle.tN "SUPPRESSED_SENTINEL" Bundle.listD)) && decide (w ≠ .laysStatic Bundle.tN "UNASSIGNED_STACK" Bundle.steD) && decide (w ≠ .laysStatic Bundle.tN "SUPPRESSED_SENTINEL" Bundle.listD)
def vx_at0 (own : String) (ic : Nat) (X : String) (names : List String) : List Cond := (Bundle.ownAtoms0 own ic X names).filter vx_no
def vx_atS (own : String) (ic : Nat) (X : String) (names : List String) : List Cond := (Bundle.ownAtoms own ic X names).filter vx_no
/-- a word that the tables alone decide, or a good one -/
def vx_ot (w : Cond) : Bool := w.onTables || goodWord w
theorem vx_ot_at {args a' : Array Value} {s U : State} {w : Cond} (hW : s.WarmedH U.vm) (hvm : s.vm = U.vm) (hg : vx_ot w = true) (h : w.before args s = true) : w.before a' U = true := by
  simp only [vx_ot, Bool.or_eq_true] at hg
  rcases hg with hg | hg
  · exact va_tabs hg hvm h
  · exact word_at hW (good_of_word hg) h
/-- a list's words: the good ones out of the method's own list, the others by premises of their own -/
theorem vx_hat {args : Array Value} {s : State} {L B : List Cond} (h1 : ∀ w ∈ L.filter goodWord, w.before args s = true) (h2 : ∀ w ∈ L.filter (fun w => !goodWord w), w ∈ B) (h3 : ∀ w ∈ B, w.before args s = true) : ∀ w ∈ L, w.before args s = true := by
  intro w hw
  by_cases g : goodWord w = true
  · exact h1 w (List.mem_filter.mpr ⟨hw, g⟩)
  · refine h3 w (h2 w (List.mem_filter.mpr ⟨hw, ?_⟩))
    show (!goodWord w) = true
    cases hgw : goodWord w
    · rfl
    · exact absurd hgw g
theorem vx_c {args : Array Value} {s : State} {w : Cond} {B : List Cond} (h : w.before args s = true) (t : ∀ w ∈ B, w.before args s = true) : ∀ w' ∈ w :: B, w'.before args s = true := fun w' h' => (List.mem_cons.mp h').elim (fun e => by rw [e]; exact h) (t w')
theorem vx_n {args : Array Value} {s : State} : ∀ w ∈ ([] : List Cond), w.before args s = true := fun _ h => nomatch h
theorem vx_own {args : Array Value} {s : State} {L : List Cond} (h1 : ∀ w ∈ L.filter vx_no, w.before args s = true)
    (hU : (Cond.isRef (.static Bundle.tN "UNASSIGNED_STACK" Bundle.steD)).before args s = true) (hN : (Cond.isRef (.static Bundle.tN "SUPPRESSED_SENTINEL" Bundle.listD)).before args s = true)
    (lU : (Cond.laysStatic Bundle.tN "UNASSIGNED_STACK" Bundle.steD).before args s = true) (lN : (Cond.laysStatic Bundle.tN "SUPPRESSED_SENTINEL" Bundle.listD).before args s = true) : ∀ w ∈ L, w.before args s = true := by
  intro w hw
  by_cases e1 : w = .isRef (.static Bundle.tN "UNASSIGNED_STACK" Bundle.steD)
  · rw [e1]; exact hU
  · by_cases e2 : w = .isRef (.static Bundle.tN "SUPPRESSED_SENTINEL" Bundle.listD)
    · rw [e2]; exact hN
    · by_cases e3 : w = .laysStatic Bundle.tN "UNASSIGNED_STACK" Bundle.steD
      · rw [e3]; exact lU
      · by_cases e4 : w = .laysStatic Bundle.tN "SUPPRESSED_SENTINEL" Bundle.listD
        · rw [e4]; exact lN
        · exact h1 w (List.mem_filter.mpr ⟨hw, by unfold vx_no; rw [decide_eq_true e1, decide_eq_true e2, decide_eq_true e3, decide_eq_true e4]; rfl⟩)
/-- where a static field lies, its class's statics cell in H -/
def vx_L (C n d : String) (A : Nat → Prop) (U : State) (H : Heap) : Prop := ∃ (c : ClassId) (k : Class) (i : Nat) (f : Field) (a : Nat) (cell : Cell), U.vm.findClass C = some c ∧ U.fieldFound? C n d = some (c, k, i, f) ∧ f.isStatic = true ∧ k.statics = some a ∧ H[a]? = some cell ∧ cell.vm.isStatics = true ∧ cell.cls = c ∧ f.slot < cell.slots.size ∧ k.staticTypes[f.slot]? = some f.type ∧ ¬ A a
theorem vx_L.moved {C n d : String} {A : Nat → Prop} {u U : State} {H : Heap} (hvm : u.vm.Alike U.vm) (h : vx_L C n d A u H) : vx_L C n d A U H := by
  obtain ⟨c, k, i, f, a, cell, h1, h2, h3, h4, h5, h6, h7, h8, h9, h10⟩ := h
  obtain ⟨k', hi', he⟩ := State.fieldFound?_setVm hvm h2
  exact ⟨c, k', i, f, a, cell, by rw [hvm.findClass]; exact h1, hi', h3, by rw [he]; exact h4, h5, h6, h7, h8, by rw [he]; exact h9, h10⟩
theorem vx_L.kept {C n d : String} {A : Nat → Prop} {U : State} {H H1 : Heap} (h : vx_L C n d A U H) (hq : ∀ a : Nat, a < H.size → ¬ A a → H1[a]? = H[a]?) : vx_L C n d A U H1 := by
  obtain ⟨c, k, i, f, a, cell, h1, h2, h3, h4, h5, h6, h7, h8, h9, h10⟩ := h
  exact ⟨c, k, i, f, a, cell, h1, h2, h3, h4, by rw [hq a (Array.getElem?_eq_some_iff.mp h5).1 h10]; exact h5, h6, h7, h8, h9, h10⟩
theorem vx_L.narrow {C n d : String} {A B : Nat → Prop} {U : State} {H : Heap} (h : vx_L C n d A U H) (hAB : ∀ q, B q → A q) : vx_L C n d B U H := by
  obtain ⟨c, k, i, f, a, cell, h1, h2, h3, h4, h5, h6, h7, h8, h9, h10⟩ := h
  exact ⟨c, k, i, f, a, cell, h1, h2, h3, h4, h5, h6, h7, h8, h9, fun z => h10 (hAB _ z)⟩
theorem vx_L.word {C n d : String} {A : Nat → Prop} {s : State} {args : Array Value} (h : vx_L C n d A s s.heap) : (Cond.laysStatic C n d).before args s = true := by
  obtain ⟨c, k, i, f, a, cell, h1, h2, h3, h4, h5, h6, h7, h8, h9, -⟩ := h
  show (Cond.laysStatic C n d).holds args s none s [] = true
  exact Cond.laysStatic_of h1 h2 h3 h4 h5 h6 h7 h8 h9
/-- .. and what it holds: null or some reference -/
def vx_Zq (C n d : String) (A : Nat → Prop) (U : State) (H : Heap) : Prop := va_Zq C n d A U H ∧ vx_L C n d A U H
theorem vx_Zq.moved {C n d : String} {A : Nat → Prop} {u U : State} {H : Heap} (hvm : u.vm.Alike U.vm) (h : vx_Zq C n d A u H) : vx_Zq C n d A U H := ⟨va_Zq.moved hvm h.1, vx_L.moved hvm h.2⟩
theorem vx_Zq.kept {C n d : String} {A : Nat → Prop} {U : State} {H H1 : Heap} (h : vx_Zq C n d A U H) (hq : ∀ a : Nat, a < H.size → ¬ A a → H1[a]? = H[a]?) : vx_Zq C n d A U H1 := ⟨va_Zq.kept h.1 hq, vx_L.kept h.2 hq⟩
theorem vx_Zq.narrow {C n d : String} {A B : Nat → Prop} {U : State} {H : Heap} (h : vx_Zq C n d A U H) (hAB : ∀ q, B q → A q) : vx_Zq C n d B U H := ⟨va_Zq.narrow h.1 hAB, vx_L.narrow h.2 hAB⟩
theorem vx_Zqof {args : Array Value} {s : State} {C n d : String} {A : Nat → Prop} (hl : (Cond.laysStatic C n d).before args s = true) (hini : (Cond.initialized C).before args s = true) (h : (Cond.isRef (.static C n d)).before args s = true) (hA : ∀ a : Nat, a < s.heap.size → ¬ A a) : vx_Zq C n d A s s.heap := by
  refine ⟨va_Zqof hl hini h hA, ?_⟩
  obtain ⟨c, k, i, f, a, cell, h1, h2, h3, h4, h5, h6, h7, h8, h9⟩ := Cond.laysStatic_spec hl
  exact ⟨c, k, i, f, a, cell, h1, h2, h3, h4, h5, h6, h7, h8, h9, hA a (Array.getElem?_eq_some_iff.mp h5).1⟩
theorem vx_isRef {C n d : String} {v : Value} {A : Nat → Prop} {s : State} {args : Array Value} (h : va_Z C n d v A s s.heap) (hv : v.isRef = true) : (Cond.isRef (.static C n d)).before args s = true := by
  obtain ⟨cf, kf, fi, f, a, cell, h1, h2, h3, h4, h5, h6, h7, -⟩ := h
  have he : (Term.static C n d).eval args s none [] s = some v := by
    simp [Term.eval, State.fieldNamed?, h1, h2, h4, h5, h6, h7]
  simp only [Cond.before, Cond.holds, Cond.value, he]
  cases v <;> simp_all [Value.isRef]
theorem vx_isRefq {C n d : String} {A : Nat → Prop} {s : State} {args : Array Value} (h : va_Zq C n d A s s.heap) : (Cond.isRef (.static C n d)).before args s = true := by
  rcases h with h | ⟨t, h⟩
  · exact vx_isRef h rfl
  · exact vx_isRef h rfl
/-- the same frame, seen from here: as if the method were called anew in this heap -/
theorem vx_rebase {T : State} (X : Stand p l e R s m args below meth c T locs cells slots) {R' : Room} (hf : R'.frames ≤ R.frames) (hl : R'.locals ≤ R.locals) (hc : cells + R'.cells ≤ R.cells) (hs : slots + R'.slots ≤ R.slots) :
    Stand p l e R' ((T.setVm s.vm).setFrames (.invoking m args :: below)) m args below meth c T [] 0 0 := by
  have htop : (T.setVm s.vm).topJava?.isSome := X.here.top
  have hF : ((T.setVm s.vm).setFrames (.invoking m args :: below)).frames = .invoking m args :: below := State.frames_setFrames _ (State.cur_lt_of_top htop)
  obtain ⟨g₀, hg0⟩ := Option.isSome_iff_exists.mp htop
  obtain ⟨r, hr⟩ := State.topJava?_eq_some.mp hg0
  have hl9 : e.platform.stackLimits (T.setVm s.vm).me = e.platform.stackLimits s.me := X.limits
  have hb9 : (T.setVm s.vm).me.stackBytes = s.me.stackBytes := X.bytes
  refine ⟨X.admits, X.cas, X.clock, hF, ?_, X.hears, X.method, X.code, X.here, X.tail, X.warmed, ?_, ?_, ?_⟩
  · have h := X.room
    have hU : ((T.setVm s.vm).setFrames (.invoking m args :: below)).localsInUse = s.localsInUse := by
      rw [State.localsInUse_invoking hF (meth := meth) (c := c) X.method X.code, State.localsInUse_invoking X.frames X.method X.code]
    simp only [State.hasRoom, Bool.and_eq_true, decide_eq_true_eq] at h ⊢
    obtain ⟨⟨⟨⟨h1, h2, h3, h4, h5, h6⟩, h7⟩, h8⟩, h9⟩ := h
    rw [X.frames, List.length_cons] at h2 h3
    have q1 := X.heapSize
    have q2 := X.used
    simp only [hF, hU, List.length_cons, State.stackLimits_setFrames, State.stackBytes_setFrames, hl9, hb9]
    refine ⟨⟨⟨⟨by omega, by omega, by omega, by omega, by omega, h6⟩, ?_⟩, ?_⟩, X.book⟩
    · show T.heap.size + R'.cells ≤ e.platform.maxCells
      omega
    · show T.slotsUsed + R'.slots ≤ e.platform.maxSlots
      omega
  · rw [State.stackLimits_setFrames]; rfl
  · rw [State.stackBytes_setFrames]; rfl
  · refine ⟨?_, Nat.le_refl _, Nat.le_refl _, ?_, ?_, fun a c9 h9 => ⟨c9, h9, rfl, rfl, fun _ _ => rfl⟩⟩
    · obtain ⟨t, ht, -⟩ := State.frames_cons hr
      show T.setVm s.vm = { ((T.setVm s.vm).setFrames (.invoking m args :: below)).setFrames (T.setVm s.vm).frames with heap := T.heap, slotsUsed := T.slotsUsed }
      rw [State.setFrames_setFrames, State.setFrames_self ht]
      rfl
    · show T.slotsUsed = T.slotsUsed + ((T.heap.toList.drop T.heap.size).map (·.slots.size)).sum
      rw [List.drop_eq_nil_of_le (Nat.le_of_eq Array.length_toList)]
      rfl
    · show ((T.heap.toList.drop T.heap.size).map (·.slots.size)).sum ≤ 0
      rw [List.drop_eq_nil_of_le (Nat.le_of_eq Array.length_toList)]
      exact Nat.le_refl _
/-- 'throw new E()': new; dup; invokespecial; athrow -/
theorem vx_throw0 {cc : ByteArray} {pc : Nat} (hexec : p.tables.exec = Jvm.exec) (hb : c.code = cc) (hl : l.stackTraces = false) {own cls : String} {names : List String} {ik ic mc ms : Nat} {A : Nat → Prop}
    (hown : s.vm.findClass own = some m.cls) (hcls : Bundle.fit cls = true) (hnames : ∀ n ∈ names, Bundle.fit n = true)
    (hk : (Cond.classLink own ik cls).before args s = true) (hini : (Cond.initialized cls).before args s = true) (hat : ∀ w ∈ vx_at0 own ic cls names, w.before args s = true)
    (hgood : ∀ w ∈ Cond.classLink own ik cls :: Cond.initialized cls :: vx_at0 own ic cls names, vx_ot w = true)
    (hU : vx_Zq Bundle.tN "UNASSIGNED_STACK" Bundle.steD A s s.heap) (hN : vx_Zq Bundle.tN "SUPPRESSED_SENTINEL" Bundle.listD A s s.heap) (hS : va_S A s.heap H locs) (hsize : ls.size = c.maxLocals)
    (d0 : decode cc pc = .ok (.new ik, 3)) (d3 : decode cc (pc + 3) = .ok (.dup, 1)) (d4 : decode cc (pc + 4) = .ok (.invokespecial ic, 3)) (d7 : decode cc (pc + 7) = .ok (.athrow, 1))
    (hout : ∀ x ∈ c.exceptionTable.toList, covers x (pc + 7) = false)
    (hRframes : names.length + 3 < R.frames) (hRlocals : (rest.map fun v => v.category).sum + (13 * (names.length + 1) + 42) ≤ R.locals) (hRcells : cells + 1 ≤ R.cells) (hRslots : slots + 6 ≤ R.slots) (hlocks : meth.locks = false)
    (hx : ∀ t : State, s.vm.Alike t.vm → H.size ≤ t.heap.size → (∀ q : Nat, q < H.size → t.heap[q]? = H[q]?) → XC cls s t)
    (hf : ∀ z ∈ locs, free z.base) (hc : cells + 1 ≤ mc) (hs : slots + 6 ≤ ms) :
    W p l e R s m args below meth c H locs cells slots (vx_MQ below Qc XC args s mc ms free) (F0 m pc ls rest) := by
  intro T hT X
  have htr : e.platform.stackTraces = false := (show e.platform.stackTraces = l.stackTraces by rw [X.admits.platform]).trans hl
  have Y := vx_rebase X (R' := { frames := R.frames, locals := R.locals, cells := 1, slots := 6 }) (Nat.le_refl _) (Nat.le_refl _) hRcells hRslots
  obtain ⟨s', hA⟩ : ∃ z, z = (T.setVm s.vm).setFrames (.invoking m args :: below) := ⟨_, rfl⟩
  rw [← hA] at Y
  have hvm : s'.vm = s.vm := by rw [hA]; rfl
  have hhp : s'.heap = H := by rw [hA]; exact hT
  have hW0 : s.WarmedH s'.vm := by rw [hvm]; exact State.WarmedH.refl s
  have hat' : ∀ w ∈ vx_at0 own ic cls names, w.before args s' = true := fun w hw => vx_ot_at hW0 hvm.symm (hgood w (List.mem_cons_of_mem _ (List.mem_cons_of_mem _ hw))) (hat w hw)
  have hk' : (Cond.classLink own ik cls).before args s' = true := vx_ot_at hW0 hvm.symm (hgood _ List.mem_cons_self) hk
  have hini' : (Cond.initialized cls).before args s' = true := vx_ot_at hW0 hvm.symm (hgood _ (List.mem_cons_of_mem _ List.mem_cons_self)) hini
  have hU' : vx_Zq Bundle.tN "UNASSIGNED_STACK" Bundle.steD A s' s'.heap := by rw [hhp]; exact vx_Zq.moved hW0.alike (hU.kept hS.2.1)
  have hN' : vx_Zq Bundle.tN "SUPPRESSED_SENTINEL" Bundle.listD A s' s'.heap := by rw [hhp]; exact vx_Zq.moved hW0.alike (hN.kept hS.2.1)
  have h : ∀ w ∈ Bundle.ownAtoms0 own ic cls names, w.before args s' = true := vx_own hat' (vx_isRefq hU'.1) (vx_isRefq hN'.1) hU'.2.word hN'.2.word
  have hown' : s'.vm.findClass own = some m.cls := by rw [hvm]; exact hown
  have hins : (Cond.instantiable cls 6).before args s' = true := h _ (by simp [Bundle.ownAtoms0])
  obtain ⟨vm₁, cX, kX, hfX, hkX, -, -, X₁, st1⟩ := Y.newCold hexec (own := own) (C := cls) (index := ik) (n := 6) hown' hk' hins hini'
    (g := F0 m pc ls rest) rfl (by rw [hb]; exact d0) (Nat.le_refl _) (Nat.le_refl _)
  generalize hT1 : (T.setVm vm₁).pushCell { cls := cX, slots := kX.instanceTypes.map defaultValue, vm := .none } = T1 at X₁ st1
  have hcat : (Value.ref T.heap.size).category = 1 := rfl
  have hcellA : T1.heap[T.heap.size]? = some (freshCell cX kX) := by rw [← hT1]; exact State.heap_pushCell_size _ _
  have d3' : decode c.code (pc + 3) = .ok (.dup, 1) := by rw [hb]; exact d3
  obtain ⟨U, hsteps, hrun, hend, hW, hsame, ce, hce, hO⟩ := X₁.ctorThrow0 hexec htr (own := own) (cls := cls) (names := names) (ic := ic) hown' hcls hnames h (fun x hx => nomatch hx) hfX hkX hcellA (by rw [hhp, hT]; exact Nat.le_refl _)
    (g := { method := m, pc := pc + 4, locals := ls, stack := .ref T.heap.size :: .ref T.heap.size :: rest, locked := none }) rfl hsize rfl rfl (rest := rest) rfl
    (by rw [hb]; exact d4) (by rw [hb]; exact d7) hout hRframes (by simp only [List.map_cons, List.sum_cons, hcat]; omega) hlocks
  obtain ⟨f1, f2⟩ := vx_frame hsame
  rw [hhp] at f1 f2
  have hWs : s.WarmedH U.vm := State.WarmedH.trans hW0 hW
  have hcl : s.vm.findClass cls = some ce.cls := by
    have h9 := hO.cls
    rw [hvm] at h9
    exact h9
  have hall : s.sameButNew ({ U with vm := s.vm } : State) locs mc ms := by
    subst hA
    obtain ⟨e1, e2⟩ := hsame
    rw [State.setFrames_setFrames] at e1
    have h2 : (T.setVm s.vm).sameButNew ({ U with vm := s.vm } : State) [] (0 + 1) (0 + 6) := ⟨e1, e2⟩
    have h3 := X.same.trans h2
    rw [List.append_nil] at h3
    exact h3.mono hc hs
  refine ⟨U, ?_, .threw T.heap.size, hrun, hend, Or.inr ⟨T.heap.size, rfl, cls, ce, locs, hx U hWs.alike f1 (fun q hq => f2 q hq (fun z hz => nomatch hz)), hce, hO.vm, hcl, hWs, hall, hf⟩⟩
  refine st1 _ ?_
  show Steps p.tables e below (T1.setTop { method := m, pc := pc + 3, locals := ls, stack := .ref T.heap.size :: rest, locked := none }) _
  jvm_step X₁.here [X₁.here.top, hexec, d3', Value.category]
  exact hsteps
/-- 'throw new E("text")': new; dup; ldc; invokespecial; athrow -/
theorem vx_throwS {cc : ByteArray} {pc : Nat} (hexec : p.tables.exec = Jvm.exec) (hb : c.code = cc) (hl : l.stackTraces = false) {own cls text : String} {names : List String} {ik is ic mc ms sa : Nat} {A : Nat → Prop}
    (hown : s.vm.findClass own = some m.cls) (hcls : Bundle.fit cls = true) (hnames : ∀ n ∈ names, Bundle.fit n = true)
    (hk : (Cond.classLink own ik cls).before args s = true) (hini : (Cond.initialized cls).before args s = true) (hstr : vk_R own is text sa s) (hat : ∀ w ∈ vx_atS own ic cls names, w.before args s = true)
    (hgood : ∀ w ∈ Cond.classLink own ik cls :: Cond.initialized cls :: vx_atS own ic cls names, vx_ot w = true)
    (hU : vx_Zq Bundle.tN "UNASSIGNED_STACK" Bundle.steD A s s.heap) (hN : vx_Zq Bundle.tN "SUPPRESSED_SENTINEL" Bundle.listD A s s.heap) (hS : va_S A s.heap H locs) (hsize : ls.size = c.maxLocals)
    (d0 : decode cc pc = .ok (.new ik, 3)) (d3 : decode cc (pc + 3) = .ok (.dup, 1)) (d4 : decode cc (pc + 4) = .ok (.ldc is, 2)) (d6 : decode cc (pc + 6) = .ok (.invokespecial ic, 3)) (d9 : decode cc (pc + 9) = .ok (.athrow, 1))
    (hout : ∀ x ∈ c.exceptionTable.toList, covers x (pc + 9) = false)
    (hRframes : names.length + 3 < R.frames) (hRlocals : (rest.map fun v => v.category).sum + (13 * (names.length + 1) + 43) ≤ R.locals) (hRcells : cells + 1 ≤ R.cells) (hRslots : slots + 6 ≤ R.slots) (hlocks : meth.locks = false)
    (hx : ∀ t : State, s.vm.Alike t.vm → H.size ≤ t.heap.size → (∀ q : Nat, q < H.size → t.heap[q]? = H[q]?) → XC cls s t)
    (hf : ∀ z ∈ locs, free z.base) (hc : cells + 1 ≤ mc) (hs : slots + 6 ≤ ms) :
    W p l e R s m args below meth c H locs cells slots (vx_MQ below Qc XC args s mc ms free) (F0 m pc ls rest) := by
  intro T hT X
  have htr : e.platform.stackTraces = false := (show e.platform.stackTraces = l.stackTraces by rw [X.admits.platform]).trans hl
  have Y := vx_rebase X (R' := { frames := R.frames, locals := R.locals, cells := 1, slots := 6 }) (Nat.le_refl _) (Nat.le_refl _) hRcells hRslots
  obtain ⟨s', hA⟩ : ∃ z, z = (T.setVm s.vm).setFrames (.invoking m args :: below) := ⟨_, rfl⟩
  rw [← hA] at Y
  have hvm : s'.vm = s.vm := by rw [hA]; rfl
  have hhp : s'.heap = H := by rw [hA]; exact hT
  have hW0 : s.WarmedH s'.vm := by rw [hvm]; exact State.WarmedH.refl s
  have hat' : ∀ w ∈ vx_atS own ic cls names, w.before args s' = true := fun w hw => vx_ot_at hW0 hvm.symm (hgood w (List.mem_cons_of_mem _ (List.mem_cons_of_mem _ hw))) (hat w hw)
  have hk' : (Cond.classLink own ik cls).before args s' = true := vx_ot_at hW0 hvm.symm (hgood _ List.mem_cons_self) hk
  have hini' : (Cond.initialized cls).before args s' = true := vx_ot_at hW0 hvm.symm (hgood _ (List.mem_cons_of_mem _ List.mem_cons_self)) hini
  have hU' : vx_Zq Bundle.tN "UNASSIGNED_STACK" Bundle.steD A s' s'.heap := by rw [hhp]; exact vx_Zq.moved hW0.alike (hU.kept hS.2.1)
  have hN' : vx_Zq Bundle.tN "SUPPRESSED_SENTINEL" Bundle.listD A s' s'.heap := by rw [hhp]; exact vx_Zq.moved hW0.alike (hN.kept hS.2.1)
  have h : ∀ w ∈ Bundle.ownAtoms own ic cls names, w.before args s' = true := vx_own hat' (vx_isRefq hU'.1) (vx_isRefq hN'.1) hU'.2.word hN'.2.word
  have hown' : s'.vm.findClass own = some m.cls := by rw [hvm]; exact hown
  have hins : (Cond.instantiable cls 6).before args s' = true := h _ (by simp [Bundle.ownAtoms])
  obtain ⟨vm₁, cX, kX, hfX, hkX, -, -, X₁, st1⟩ := Y.newCold hexec (own := own) (C := cls) (index := ik) (n := 6) hown' hk' hins hini'
    (g := F0 m pc ls rest) rfl (by rw [hb]; exact d0) (Nat.le_refl _) (Nat.le_refl _)
  generalize hT1 : (T.setVm vm₁).pushCell { cls := cX, slots := kX.instanceTypes.map defaultValue, vm := .none } = T1 at X₁ st1
  have hcat : (Value.ref T.heap.size).category = 1 := rfl
  have hcellA : T1.heap[T.heap.size]? = some (freshCell cX kX) := by rw [← hT1]; exact State.heap_pushCell_size _ _
  have d3' : decode c.code (pc + 3) = .ok (.dup, 1) := by rw [hb]; exact d3
  have d4' : decode c.code (pc + 4) = .ok (.ldc is, 2) := by rw [hb]; exact d4
  have hstr' : vk_R own is text sa s' := vk_R.warm hW0 hstr
  obtain ⟨U, hsteps, hrun, hend, hW, hsame, ce, hce, hO⟩ := X₁.ctorThrowS hexec htr (own := own) (cls := cls) (names := names) (ic := ic) hown' hcls hnames h (fun x hx => nomatch hx) hfX hkX hcellA (by rw [hhp, hT]; exact Nat.le_refl _) (msg := .ref sa) rfl
    (g := { method := m, pc := pc + 6, locals := ls, stack := .ref sa :: .ref T.heap.size :: .ref T.heap.size :: rest, locked := none }) rfl hsize rfl rfl (rest := rest) rfl
    (by rw [hb]; exact d6) (by rw [hb]; exact d9) hout hRframes (by simp only [List.map_cons, List.sum_cons, hcat]; omega) hlocks
  obtain ⟨f1, f2⟩ := vx_frame hsame
  rw [hhp] at f1 f2
  have hWs : s.WarmedH U.vm := State.WarmedH.trans hW0 hW
  have hcl : s.vm.findClass cls = some ce.cls := by
    have h9 := hO.cls
    rw [hvm] at h9
    exact h9
  have hall : s.sameButNew ({ U with vm := s.vm } : State) locs mc ms := by
    subst hA
    obtain ⟨e1, e2⟩ := hsame
    rw [State.setFrames_setFrames] at e1
    have h2 : (T.setVm s.vm).sameButNew ({ U with vm := s.vm } : State) [] (0 + 1) (0 + 6) := ⟨e1, e2⟩
    have h3 := X.same.trans h2
    rw [List.append_nil] at h3
    exact h3.mono hc hs
  refine ⟨U, ?_, .threw T.heap.size, hrun, hend, Or.inr ⟨T.heap.size, rfl, cls, ce, locs, hx U hWs.alike f1 (fun q hq => f2 q hq (fun z hz => nomatch hz)), hce, hO.vm, hcl, hWs, hall, hf⟩⟩
  refine st1 _ ?_
  show Steps p.tables e below (T1.setTop { method := m, pc := pc + 3, locals := ls, stack := .ref T.heap.size :: rest, locked := none }) _
  jvm_step X₁.here [X₁.here.top, hexec, d3', Value.category]
  exact X₁.ldcString hexec (own := own) (text := text) (index := is) (a := sa) hown' hstr'.1 hstr'.2
    (g := { method := m, pc := pc + 4, locals := ls, stack := .ref T.heap.size :: .ref T.heap.size :: rest, locked := none }) rfl d4' _ hsteps
/-- 'throw new E("text")', the text by a wide index -/
theorem vx_throwSW {cc : ByteArray} {pc : Nat} (hexec : p.tables.exec = Jvm.exec) (hb : c.code = cc) (hl : l.stackTraces = false) {own cls text : String} {names : List String} {ik is ic mc ms sa : Nat} {A : Nat → Prop}
    (hown : s.vm.findClass own = some m.cls) (hcls : Bundle.fit cls = true) (hnames : ∀ n ∈ names, Bundle.fit n = true)
    (hk : (Cond.classLink own ik cls).before args s = true) (hini : (Cond.initialized cls).before args s = true) (hstr : vk_R own is text sa s) (hat : ∀ w ∈ vx_atS own ic cls names, w.before args s = true)
    (hgood : ∀ w ∈ Cond.classLink own ik cls :: Cond.initialized cls :: vx_atS own ic cls names, vx_ot w = true)
    (hU : vx_Zq Bundle.tN "UNASSIGNED_STACK" Bundle.steD A s s.heap) (hN : vx_Zq Bundle.tN "SUPPRESSED_SENTINEL" Bundle.listD A s s.heap) (hS : va_S A s.heap H locs) (hsize : ls.size = c.maxLocals)
    (d0 : decode cc pc = .ok (.new ik, 3)) (d3 : decode cc (pc + 3) = .ok (.dup, 1)) (d4 : decode cc (pc + 4) = .ok (.ldc_w is, 3)) (d7 : decode cc (pc + 7) = .ok (.invokespecial ic, 3)) (d10 : decode cc (pc + 10) = .ok (.athrow, 1))
    (hout : ∀ x ∈ c.exceptionTable.toList, covers x (pc + 10) = false)
    (hRframes : names.length + 3 < R.frames) (hRlocals : (rest.map fun v => v.category).sum + (13 * (names.length + 1) + 43) ≤ R.locals) (hRcells : cells + 1 ≤ R.cells) (hRslots : slots + 6 ≤ R.slots) (hlocks : meth.locks = false)
    (hx : ∀ t : State, s.vm.Alike t.vm → H.size ≤ t.heap.size → (∀ q : Nat, q < H.size → t.heap[q]? = H[q]?) → XC cls s t)
    (hf : ∀ z ∈ locs, free z.base) (hc : cells + 1 ≤ mc) (hs : slots + 6 ≤ ms) :
    W p l e R s m args below meth c H locs cells slots (vx_MQ below Qc XC args s mc ms free) (F0 m pc ls rest) := by
  intro T hT X
  have htr : e.platform.stackTraces = false := (show e.platform.stackTraces = l.stackTraces by rw [X.admits.platform]).trans hl
  have Y := vx_rebase X (R' := { frames := R.frames, locals := R.locals, cells := 1, slots := 6 }) (Nat.le_refl _) (Nat.le_refl _) hRcells hRslots
  obtain ⟨s', hA⟩ : ∃ z, z = (T.setVm s.vm).setFrames (.invoking m args :: below) := ⟨_, rfl⟩
  rw [← hA] at Y
  have hvm : s'.vm = s.vm := by rw [hA]; rfl
  have hhp : s'.heap = H := by rw [hA]; exact hT
  have hW0 : s.WarmedH s'.vm := by rw [hvm]; exact State.WarmedH.refl s
  have hat' : ∀ w ∈ vx_atS own ic cls names, w.before args s' = true := fun w hw => vx_ot_at hW0 hvm.symm (hgood w (List.mem_cons_of_mem _ (List.mem_cons_of_mem _ hw))) (hat w hw)
  have hk' : (Cond.classLink own ik cls).before args s' = true := vx_ot_at hW0 hvm.symm (hgood _ List.mem_cons_self) hk
  have hini' : (Cond.initialized cls).before args s' = true := vx_ot_at hW0 hvm.symm (hgood _ (List.mem_cons_of_mem _ List.mem_cons_self)) hini
  have hU' : vx_Zq Bundle.tN "UNASSIGNED_STACK" Bundle.steD A s' s'.heap := by rw [hhp]; exact vx_Zq.moved hW0.alike (hU.kept hS.2.1)
  have hN' : vx_Zq Bundle.tN "SUPPRESSED_SENTINEL" Bundle.listD A s' s'.heap := by rw [hhp]; exact vx_Zq.moved hW0.alike (hN.kept hS.2.1)
  have h : ∀ w ∈ Bundle.ownAtoms own ic cls names, w.before args s' = true := vx_own hat' (vx_isRefq hU'.1) (vx_isRefq hN'.1) hU'.2.word hN'.2.word
  have hown' : s'.vm.findClass own = some m.cls := by rw [hvm]; exact hown
  have hins : (Cond.instantiable cls 6).before args s' = true := h _ (by simp [Bundle.ownAtoms])
  obtain ⟨vm₁, cX, kX, hfX, hkX, -, -, X₁, st1⟩ := Y.newCold hexec (own := own) (C := cls) (index := ik) (n := 6) hown' hk' hins hini'
    (g := F0 m pc ls rest) rfl (by rw [hb]; exact d0) (Nat.le_refl _) (Nat.le_refl _)
  generalize hT1 : (T.setVm vm₁).pushCell { cls := cX, slots := kX.instanceTypes.map defaultValue, vm := .none } = T1 at X₁ st1
  have hcat : (Value.ref T.heap.size).category = 1 := rfl
  have hcellA : T1.heap[T.heap.size]? = some (freshCell cX kX) := by rw [← hT1]; exact State.heap_pushCell_size _ _
  have d3' : decode c.code (pc + 3) = .ok (.dup, 1) := by rw [hb]; exact d3
  have d4' : decode c.code (pc + 4) = .ok (.ldc_w is, 3) := by rw [hb]; exact d4
  have hstr' : vk_R own is text sa s' := vk_R.warm hW0 hstr
  obtain ⟨U, hsteps, hrun, hend, hW, hsame, ce, hce, hO⟩ := X₁.ctorThrowS hexec htr (own := own) (cls := cls) (names := names) (ic := ic) hown' hcls hnames h (fun x hx => nomatch hx) hfX hkX hcellA (by rw [hhp, hT]; exact Nat.le_refl _) (msg := .ref sa) rfl
    (g := { method := m, pc := pc + 7, locals := ls, stack := .ref sa :: .ref T.heap.size :: .ref T.heap.size :: rest, locked := none }) rfl hsize rfl rfl (rest := rest) rfl
    (by rw [hb]; exact d7) (by rw [hb]; exact d10) hout hRframes (by simp only [List.map_cons, List.sum_cons, hcat]; omega) hlocks
  obtain ⟨f1, f2⟩ := vx_frame hsame
  rw [hhp] at f1 f2
  have hWs : s.WarmedH U.vm := State.WarmedH.trans hW0 hW
  have hcl : s.vm.findClass cls = some ce.cls := by
    have h9 := hO.cls
    rw [hvm] at h9
    exact h9
  have hall : s.sameButNew ({ U with vm := s.vm } : State) locs mc ms := by
    subst hA
    obtain ⟨e1, e2⟩ := hsame
    rw [State.setFrames_setFrames] at e1
    have h2 : (T.setVm s.vm).sameButNew ({ U with vm := s.vm } : State) [] (0 + 1) (0 + 6) := ⟨e1, e2⟩
    have h3 := X.same.trans h2
    rw [List.append_nil] at h3
    exact h3.mono hc hs
  refine ⟨U, ?_, .threw T.heap.size, hrun, hend, Or.inr ⟨T.heap.size, rfl, cls, ce, locs, hx U hWs.alike f1 (fun q hq => f2 q hq (fun z hz => nomatch hz)), hce, hO.vm, hcl, hWs, hall, hf⟩⟩
  refine st1 _ ?_
  show Steps p.tables e below (T1.setTop { method := m, pc := pc + 3, locals := ls, stack := .ref T.heap.size :: rest, locked := none }) _
  jvm_step X₁.here [X₁.here.top, hexec, d3', Value.category]
  exact X₁.ldcStringW hexec (own := own) (text := text) (index := is) (a := sa) hown' hstr'.1 hstr'.2
    (g := { method := m, pc := pc + 4, locals := ls, stack := .ref T.heap.size :: .ref T.heap.size :: rest, locked := none }) rfl d4' _ hsteps
end Ends
section Bodies
variable {l : Launch}
theorem vx_ofW {y : MethodName} {ws ws' : List Cond} {rm : Room} {Pc : Array Value → State → Prop} {Qc : Array Value → State → Outcome → State → Prop} {XC : String → State → State → Prop} {mc ms : Nat} {free : Addr → Prop} {cc : ByteArray} {maxL : Nat} {ret : Option FieldType}
    (hy : plainName y.cls = true) (hw : ws = Cond.code y cc maxL ret :: ws')
    (body : ∀ p e s m args below meth c s₁, BodyLoose p l y (headSpec ws rm) cc maxL ret e s m args below meth c s₁ → c.maxLocals = maxL → (∀ x ∈ c.exceptionTable.toList, False) → Pc args s →
      W p l e (headSpec ws rm).room s m args below meth c s.heap [] 0 0 (vx_MQ below Qc XC args s mc ms free) (entryFrame m args maxL)) : vx_Met l y ws rm Pc Qc XC mc ms free := by
  refine MetFree.of_bodyS (code := cc) (maxLocals := maxL) (ret := ret) hy ?_ ?_
  · intro args s m h hn
    obtain ⟨meth, c, h1, h2, h3, h4, h5, h6, -, -⟩ := Cond.code_spec hn (atoms_spec (ws := ws) h _ (by rw [hw]; exact List.mem_cons_self))
    exact ⟨meth, c, h1, h2, h3, h4, h5, h6⟩
  · intro p e s m args below meth c s₁ B hml hP _
    have hh0 : s₁.heap = s.heap := by rw [B.state]; rfl
    have ht : ∀ x ∈ c.exceptionTable.toList, False := by
      obtain ⟨meth9, c9, h1, h2, -, -, -, -, h7, -⟩ := Cond.code_spec B.named (atoms_spec (ws := ws) B.pre _ (by rw [hw]; exact List.mem_cons_self))
      cases Option.some.inj (h1.symm.trans B.method)
      cases Option.some.inj (h2.symm.trans (Stand.of_body B).code)
      intro x hx
      rw [Array.isEmpty_iff.mp h7] at hx
      cases hx
    obtain ⟨t, a1, o, b1, b2, b3⟩ := body p e s m args below meth c s₁ B hml ht hP s₁ hh0 (Stand.of_body B)
    exact ⟨t, o, a1, b1, b2, b3⟩
/-- the table of a body with handlers -/
theorem vx_table {p : Program} {x y : MethodName} {S : Spec} {cc bytes : ByteArray} {maxL maxL' : Nat} {ret ret' : Option FieldType} {e : Env} {s s₁ : State} {m : MethodId} {args : Array Value} {below : List Frame} {meth : Method} {c : Code} {hh : List (Nat × Nat × Nat × Nat)}
    (B : BodyLoose p l y S cc maxL ret e s m args below meth c s₁) (h : (Cond.codeWith y bytes maxL' ret' hh).before args s = true) : c.exceptionTable.toList = tableOf hh := by
  obtain ⟨m9, meth9, c9, hn9, h1, h2, -, -, h6, -⟩ := Cond.codeWith_spec h
  cases Option.some.inj (hn9.symm.trans B.named)
  cases Option.some.inj (h1.symm.trans B.method)
  cases Option.some.inj (h2.symm.trans (Stand.of_body B).code)
  rw [← h6, table_eq]
end Bodies
end VXA
/-! ===== END ===== -/
/-! ===== BEGIN a static call of a method with an exception table ===== -/
section VXS
variable {p : Program} {l : Launch} {e : Env} {R : Room} {s : State} {m : MethodId} {args : Array Value} {below : List Frame} {meth : Method} {c : Code} {T : State} {H : Heap} {locs : List Loc} {cells slots : Nat}
abbrev vx_CSW (R : Room) (s : State) (args : Array Value) (own : String) (index : Nat) (y : MethodName) (bytes : ByteArray) (maxL : Nat) (ret : Option FieldType) (hh : List (Nat × Nat × Nat × Nat)) (ws : List Cond) (rm : Room) (mc ms n : Nat) : Prop :=
  (rm.cells = mc ∧ rm.slots = ms ∧ rm.frames + 1 ≤ R.frames ∧ 8 + (maxL + 11) + rm.locals ≤ R.locals ∧ (∀ w ∈ ws, ∀ (a' : Array Value) (U : State), s.WarmedH U.vm → w.before a' U = true) ∧ Cond.codeWith y bytes maxL ret hh ∈ ws) ∧
  (Cond.codeWith y bytes maxL ret hh).before args s = true ∧ (Cond.initialized y.cls).before args s = true ∧ (y.cls ≠ "java/lang/invoke/MethodHandle" ∧ y.cls ≠ "java/lang/invoke/VarHandle") ∧
  (∀ sig, parseMethodDescriptor y.desc = some sig → n = sig.parameters.length) ∧ (Cond.methodLink own index y).before args s = true ∧ (Cond.static y).before args s = true
theorem vx_cwSW {own : String} {index maxL mc ms : Nat} {y : MethodName} {bytes : ByteArray} {ret : Option FieldType} {hh : List (Nat × Nat × Nat × Nat)} {Ts ws ws' : List Cond} {rm : Room} (n : Nat) (ht : ∀ w ∈ Ts, w.before args s = true) (hT : GoodIn Ts (va_wsS own index y ws)) (hw : ws = Cond.codeWith y bytes maxL ret hh :: ws') (hrc : rm.cells = mc) (hrs : rm.slots = ms)
    (hd : y.cls ≠ "java/lang/invoke/MethodHandle" ∧ y.cls ≠ "java/lang/invoke/VarHandle" ∧ (parseMethodDescriptor y.desc).map (fun d => d.parameters.length) = some n) (hR : rm.frames + 1 ≤ R.frames ∧ 8 + (maxL + 11) + rm.locals ≤ R.locals) :
    vx_CSW R s args own index y bytes maxL ret hh ws rm mc ms n := by
  have ok : ∀ w ∈ va_wsS own index y ws, w.before args s = true := fun w h => ht w (hT w h).1
  have hG : GoodIn Ts ws := fun w h => hT w (by unfold va_wsS; exact List.mem_append_right _ h)
  have hc : Cond.codeWith y bytes maxL ret hh ∈ ws := by rw [hw]; exact List.mem_cons_self
  refine ⟨⟨hrc, hrs, hR.1, hR.2, pay_in ht hG, hc⟩, ht _ (hG _ hc).1, ok _ (by simp [va_wsS]), ⟨hd.1, hd.2.1⟩, fun sig h => ?_, ok _ (by simp [va_wsS]), ok _ (by simp [va_wsS])⟩
  have h2 := hd.2.2
  rw [h] at h2
  exact (Option.some.inj h2).symm
theorem vx_callSW (X : Stand p l e R s m args below meth c T locs cells slots) (hexec : p.tables.exec = Jvm.exec) {own : String} {index : Nat} {y : MethodName} {bytes : ByteArray} {maxL : Nat} {ret : Option FieldType} {hh : List (Nat × Nat × Nat × Nat)}
    (hown : s.vm.findClass own = some m.cls) (hlink : (Cond.methodLink own index y).before args s = true) (hstat : (Cond.static y).before args s = true) (hinit : (Cond.initialized y.cls).before args s = true)
    (hcode : (Cond.codeWith y bytes maxL ret hh).before args s = true) (hy : y.cls ≠ "java/lang/invoke/MethodHandle" ∧ y.cls ≠ "java/lang/invoke/VarHandle")
    {W9 : Nat} {Pre : Pt → Array Value → Prop} {Post : Pt → Array Value → Option Value → Pt → Prop} (hK : Back l R p e below s args y 3 W9 Pre Post)
    {g : JFrame} (hg : g.method = m) (hsize : g.locals.size = c.maxLocals) {argsL rest : List Value} (hlen : ∀ sig, parseMethodDescriptor y.desc = some sig → argsL.length = sig.parameters.length)
    (hstack : g.stack = argsL.reverse ++ rest) (hW : 2 * g.monitorRoom + (rest.map fun v => v.category).sum ≤ W9) (hdg : decode c.code g.pc = .ok (.invokestatic index, 3))
    (hpre : ∀ vm₁, s.WarmedH vm₁ → Pre ⟨T.setVm vm₁, locs, cells, slots⟩ argsL.toArray) :
    ∃ (v : Option Value) (vm₁ : Vm) (B : Pt), s.WarmedH vm₁ ∧ Stand p l e R s m args below meth c B.U B.locs B.cells B.slots ∧ Post ⟨T.setVm vm₁, locs, cells, slots⟩ argsL.toArray v B ∧
      ∀ target, Steps p.tables e below (B.U.setTop { g with pc := g.pc + 3, stack := v.toList ++ rest }) target → Steps p.tables e below (T.setTop g) target := by
  obtain ⟨mk, methM, cM, hnamed, hmethM, -, -, -, -, -, -, hsigM⟩ := Cond.codeWith_spec hcode
  have hstatic : methM.isStatic = true := Cond.static_spec hnamed hmethM hstat
  obtain ⟨kP, hkP, -⟩ := className_of_methodNamed hnamed
  have hinitP : kP.init = .initialized := Cond.initialized_spec (findClass_of_methodNamed hnamed) hkP hinit
  obtain ⟨vm₁, X₁, hstep₁⟩ := X.invokestatic hexec hown hlink hnamed hmethM hstatic hkP hinitP hy (g := g) hg (argsL := argsL) (rest := rest) (hlen _ hsigM) hstack hdg
  obtain ⟨v, B, X', hpost, hsteps⟩ := hK m meth c ⟨T.setVm vm₁, locs, cells, slots⟩ { g with stack := rest } (.invokestatic index) mk argsL.toArray X₁ hg hsize hdg hW (X₁.named hnamed) (hpre vm₁ X₁.warmed)
  exact ⟨v, vm₁, B, X₁.warmed, X', hpost, fun target h => hstep₁ _ fun acts => by rw [doInvoke_state]; exact hsteps.trans h⟩
theorem vx_runSW {y : MethodName} {bytes cc : ByteArray} {maxL nL mc ms n index : Nat} {ret : Option FieldType} {hh : List (Nat × Nat × Nat × Nat)} {ws : List Cond} {rm : Room} {Pc : Array Value → State → Prop} {Qc : Array Value → State → Outcome → State → Prop} {free : Addr → Prop} {Ts : List Cond} {own : String} {As rest : List Value} {g : JFrame}
    (S : CallFix p m c cc nL s args Ts own) (hM : Met l y ws rm Pc Qc mc ms free) (cw : vx_CSW R s args own index y bytes maxL ret hh ws rm mc ms n) (hp : PreS s H Pc As)
    (hg : g.method = m) (hn : As.length = n) (hsize : g.locals.size = nL) (hstack : g.stack = As.reverse ++ rest) (hW : 2 * g.monitorRoom + (rest.map fun v => v.category).sum ≤ 8) (hdg : decode cc g.pc = .ok (.invokestatic index, 3)) (hf : cells + mc ≤ R.cells ∧ slots + ms ≤ R.slots) :
    va_Run p l e R s m args below meth c H locs cells slots mc ms g rest (Qc As.toArray) (free) := by
  obtain ⟨⟨hrc, hrs, hfr, hlo, hws, hcw⟩, hcode, hini, hy, hlen, hl, hstt⟩ := cw
  have hK : Back l R p e below s args y 3 8 (PreOf R mc ms Pc) (PostOf Qc mc ms free) := va_backW (hh := hh) (bytes := bytes) (maxL := maxL) (ret := ret) hM hp.1 hrc hrs hfr hlo hws hcw (fun a' U hW => word_at hW (Or.inl (by first | rfl | simp [Cond.onTables, Cond.keeps, Cond.steady])) hini)
  obtain ⟨hx, hb, hml, ho, -⟩ := S
  intro T hT X
  obtain ⟨v, vm₁, ⟨U', l2, c2, s2⟩, hW₁, X', ⟨g', mk, t, L, e1, e2, hq, h1, hL, h2, h3⟩, st⟩ := vx_callSW X hx (hh := hh) (bytes := bytes) (maxL := maxL) (ret := ret) ho hl hstt hini hcode hy hK hg (hsize.trans hml.symm) (argsL := As) (rest := rest) (fun sig h => hn.trans (hlen sig h)) hstack hW (by rw [hb]; exact hdg)
    (fun vm₁ hW₁ => ⟨hf.1, hf.2, hp.2 (T.setVm vm₁) hT hW₁⟩)
  dsimp only [Pt.U, Pt.locs, Pt.cells, Pt.slots] at X' e1 e2 h1 h2 h3 st
  subst h1; subst h2; subst h3
  exact ⟨v, (T.setVm vm₁).calling g' mk As.toArray, t, U', L, hT, X', hL, e1, e2, hq, st⟩
/-- not caught here, past rows that name other classes: it goes on to the caller -/
theorem vx_outP {p : Program} {l : Launch} {e : Env} {R : Room} {s : State} {m : MethodId} {args : Array Value} {below : List Frame} {meth : Method} {c : Code} {H : Heap} {locs : List Loc} {cells slots : Nat} {free : Addr → Prop} {ls : Array Slot} {rest : List Value} {Qc : Array Value → State → Outcome → State → Prop} {XC : String → State → State → Prop}
    {pc : Nat} {own E : String} {ce : Cell} {q : Addr} {mc ms : Nat} (hown : s.vm.findClass own = some m.cls) (hlocks : meth.locks = false)
    (hpass : ∀ z ∈ c.exceptionTable.toList, covers z pc = false ∨ (z.catchType ≠ 0 ∧ ∃ nm : String, (Cond.classLink own z.catchType nm).before args s = true ∧ va_Nc E nm s)) (hcell : H[q]? = some ce) (hv : ce.vm = .none) (hcl : s.vm.findClass E = some ce.cls)
    (hx : ∀ t : State, t.heap = H → s.vm.Alike t.vm → XC E s t) (hf : ∀ z ∈ locs, free z.base) (hc : cells ≤ mc) (hs : slots ≤ ms) :
    vx_W p l e R s m args below meth c H locs cells slots (vx_MQ below Qc XC args s mc ms free) (F0 m pc ls rest) q := by
  intro T hT X
  have hpl : e.platform.magicAccessors = ({} : Platform).magicAccessors := by rw [X.admits.platform]
  obtain ⟨vm', hW', X', st⟩ := X.outThrough hlocks q (g := F0 m pc ls rest) rfl rfl rfl (cell := ce) (by rw [hT]; exact hcell) (by rw [hv]; rfl)
    (by obtain ⟨k9, h9, -⟩ := Vm.findClass_spec hcl; exact ⟨k9, h9⟩) (fun z hz => by
      rcases hpass z hz with h | ⟨hz0, nm, hl1, hn1⟩
      · exact Or.inl h
      · obtain ⟨c6, hc6, hcl6⟩ := Cond.classLink_spec hown hl1 e.platform hpl
        obtain ⟨a8, b8, h1, h2, h3⟩ := hn1
        cases Option.some.inj (h1.symm.trans hcl)
        cases Option.some.inj (h2.symm.trans hc6)
        exact Or.inr ⟨hz0, _, hcl6, h3⟩)
  obtain ⟨g₀, hfr⟩ := X'.frames_eq
  have hcell9 : ((T.setVm vm').setFrames (.throwing q :: below)).heap[q]? = some ce := by
    show T.heap[q]? = some ce
    rw [hT]; exact hcell
  have hend : Ended ((T.setVm vm').setFrames (.throwing q :: below)) below (.threw q) := State.frames_setFrames _ (State.cur_lt_of_frames hfr)
  refine ⟨(T.setVm vm').setFrames (.throwing q :: below), ?_, .threw q, X'.here.running, hend, Or.inr ⟨q, rfl, E, ce, locs, hx _ hT (X'.ends _).1.alike, hcell9, hv, hcl, (X'.ends _).1, (X'.ends _).2.mono hc hs, hf⟩⟩
  rw [X.pushThrowing_eq]
  exact st
/-- a thing of a world lies in the heap -/
theorem vx_lt {D : va_G} {cl : List vw_C} {ws : va_W} {H1 : Heap} (h : va_P D cl ws H1) {k : Nat} {q : Nat × va_E} (hk : ws[k]? = some q) : q.1 < H1.size := (h k q hk).lt
end VXS
/-! ===== END ===== -/
/-! ===== BEGIN methods with a table of their own: called by a name, returning or throwing ===== -/
section VXH
/-! vx_backW, vx_callVX, vx_callSX, vx_callVW, vx_runVW, vx_runVX, vx_runSX, vx_ofWH follow the same proofs as their sisters above (Free/Laws.lean, Shelf42/LK1.lean); vx_outP calls Shelf42/NT130.lean (outThrough). -/
section
variable {l : Launch} {R : Room} {p : Program} {e : Env} {below : List Frame} {s : State} {sargs : Array Value} {y : MethodName} {len W9 : Nat}
theorem vx_backW {ws : List Cond} {rm : Room} {Pc : Array Value → State → Prop} {Qc : Array Value → State → Outcome → State → Prop} {XC : String → State → State → Prop} {mc ms : Nat} {free : Addr → Prop} {bytes : ByteArray} {maxL : Nat} {ret : Option FieldType} {hh : List (Nat × Nat × Nat × Nat)}
    (hM : vx_Met l y ws rm Pc Qc XC mc ms free) (hblind : FrameBlind Pc) (hrc : rm.cells = mc) (hrs : rm.slots = ms)
    (hframes : rm.frames + 1 ≤ R.frames) (hlocals : W9 + (maxL + 11) + rm.locals ≤ R.locals)
    (hws : ∀ w ∈ ws, ∀ a' U, s.WarmedH U.vm → w.before a' U = true) (hcode : Cond.codeWith y bytes maxL ret hh ∈ ws) (hinit : ∀ a' U, s.WarmedH U.vm → (Cond.initialized y.cls).before a' U = true) :
    vx_Back l R p e below s sargs y len W9 (PreOf R mc ms Pc) (PostOf Qc mc ms free) (vx_Post XC mc ms free) := by
  intro m meth c A g ig mk a X hg hsize hdg hW hn hp
  have h1 : (headSpec ws rm).pre.before a A.U = true := atoms_intro fun w hw => hws w hw _ _ X.warmed
  have h2 : (Cond.codeWith y bytes maxL ret hh).before a A.U = true := hws _ hcode _ _ X.warmed
  have h3 : (Cond.initialized y.cls).before a A.U = true := hinit _ _ X.warmed
  have h4 : A.cells + (headSpec ws rm).room.cells ≤ R.cells := by rw [show (headSpec ws rm).room.cells = mc from hrc]; exact hp.1
  have h5 : A.slots + (headSpec ws rm).room.slots ≤ R.slots := by rw [show (headSpec ws rm).room.slots = ms from hrs]; exact hp.2.1
  have hPc : Pc a (A.U.calling g mk a) := hblind _ _ _ _ hp.2.2
  obtain ⟨U, Ls, c0, s0⟩ := A
  dsimp only [Pt.U, Pt.locs, Pt.cells, Pt.slots] at h1 h2 h3 h4 h5 X hn hPc ⊢
  obtain ⟨m9, methY, cY, hn9, hmY, hcY, -, hlY, -⟩ := Cond.codeWith_spec h2
  cases Option.some.inj (hn9.symm.trans hn)
  obtain ⟨kY, hkY, -⟩ := className_of_methodNamed hn
  have hinitY : kY.init = .initialized := Cond.initialized_spec (findClass_of_methodNamed hn) hkY h3
  have h : At U g.method c below := by rw [hg]; exact X.here
  have hlocals9 : W9 + (maxL + 11) + (headSpec ws rm).room.locals ≤ R.locals := hlocals
  have happ : (headSpec ws rm).appliesLoose y e.platform (U.calling g mk a) = true :=
    Spec.appliesLoose_calling (g := g) h hdg hn hkY hinitY
      (X.room_calling (g := g) (R' := (headSpec ws rm).room) hsize hmY hcY hframes (by rw [hlY]; omega) h4 h5) h1
  obtain ⟨mid, hmid⟩ := h.above
  have hfr : (U.setTop g).frames = (.java g :: mid) ++ below := by rw [State.frames_setTop' g h.top, hmid]; rfl
  obtain ⟨o, s₂, hsteps, -, hend, hq⟩ := Steps.callFree hM p X.admits X.cas X.clock (acts := []) hfr happ hPc trivial
  have hq' : vx_Q Qc XC mc ms free a (U.calling g mk a) o s₂ := hq
  rw [State.frames_setTop' g h.top] at hend
  obtain ⟨g₀, hg0⟩ := Option.isSome_iff_exists.mp h.top
  obtain ⟨r, hr⟩ := State.topJava?_eq_some.mp hg0
  have hr' : (({ U with heap := s₂.heap, slotsUsed := s₂.slotsUsed } : State).setVm s₂.vm).frames = .java g₀ :: r := hr
  rcases hq' with ⟨hqc, L, hfe, hL⟩ | ⟨q, rfl, E, ce, L, hx, hce, hcv, hcl, hW₂, hsm, hL⟩
  · obtain ⟨⟨v, rfl⟩, hW₂, e2, q2, q3, q4, q5, q6⟩ := id hfe
    have e3 : s₂ = ({ (U.calling g mk a).setFrames s₂.frames with heap := s₂.heap, slotsUsed := s₂.slotsUsed } : State).setVm s₂.vm := by
      have : s₂ = ({ s₂ with vm := (U.calling g mk a).vm } : State).setVm s₂.vm := rfl
      rw [e2] at this
      exact this
    obtain ⟨c₂, i₂, len₂, hc₂, hd₂, hf₂⟩ := hend
    have hW' : U.WarmedH s₂.vm := hW₂
    have hcc : c₂ = c := by
      have h1 : s₂.code? g.method = U.code? g.method := by
        rw [State.code?_eq, State.code?_eq, hW'.alike.method?]
      exact Option.some.inj (hc₂.symm.trans (h1.trans h.code))
    subst hcc
    have hlen : len₂ = len := by rw [hdg] at hd₂; cases hd₂; rfl
    subst hlen
    have hs₂ : s₂ = (({ U with heap := s₂.heap, slotsUsed := s₂.slotsUsed } : State).setVm s₂.vm).setTop { g with pc := g.pc + len₂, stack := v.toList ++ g.stack } := by
      refine e3.trans ?_
      rw [hf₂, State.calling_eq h.top, State.setFrames_setFrames, State.setTop_of_frames _ hr', hr]
      rfl
    have hsame : U.sameButNew ({ U with heap := s₂.heap, slotsUsed := s₂.slotsUsed } : State) L mc ms := by
      refine ⟨?_, q2, q3, q4, q5, q6⟩
      obtain ⟨t, ht, -⟩ := State.frames_cons hr
      show ({ U with heap := s₂.heap, slotsUsed := s₂.slotsUsed } : State) = { U.setFrames U.frames with heap := s₂.heap, slotsUsed := s₂.slotsUsed }
      rw [State.setFrames_self ht]
    subst hg
    refine Or.inl ⟨v, ⟨(({ U with heap := s₂.heap, slotsUsed := s₂.slotsUsed } : State).setVm s₂.vm), Ls ++ L, c0 + mc, s0 + ms⟩,
      ⟨X.admits, X.cas, X.clock, X.frames, X.room, X.hears, X.method, X.code, (X.here.setHeapUsed s₂.heap s₂.slotsUsed).setVm hW'.alike, X.tail, State.WarmedH.trans X.warmed hW', X.limits, X.bytes, X.same.trans (hsame.setVm s.vm)⟩,
      ⟨g, mk, s₂, L, rfl, rfl, hqc, rfl, hL, rfl, rfl⟩, ?_⟩
    show Steps p.tables e below _ ((({ U with heap := s₂.heap, slotsUsed := s₂.slotsUsed } : State).setVm s₂.vm).setTop { g with pc := g.pc + len₂, stack := v.toList ++ g.stack })
    rw [← hs₂]
    exact hsteps
  · obtain ⟨e2, q2, q3, q4, q5, q6⟩ := id hsm
    have e3 : s₂ = ({ (U.calling g mk a).setFrames s₂.frames with heap := s₂.heap, slotsUsed := s₂.slotsUsed } : State).setVm s₂.vm := by
      have : s₂ = ({ s₂ with vm := (U.calling g mk a).vm } : State).setVm s₂.vm := rfl
      rw [e2] at this
      exact this
    have hf₂ : s₂.frames = .throwing q :: .java g :: U.frames.tail := hend
    have hW' : U.WarmedH s₂.vm := hW₂
    have hs₂ : s₂ = ((({ U with heap := s₂.heap, slotsUsed := s₂.slotsUsed } : State).setVm s₂.vm).setTop g).pushFrame (.throwing q) := by
      refine e3.trans ?_
      rw [hf₂, State.calling_eq h.top, State.setFrames_setFrames, State.pushFrame, State.frames_setTop _ hr', State.setTop_of_frames _ hr', State.setFrames_setFrames, hr]
      rfl
    have hsame : U.sameButNew ({ U with heap := s₂.heap, slotsUsed := s₂.slotsUsed } : State) L mc ms := by
      refine ⟨?_, q2, q3, q4, q5, q6⟩
      obtain ⟨t, ht, -⟩ := State.frames_cons hr
      show ({ U with heap := s₂.heap, slotsUsed := s₂.slotsUsed } : State) = { U.setFrames U.frames with heap := s₂.heap, slotsUsed := s₂.slotsUsed }
      rw [State.setFrames_self ht]
    subst hg
    refine Or.inr ⟨q, ⟨(({ U with heap := s₂.heap, slotsUsed := s₂.slotsUsed } : State).setVm s₂.vm), Ls ++ L, c0 + mc, s0 + ms⟩,
      ⟨X.admits, X.cas, X.clock, X.frames, X.room, X.hears, X.method, X.code, (X.here.setHeapUsed s₂.heap s₂.slotsUsed).setVm hW'.alike, X.tail, State.WarmedH.trans X.warmed hW', X.limits, X.bytes, X.same.trans (hsame.setVm s.vm)⟩,
      ⟨g, mk, s₂, L, E, ce, rfl, rfl, hx, hce, hcv, hcl, rfl, hL, rfl, rfl⟩, ?_⟩
    show Steps p.tables e below _ (((({ U with heap := s₂.heap, slotsUsed := s₂.slotsUsed } : State).setVm s₂.vm).setTop g).pushFrame (.throwing q))
    rw [← hs₂]
    exact hsteps
end
variable {p : Program} {l : Launch} {e : Env} {R : Room} {s : State} {m : MethodId} {args : Array Value} {below : List Frame} {meth : Method} {c : Code} {T : State} {H : Heap} {locs : List Loc} {cells slots : Nat}
theorem vx_callVX (X : Stand p l e R s m args below meth c T locs cells slots) (hexec : p.tables.exec = Jvm.exec) {own C : String} {index : Nat} {y : MethodName} {bytes : ByteArray} {maxL : Nat} {ret : Option FieldType} {hh : List (Nat × Nat × Nat × Nat)}
    (hown : s.vm.findClass own = some m.cls) (hlink : (Cond.methodLink own index y).before args s = true) (hinst : (Cond.instanceMethod y).before args s = true) (hsel : (Cond.selects C y y).before args s = true)
    (hcode : (Cond.codeWith y bytes maxL ret hh).before args s = true) (hy : y.cls ≠ "java/lang/invoke/MethodHandle" ∧ y.cls ≠ "java/lang/invoke/VarHandle")
    {W9 : Nat} {Pre : Pt → Array Value → Prop} {Post : Pt → Array Value → Option Value → Pt → Prop} {PostX : Pt → Array Value → Addr → Pt → Prop} (hK : vx_Back l R p e below s args y 3 W9 Pre Post PostX)
    {b : Addr} {cellB : Cell} (hcell : T.heap[b]? = some cellB) (hobj : cellB.vm.isStatics = false) (hcls : s.vm.findClass C = some cellB.cls)
    {g : JFrame} (hg : g.method = m) (hsize : g.locals.size = c.maxLocals) {argsL rest : List Value} (hlen : ∀ sig, parseMethodDescriptor y.desc = some sig → argsL.length = sig.parameters.length)
    (hstack : g.stack = argsL.reverse ++ .ref b :: rest) (hW : 2 * g.monitorRoom + (rest.map fun v => v.category).sum ≤ W9) (hdg : decode c.code g.pc = .ok (.invokevirtual index, 3))
    (hpre : ∀ vm₁, s.WarmedH vm₁ → Pre ⟨T.setVm vm₁, locs, cells, slots⟩ (Value.ref b :: argsL).toArray) :
    (∃ (v : Option Value) (vm₁ : Vm) (B : Pt), s.WarmedH vm₁ ∧ Stand p l e R s m args below meth c B.U B.locs B.cells B.slots ∧ Post ⟨T.setVm vm₁, locs, cells, slots⟩ (Value.ref b :: argsL).toArray v B ∧
      ∀ target, Steps p.tables e below (B.U.setTop { g with pc := g.pc + 3, stack := v.toList ++ rest }) target → Steps p.tables e below (T.setTop g) target) ∨
    (∃ (q : Addr) (vm₁ : Vm) (B : Pt), s.WarmedH vm₁ ∧ Stand p l e R s m args below meth c B.U B.locs B.cells B.slots ∧ PostX ⟨T.setVm vm₁, locs, cells, slots⟩ (Value.ref b :: argsL).toArray q B ∧
      Steps p.tables e below (T.setTop g) ((B.U.setTop { g with stack := rest }).pushFrame (.throwing q))) := by
  obtain ⟨mk, methM, hnamed, hmethM, hstM, habM⟩ := Cond.instanceMethod_spec hinst
  obtain ⟨m8, methM', cM, hn8, hmethM', -, -, -, -, -, -, hsigM⟩ := Cond.codeWith_spec hcode
  cases Option.some.inj (hn8.symm.trans hnamed)
  cases hmethM.symm.trans hmethM'
  obtain ⟨c2, r2, m2, q1, q2, q3, q4, kP, hkP, hkPi⟩ := Cond.selects_spec hsel
  cases hcls.symm.trans q1
  cases (State.methodFound?_of_named hnamed hy).symm.trans q2
  cases hnamed.symm.trans q3
  have hselP : selectMethod e.platform s.vm cellB.cls mk = .method mk := by rw [Launch.admits_selectMethod X.admits]; exact q4
  obtain ⟨vm₁, X₁, hstep₁⟩ := X.invokevirtual hexec hown hlink hnamed hmethM hstM hkP hkPi hy (a := b) (cell := cellB) hcell
    (fun z h => by rw [h] at hobj; cases hobj) hselP hmethM habM hkP hkPi (g := g) hg (argsL := argsL) (rest := rest) (hlen _ hsigM) hstack hdg
  rcases hK m meth c ⟨T.setVm vm₁, locs, cells, slots⟩ { g with stack := rest } (.invokevirtual index) mk (Value.ref b :: argsL).toArray X₁ hg hsize hdg hW (X₁.named hnamed) (hpre vm₁ X₁.warmed) with ⟨v, B, X', hpost, hsteps⟩ | ⟨q, B, X', hpost, hsteps⟩
  · exact Or.inl ⟨v, vm₁, B, X₁.warmed, X', hpost, fun target h => hstep₁ _ fun acts => by rw [doInvoke_state]; exact hsteps.trans h⟩
  · exact Or.inr ⟨q, vm₁, B, X₁.warmed, X', hpost, hstep₁ _ fun acts => by rw [doInvoke_state]; exact hsteps⟩
theorem vx_callSX (X : Stand p l e R s m args below meth c T locs cells slots) (hexec : p.tables.exec = Jvm.exec) {own : String} {index : Nat} {y : MethodName} {bytes : ByteArray} {maxL : Nat} {ret : Option FieldType} {hh : List (Nat × Nat × Nat × Nat)}
    (hown : s.vm.findClass own = some m.cls) (hlink : (Cond.methodLink own index y).before args s = true) (hstat : (Cond.static y).before args s = true) (hinit : (Cond.initialized y.cls).before args s = true)
    (hcode : (Cond.codeWith y bytes maxL ret hh).before args s = true) (hy : y.cls ≠ "java/lang/invoke/MethodHandle" ∧ y.cls ≠ "java/lang/invoke/VarHandle")
    {W9 : Nat} {Pre : Pt → Array Value → Prop} {Post : Pt → Array Value → Option Value → Pt → Prop} {PostX : Pt → Array Value → Addr → Pt → Prop} (hK : vx_Back l R p e below s args y 3 W9 Pre Post PostX)
    {g : JFrame} (hg : g.method = m) (hsize : g.locals.size = c.maxLocals) {argsL rest : List Value} (hlen : ∀ sig, parseMethodDescriptor y.desc = some sig → argsL.length = sig.parameters.length)
    (hstack : g.stack = argsL.reverse ++ rest) (hW : 2 * g.monitorRoom + (rest.map fun v => v.category).sum ≤ W9) (hdg : decode c.code g.pc = .ok (.invokestatic index, 3))
    (hpre : ∀ vm₁, s.WarmedH vm₁ → Pre ⟨T.setVm vm₁, locs, cells, slots⟩ argsL.toArray) :
    (∃ (v : Option Value) (vm₁ : Vm) (B : Pt), s.WarmedH vm₁ ∧ Stand p l e R s m args below meth c B.U B.locs B.cells B.slots ∧ Post ⟨T.setVm vm₁, locs, cells, slots⟩ argsL.toArray v B ∧
      ∀ target, Steps p.tables e below (B.U.setTop { g with pc := g.pc + 3, stack := v.toList ++ rest }) target → Steps p.tables e below (T.setTop g) target) ∨
    (∃ (q : Addr) (vm₁ : Vm) (B : Pt), s.WarmedH vm₁ ∧ Stand p l e R s m args below meth c B.U B.locs B.cells B.slots ∧ PostX ⟨T.setVm vm₁, locs, cells, slots⟩ argsL.toArray q B ∧
      Steps p.tables e below (T.setTop g) ((B.U.setTop { g with stack := rest }).pushFrame (.throwing q))) := by
  obtain ⟨mk, methM, cM, hnamed, hmethM, -, -, -, -, -, -, hsigM⟩ := Cond.codeWith_spec hcode
  have hstatic : methM.isStatic = true := Cond.static_spec hnamed hmethM hstat
  obtain ⟨kP, hkP, -⟩ := className_of_methodNamed hnamed
  have hinitP : kP.init = .initialized := Cond.initialized_spec (findClass_of_methodNamed hnamed) hkP hinit
  obtain ⟨vm₁, X₁, hstep₁⟩ := X.invokestatic hexec hown hlink hnamed hmethM hstatic hkP hinitP hy (g := g) hg (argsL := argsL) (rest := rest) (hlen _ hsigM) hstack hdg
  rcases hK m meth c ⟨T.setVm vm₁, locs, cells, slots⟩ { g with stack := rest } (.invokestatic index) mk argsL.toArray X₁ hg hsize hdg hW (X₁.named hnamed) (hpre vm₁ X₁.warmed) with ⟨v, B, X', hpost, hsteps⟩ | ⟨q, B, X', hpost, hsteps⟩
  · exact Or.inl ⟨v, vm₁, B, X₁.warmed, X', hpost, fun target h => hstep₁ _ fun acts => by rw [doInvoke_state]; exact hsteps.trans h⟩
  · exact Or.inr ⟨q, vm₁, B, X₁.warmed, X', hpost, hstep₁ _ fun acts => by rw [doInvoke_state]; exact hsteps⟩
theorem vx_callVW (X : Stand p l e R s m args below meth c T locs cells slots) (hexec : p.tables.exec = Jvm.exec) {own C : String} {index : Nat} {y : MethodName} {bytes : ByteArray} {maxL : Nat} {ret : Option FieldType} {hh : List (Nat × Nat × Nat × Nat)}
    (hown : s.vm.findClass own = some m.cls) (hlink : (Cond.methodLink own index y).before args s = true) (hinst : (Cond.instanceMethod y).before args s = true) (hsel : (Cond.selects C y y).before args s = true)
    (hcode : (Cond.codeWith y bytes maxL ret hh).before args s = true) (hy : y.cls ≠ "java/lang/invoke/MethodHandle" ∧ y.cls ≠ "java/lang/invoke/VarHandle")
    {W9 : Nat} {Pre : Pt → Array Value → Prop} {Post : Pt → Array Value → Option Value → Pt → Prop} (hK : Back l R p e below s args y 3 W9 Pre Post)
    {b : Addr} {cellB : Cell} (hcell : T.heap[b]? = some cellB) (hobj : cellB.vm.isStatics = false) (hcls : s.vm.findClass C = some cellB.cls)
    {g : JFrame} (hg : g.method = m) (hsize : g.locals.size = c.maxLocals) {argsL rest : List Value} (hlen : ∀ sig, parseMethodDescriptor y.desc = some sig → argsL.length = sig.parameters.length)
    (hstack : g.stack = argsL.reverse ++ .ref b :: rest) (hW : 2 * g.monitorRoom + (rest.map fun v => v.category).sum ≤ W9) (hdg : decode c.code g.pc = .ok (.invokevirtual index, 3))
    (hpre : ∀ vm₁, s.WarmedH vm₁ → Pre ⟨T.setVm vm₁, locs, cells, slots⟩ (Value.ref b :: argsL).toArray) :
    ∃ (v : Option Value) (vm₁ : Vm) (B : Pt), s.WarmedH vm₁ ∧ Stand p l e R s m args below meth c B.U B.locs B.cells B.slots ∧ Post ⟨T.setVm vm₁, locs, cells, slots⟩ (Value.ref b :: argsL).toArray v B ∧
      ∀ target, Steps p.tables e below (B.U.setTop { g with pc := g.pc + 3, stack := v.toList ++ rest }) target → Steps p.tables e below (T.setTop g) target := by
  obtain ⟨mk, methM, hnamed, hmethM, hstM, habM⟩ := Cond.instanceMethod_spec hinst
  obtain ⟨m8, methM', cM, hn8, hmethM', -, -, -, -, -, -, hsigM⟩ := Cond.codeWith_spec hcode
  cases Option.some.inj (hn8.symm.trans hnamed)
  cases hmethM.symm.trans hmethM'
  obtain ⟨c2, r2, m2, q1, q2, q3, q4, kP, hkP, hkPi⟩ := Cond.selects_spec hsel
  cases hcls.symm.trans q1
  cases (State.methodFound?_of_named hnamed hy).symm.trans q2
  cases hnamed.symm.trans q3
  have hselP : selectMethod e.platform s.vm cellB.cls mk = .method mk := by rw [Launch.admits_selectMethod X.admits]; exact q4
  obtain ⟨vm₁, X₁, hstep₁⟩ := X.invokevirtual hexec hown hlink hnamed hmethM hstM hkP hkPi hy (a := b) (cell := cellB) hcell
    (fun z h => by rw [h] at hobj; cases hobj) hselP hmethM habM hkP hkPi (g := g) hg (argsL := argsL) (rest := rest) (hlen _ hsigM) hstack hdg
  obtain ⟨v, B, X', hpost, hsteps⟩ := hK m meth c ⟨T.setVm vm₁, locs, cells, slots⟩ { g with stack := rest } (.invokevirtual index) mk (Value.ref b :: argsL).toArray X₁ hg hsize hdg hW (X₁.named hnamed) (hpre vm₁ X₁.warmed)
  exact ⟨v, vm₁, B, X₁.warmed, X', hpost, fun target h => hstep₁ _ fun acts => by rw [doInvoke_state]; exact hsteps.trans h⟩
abbrev vx_CVW (R : Room) (s : State) (args : Array Value) (own C : String) (index : Nat) (y : MethodName) (bytes : ByteArray) (maxL : Nat) (ret : Option FieldType) (hh : List (Nat × Nat × Nat × Nat)) (ws : List Cond) (rm : Room) (mc ms n : Nat) : Prop :=
  (rm.cells = mc ∧ rm.slots = ms ∧ rm.frames + 1 ≤ R.frames ∧ 8 + (maxL + 11) + rm.locals ≤ R.locals ∧ (∀ w ∈ ws, ∀ (a' : Array Value) (U : State), s.WarmedH U.vm → w.before a' U = true) ∧ Cond.codeWith y bytes maxL ret hh ∈ ws) ∧
  (Cond.codeWith y bytes maxL ret hh).before args s = true ∧ (Cond.initialized y.cls).before args s = true ∧ (y.cls ≠ "java/lang/invoke/MethodHandle" ∧ y.cls ≠ "java/lang/invoke/VarHandle") ∧
  (∀ sig, parseMethodDescriptor y.desc = some sig → n = sig.parameters.length) ∧ (Cond.methodLink own index y).before args s = true ∧ (Cond.instanceMethod y).before args s = true ∧ (Cond.selects C y y).before args s = true
theorem vx_cwVW {own C : String} {index maxL mc ms : Nat} {y : MethodName} {bytes : ByteArray} {ret : Option FieldType} {hh : List (Nat × Nat × Nat × Nat)} {Ts ws ws' : List Cond} {rm : Room} (n : Nat) (ht : ∀ w ∈ Ts, w.before args s = true) (hT : GoodIn Ts (wsV own index C y ws)) (hw : ws = Cond.codeWith y bytes maxL ret hh :: ws') (hrc : rm.cells = mc) (hrs : rm.slots = ms)
    (hd : y.cls = C ∧ y.cls ≠ "java/lang/invoke/MethodHandle" ∧ y.cls ≠ "java/lang/invoke/VarHandle" ∧ (parseMethodDescriptor y.desc).map (fun d => d.parameters.length) = some n) (hR : rm.frames + 1 ≤ R.frames ∧ 8 + (maxL + 11) + rm.locals ≤ R.locals) :
    vx_CVW R s args own C index y bytes maxL ret hh ws rm mc ms n := by
  obtain ⟨hC, hd⟩ := hd
  subst hC
  have ok : ∀ w ∈ wsV own index y.cls y ws, w.before args s = true := fun w h => ht w (hT w h).1
  have hG : GoodIn Ts ws := fun w h => hT w (by unfold wsV; exact List.mem_append_right _ h)
  have hc : Cond.codeWith y bytes maxL ret hh ∈ ws := by rw [hw]; exact List.mem_cons_self
  refine ⟨⟨hrc, hrs, hR.1, hR.2, pay_in ht hG, hc⟩, ht _ (hG _ hc).1, ok _ (by simp [wsV]), ⟨hd.1, hd.2.1⟩, fun sig h => ?_, ok _ (by simp [wsV]), ok _ (by simp [wsV]), ok _ (by simp [wsV])⟩
  have h2 := hd.2.2
  rw [h] at h2
  exact (Option.some.inj h2).symm
theorem vx_runVW {y : MethodName} {bytes cc : ByteArray} {maxL nL mc ms n index : Nat} {ret : Option FieldType} {hh : List (Nat × Nat × Nat × Nat)} {ws : List Cond} {rm : Room} {Pc : Array Value → State → Prop} {Qc : Array Value → State → Outcome → State → Prop} {free : Addr → Prop} {Ts : List Cond} {own C : String} {b : Addr} {As rest : List Value} {g : JFrame}
    (S : CallFix p m c cc nL s args Ts own) (hM : Met l y ws rm Pc Qc mc ms free) (cw : vx_CVW R s args own C index y bytes maxL ret hh ws rm mc ms n) (hp : PreV s H C b Pc As)
    (hg : g.method = m) (hn : As.length = n) (hsize : g.locals.size = nL) (hstack : g.stack = As.reverse ++ .ref b :: rest) (hW : 2 * g.monitorRoom + (rest.map fun v => v.category).sum ≤ 8) (hdg : decode cc g.pc = .ok (.invokevirtual index, 3)) (hf : cells + mc ≤ R.cells ∧ slots + ms ≤ R.slots) :
    va_Run p l e R s m args below meth c H locs cells slots mc ms g rest (Qc (Value.ref b :: As).toArray) free := by
  obtain ⟨⟨hrc, hrs, hfr, hlo, hws, hcw⟩, hcode, hini, hy, hlen, hl, hin, hse⟩ := cw
  have hK : Back l R p e below s args y 3 8 (PreOf R mc ms Pc) (PostOf Qc mc ms free) := va_backW (hh := hh) (bytes := bytes) (maxL := maxL) (ret := ret) hM hp.1 hrc hrs hfr hlo hws hcw (fun a' U hW => word_at hW (Or.inl (by first | rfl | simp [Cond.onTables, Cond.keeps, Cond.steady])) hini)
  obtain ⟨hx, hb, hml, ho, -⟩ := S
  obtain ⟨-, ⟨cellB, hcB, hoB, hclB⟩, hPc⟩ := hp
  intro T hT X
  obtain ⟨v, vm₁, ⟨U', l2, c2, s2⟩, hW₁, X', ⟨g', mk, t, L, e1, e2, hq, h1, hL, h2, h3⟩, st⟩ := vx_callVW X hx (C := C) (hh := hh) (bytes := bytes) (maxL := maxL) (ret := ret) ho hl hin hse hcode hy hK (by rw [hT]; exact hcB) hoB hclB hg (hsize.trans hml.symm) (argsL := As) (rest := rest) (fun sig h => hn.trans (hlen sig h)) hstack hW (by rw [hb]; exact hdg)
    (fun vm₁ hW₁ => ⟨hf.1, hf.2, hPc (T.setVm vm₁) hT hW₁⟩)
  dsimp only [Pt.U, Pt.locs, Pt.cells, Pt.slots] at X' e1 e2 h1 h2 h3 st
  subst h1; subst h2; subst h3
  exact ⟨v, (T.setVm vm₁).calling g' mk (Value.ref b :: As).toArray, t, U', L, hT, X', hL, e1, e2, hq, st⟩
section
variable {y : MethodName} {bytes cc : ByteArray} {maxL nL mc ms n index : Nat} {ret : Option FieldType} {ws : List Cond} {rm : Room} {Pc : Array Value → State → Prop} {Qc : Array Value → State → Outcome → State → Prop} {XC : String → State → State → Prop} {free : Addr → Prop} {Ts : List Cond} {own C : String} {b : Addr} {As rest : List Value} {g : JFrame}
theorem vx_runVX {hh : List (Nat × Nat × Nat × Nat)} (S : CallFix p m c cc nL s args Ts own) (hM : vx_Met l y ws rm Pc Qc XC mc ms free) (cw : vx_CVW R s args own C index y bytes maxL ret hh ws rm mc ms n) (hp : PreV s H C b Pc As)
    (hg : g.method = m) (hn : As.length = n) (hsize : g.locals.size = nL) (hstack : g.stack = As.reverse ++ .ref b :: rest) (hW : 2 * g.monitorRoom + (rest.map fun v => v.category).sum ≤ 8) (hdg : decode cc g.pc = .ok (.invokevirtual index, 3)) (hf : cells + mc ≤ R.cells ∧ slots + ms ≤ R.slots) :
    vx_Run p l e R s m args below meth c H locs cells slots mc ms g rest (Qc (Value.ref b :: As).toArray) XC free := by
  obtain ⟨⟨hrc, hrs, hfr, hlo, hws, hcw⟩, hcode, hini, hy, hlen, hl, hin, hse⟩ := cw
  have hK : vx_Back l R p e below s args y 3 8 (PreOf R mc ms Pc) (PostOf Qc mc ms free) (vx_Post XC mc ms free) := vx_backW (hh := hh) (bytes := bytes) (maxL := maxL) (ret := ret) hM hp.1 hrc hrs hfr hlo hws hcw (fun a' U hW => word_at hW (Or.inl (by first | rfl | simp [Cond.onTables, Cond.keeps, Cond.steady])) hini)
  obtain ⟨hx, hb, hml, ho, -⟩ := S
  obtain ⟨-, ⟨cellB, hcB, hoB, hclB⟩, hPc⟩ := hp
  intro T hT X
  rcases vx_callVX X hx (C := C) (hh := hh) (bytes := bytes) (maxL := maxL) (ret := ret) ho hl hin hse hcode hy hK (by rw [hT]; exact hcB) hoB hclB hg (hsize.trans hml.symm) (argsL := As) (rest := rest) (fun sig h => hn.trans (hlen sig h)) hstack hW (by rw [hb]; exact hdg)
    (fun vm₁ hW₁ => ⟨hf.1, hf.2, hPc (T.setVm vm₁) hT hW₁⟩) with ⟨v, vm₁, ⟨U', l2, c2, s2⟩, hW₁, X', ⟨g', mk, t, L, e1, e2, hq, h1, hL, h2, h3⟩, st⟩ | ⟨q, vm₁, ⟨U', l2, c2, s2⟩, hW₁, X', ⟨g', mk, t, L, E, ce, e1, e2, hq, hce, hcv, hcl, h1, hL, h2, h3⟩, st⟩
  · dsimp only [Pt.U, Pt.locs, Pt.cells, Pt.slots] at X' e1 e2 h1 h2 h3 st
    subst h1; subst h2; subst h3
    exact Or.inl ⟨v, (T.setVm vm₁).calling g' mk (Value.ref b :: As).toArray, t, U', L, hT, X', hL, e1, e2, hq, st⟩
  · dsimp only [Pt.U, Pt.locs, Pt.cells, Pt.slots] at X' e1 e2 h1 h2 h3 st hcl
    subst h1; subst h2; subst h3
    exact Or.inr ⟨q, (T.setVm vm₁).calling g' mk (Value.ref b :: As).toArray, t, U', L, E, ce, hT, X', hL, e1, e2, hq, hce, hcv, vx_cls hW₁ hcl, st⟩
theorem vx_runSX {hh : List (Nat × Nat × Nat × Nat)} (S : CallFix p m c cc nL s args Ts own) (hM : vx_Met l y ws rm Pc Qc XC mc ms free) (cw : vx_CSW R s args own index y bytes maxL ret hh ws rm mc ms n) (hp : PreS s H Pc As)
    (hg : g.method = m) (hn : As.length = n) (hsize : g.locals.size = nL) (hstack : g.stack = As.reverse ++ rest) (hW : 2 * g.monitorRoom + (rest.map fun v => v.category).sum ≤ 8) (hdg : decode cc g.pc = .ok (.invokestatic index, 3)) (hf : cells + mc ≤ R.cells ∧ slots + ms ≤ R.slots) :
    vx_Run p l e R s m args below meth c H locs cells slots mc ms g rest (Qc As.toArray) XC free := by
  obtain ⟨⟨hrc, hrs, hfr, hlo, hws, hcw⟩, hcode, hini, hy, hlen, hl, hstt⟩ := cw
  have hK : vx_Back l R p e below s args y 3 8 (PreOf R mc ms Pc) (PostOf Qc mc ms free) (vx_Post XC mc ms free) := vx_backW (hh := hh) (bytes := bytes) (maxL := maxL) (ret := ret) hM hp.1 hrc hrs hfr hlo hws hcw (fun a' U hW => word_at hW (Or.inl (by first | rfl | simp [Cond.onTables, Cond.keeps, Cond.steady])) hini)
  obtain ⟨hx, hb, hml, ho, -⟩ := S
  intro T hT X
  rcases vx_callSX X hx (hh := hh) (bytes := bytes) (maxL := maxL) (ret := ret) ho hl hstt hini hcode hy hK hg (hsize.trans hml.symm) (argsL := As) (rest := rest) (fun sig h => hn.trans (hlen sig h)) hstack hW (by rw [hb]; exact hdg)
    (fun vm₁ hW₁ => ⟨hf.1, hf.2, hp.2 (T.setVm vm₁) hT hW₁⟩) with ⟨v, vm₁, ⟨U', l2, c2, s2⟩, hW₁, X', ⟨g', mk, t, L, e1, e2, hq, h1, hL, h2, h3⟩, st⟩ | ⟨q, vm₁, ⟨U', l2, c2, s2⟩, hW₁, X', ⟨g', mk, t, L, E, ce, e1, e2, hq, hce, hcv, hcl, h1, hL, h2, h3⟩, st⟩
  · dsimp only [Pt.U, Pt.locs, Pt.cells, Pt.slots] at X' e1 e2 h1 h2 h3 st
    subst h1; subst h2; subst h3
    exact Or.inl ⟨v, (T.setVm vm₁).calling g' mk As.toArray, t, U', L, hT, X', hL, e1, e2, hq, st⟩
  · dsimp only [Pt.U, Pt.locs, Pt.cells, Pt.slots] at X' e1 e2 h1 h2 h3 st hcl
    subst h1; subst h2; subst h3
    exact Or.inr ⟨q, (T.setVm vm₁).calling g' mk As.toArray, t, U', L, E, ce, hT, X', hL, e1, e2, hq, hce, hcv, vx_cls hW₁ hcl, st⟩
end
end VXH
theorem vx_ofWH {l : Launch} {y : MethodName} {ws ws' : List Cond} {rm : Room} {Pc : Array Value → State → Prop} {Qc : Array Value → State → Outcome → State → Prop} {XC : String → State → State → Prop} {mc ms : Nat} {free : Addr → Prop} {cc : ByteArray} {maxL : Nat} {ret : Option FieldType} {hh : List (Nat × Nat × Nat × Nat)}
    (hy : plainName y.cls = true) (hw : ws = Cond.codeWith y cc maxL ret hh :: ws')
    (body : ∀ p e s m args below meth c s₁, BodyLoose p l y (headSpec ws rm) cc maxL ret e s m args below meth c s₁ → c.maxLocals = maxL → Pc args s →
      W p l e (headSpec ws rm).room s m args below meth c s.heap [] 0 0 (vx_MQ below Qc XC args s mc ms free) (entryFrame m args maxL)) : vx_Met l y ws rm Pc Qc XC mc ms free := by
  refine MetFree.of_bodyS (code := cc) (maxLocals := maxL) (ret := ret) hy ?_ ?_
  · intro args s m h hn
    obtain ⟨m9, meth, c, hn9, h1, h2, h3, h4, -, h5, h6, -⟩ := Cond.codeWith_spec (atoms_spec (ws := ws) h _ (by rw [hw]; exact List.mem_cons_self))
    cases hn.symm.trans hn9
    exact ⟨meth, c, h1, h2, h3, h4, h5, h6⟩
  · intro p e s m args below meth c s₁ B hml hP _
    have hh0 : s₁.heap = s.heap := by rw [B.state]; rfl
    obtain ⟨t, a1, o, b1, b2, b3⟩ := body p e s m args below meth c s₁ B hml hP s₁ hh0 (Stand.of_body B)
    exact ⟨t, o, a1, b1, b2, b3⟩
/-! ===== END ===== -/

/-! ===== BEGIN printed: names, fields, word lists, decode rows ===== -/
def RX0 : String := "ChalkSlate"
def TX0 : u_T := fun k => match k with
  | 0 => ("ChalkSlate", "stove", "[I", true)
  | 1 => ("ChalkSlate", "shelf", "[I", true)
  | 2 => ("ChalkSlate", "stamp", "[I", true)
  | 3 => ("ChalkSlate", "dishState", "[I", true)
  | 4 => ("ChalkSlate", "dishes", "I", false)
  | 5 => ("ChalkSlate", "lineDish", "[I", true)
  | 6 => ("ChalkSlate", "lineKind", "[I", true)
  | 7 => ("ChalkSlate", "linePot", "[I", true)
  | 8 => ("ChalkSlate", "lineAhead", "[I", true)
  | 9 => ("ChalkSlate", "lineBehind", "[I", true)
  | 10 => ("ChalkSlate", "lineTakesBack", "[I", true)
  | 11 => ("ChalkSlate", "lineTakenBackBy", "[I", true)
  | 12 => ("ChalkSlate", "lines", "I", false)
  | 13 => ("ChalkSlate", "dryLines", "I", false)
  | _ => ("ChalkSlate", "falls", "I", false)
def tyX0 : Nat → FieldType := fun k => match k with
  | 0 => .array .int
  | 1 => .array .int
  | 2 => .array .int
  | 3 => .array .int
  | 4 => .int
  | 5 => .array .int
  | 6 => .array .int
  | 7 => .array .int
  | 8 => .array .int
  | 9 => .array .int
  | 10 => .array .int
  | 11 => .array .int
  | 12 => .int
  | 13 => .int
  | _ => .int
abbrev wsX00 : List Cond := u_ws RX0 TX0 15
theorem nmX0 : ∀ a, a < 15 → ∀ b, b < 15 → a ≠ b → (TX0 a).2.1 ≠ (TX0 b).2.1 := by decide +kernel
theorem tyX0_ok : ∀ k, k < 15 → parseFieldDescriptor (TX0 k).2.2.1 = some (tyX0 k) := by decide +kernel
abbrev cX0_init : ByteArray := prog_1_method_1_code
def yX0_init : MethodName := ⟨RX0, "<init>", "()V"⟩
abbrev cX0_begin : ByteArray := prog_1_method_2_code
def yX0_begin : MethodName := ⟨RX0, "begin", "()I"⟩
abbrev cX0_cook : ByteArray := prog_1_method_3_code
def yX0_cook : MethodName := ⟨RX0, "cook", "(III)I"⟩
abbrev cX0_finish : ByteArray := prog_1_method_4_code
def yX0_finish : MethodName := ⟨RX0, "finish", "(I)I"⟩
abbrev cX0_drop : ByteArray := prog_1_method_5_code
def yX0_drop : MethodName := ⟨RX0, "drop", "(I)I"⟩
abbrev cX0_shelve : ByteArray := prog_1_method_6_code
def yX0_shelve : MethodName := ⟨RX0, "shelve", "(I)I"⟩
abbrev cX0_blow : ByteArray := prog_1_method_7_code
def yX0_blow : MethodName := ⟨RX0, "blow", "()I"⟩
abbrev cX0_fall : ByteArray := prog_1_method_8_code
def yX0_fall : MethodName := ⟨RX0, "fall", "()I"⟩
abbrev cX0_pot : ByteArray := prog_1_method_9_code
def yX0_pot : MethodName := ⟨RX0, "pot", "(II)I"⟩
abbrev cX0_dish : ByteArray := prog_1_method_10_code
def yX0_dish : MethodName := ⟨RX0, "dish", "(II)I"⟩
abbrev cX0_line : ByteArray := prog_1_method_11_code
def yX0_line : MethodName := ⟨RX0, "line", "(II)I"⟩
abbrev cX0_count : ByteArray := prog_1_method_12_code
def yX0_count : MethodName := ⟨RX0, "count", "(I)I"⟩
abbrev cX0_would : ByteArray := prog_1_method_13_code
def yX0_would : MethodName := ⟨RX0, "would", "(I)I"⟩
abbrev cX0_left : ByteArray := prog_1_method_14_code
def yX0_left : MethodName := ⟨RX0, "left", "(I)I"⟩
abbrev cX0_mean : ByteArray := prog_1_method_15_code
def yX0_mean : MethodName := ⟨RX0, "mean", "()D"⟩
abbrev cX0_digest : ByteArray := prog_1_method_16_code
def yX0_digest : MethodName := ⟨RX0, "digest", "()J"⟩
abbrev cX0_at : ByteArray := prog_1_method_17_code
def yX0_at : MethodName := ⟨RX0, "at", "([II)I"⟩
abbrev cX0_put : ByteArray := prog_1_method_18_code
def yX0_put : MethodName := ⟨RX0, "put", "([III)V"⟩
abbrev cX0_isBelow : ByteArray := prog_1_method_19_code
def yX0_isBelow : MethodName := ⟨RX0, "isBelow", "(II)Z"⟩
abbrev cX0_sumOf : ByteArray := prog_1_method_20_code
def yX0_sumOf : MethodName := ⟨RX0, "sumOf", "([I)I"⟩
abbrev cX0_potAnswer : ByteArray := prog_1_method_21_code
def yX0_potAnswer : MethodName := ⟨RX0, "potAnswer", "(II)I"⟩
abbrev cX0_dishAnswer : ByteArray := prog_1_method_22_code
def yX0_dishAnswer : MethodName := ⟨RX0, "dishAnswer", "(II)I"⟩
abbrev cX0_lineAnswer : ByteArray := prog_1_method_23_code
def yX0_lineAnswer : MethodName := ⟨RX0, "lineAnswer", "(II)I"⟩
abbrev cX0_countAnswer : ByteArray := prog_1_method_24_code
def yX0_countAnswer : MethodName := ⟨RX0, "countAnswer", "(I)I"⟩
abbrev cX0_isPot : ByteArray := prog_1_method_25_code
def yX0_isPot : MethodName := ⟨RX0, "isPot", "(I)Z"⟩
abbrev cX0_holderOf : ByteArray := prog_1_method_26_code
def yX0_holderOf : MethodName := ⟨RX0, "holderOf", "(I)I"⟩
abbrev cX0_latestLineOf : ByteArray := prog_1_method_27_code
def yX0_latestLineOf : MethodName := ⟨RX0, "latestLineOf", "(I)I"⟩
abbrev cX0_isDish : ByteArray := prog_1_method_28_code
def yX0_isDish : MethodName := ⟨RX0, "isDish", "(I)Z"⟩
abbrev cX0_isOpen : ByteArray := prog_1_method_29_code
def yX0_isOpen : MethodName := ⟨RX0, "isOpen", "(I)Z"⟩
abbrev cX0_dishesThatAre : ByteArray := prog_1_method_30_code
def yX0_dishesThatAre : MethodName := ⟨RX0, "dishesThatAre", "(I)I"⟩
abbrev cX0_linesOf : ByteArray := prog_1_method_31_code
def yX0_linesOf : MethodName := ⟨RX0, "linesOf", "(I)I"⟩
abbrev cX0_lastLineOf : ByteArray := prog_1_method_32_code
def yX0_lastLineOf : MethodName := ⟨RX0, "lastLineOf", "(I)I"⟩
abbrev cX0_potsHeldBy : ByteArray := prog_1_method_33_code
def yX0_potsHeldBy : MethodName := ⟨RX0, "potsHeldBy", "(I)I"⟩
abbrev cX0_stateByLines : ByteArray := prog_1_method_34_code
def yX0_stateByLines : MethodName := ⟨RX0, "stateByLines", "(II)I"⟩
abbrev cX0_stateAfter : ByteArray := prog_1_method_35_code
def yX0_stateAfter : MethodName := ⟨RX0, "stateAfter", "(II)I"⟩
abbrev cX0_isChangeNotTakenBack : ByteArray := prog_1_method_36_code
def yX0_isChangeNotTakenBack : MethodName := ⟨RX0, "isChangeNotTakenBack", "(III)Z"⟩
abbrev cX0_changesNotTakenBack : ByteArray := prog_1_method_37_code
def yX0_changesNotTakenBack : MethodName := ⟨RX0, "changesNotTakenBack", "(II)I"⟩
abbrev cX0_roomLeft : ByteArray := prog_1_method_38_code
def yX0_roomLeft : MethodName := ⟨RX0, "roomLeft", "()I"⟩
abbrev cX0_chalk : ByteArray := prog_1_method_39_code
def yX0_chalk : MethodName := ⟨RX0, "chalk", "(II)V"⟩
abbrev cX0_chalkSpoons : ByteArray := prog_1_method_40_code
def yX0_chalkSpoons : MethodName := ⟨RX0, "chalkSpoons", "(IIII)V"⟩
abbrev cX0_takeBack : ByteArray := prog_1_method_41_code
def yX0_takeBack : MethodName := ⟨RX0, "takeBack", "(I)V"⟩
abbrev cX0_undo : ByteArray := prog_1_method_42_code
def yX0_undo : MethodName := ⟨RX0, "undo", "(I)I"⟩
abbrev cX0_dryUpTo : ByteArray := prog_1_method_43_code
def yX0_dryUpTo : MethodName := ⟨RX0, "dryUpTo", "(I)I"⟩
abbrev cX0_wipeWhatIsNotDry : ByteArray := prog_1_method_44_code
def yX0_wipeWhatIsNotDry : MethodName := ⟨RX0, "wipeWhatIsNotDry", "()V"⟩
abbrev cX0_doAnew : ByteArray := prog_1_method_45_code
def yX0_doAnew : MethodName := ⟨RX0, "doAnew", "()I"⟩
abbrev cX0_isToDoAnew : ByteArray := prog_1_method_46_code
def yX0_isToDoAnew : MethodName := ⟨RX0, "isToDoAnew", "(I)Z"⟩
abbrev cX0_linesToDoAnew : ByteArray := prog_1_method_47_code
def yX0_linesToDoAnew : MethodName := ⟨RX0, "linesToDoAnew", "()I"⟩
abbrev cX0_firstLineToDoAnew : ByteArray := prog_1_method_48_code
def yX0_firstLineToDoAnew : MethodName := ⟨RX0, "firstLineToDoAnew", "()I"⟩
abbrev cX0_linesToTakeBack : ByteArray := prog_1_method_49_code
def yX0_linesToTakeBack : MethodName := ⟨RX0, "linesToTakeBack", "()I"⟩
abbrev cX0_dishesToForget : ByteArray := prog_1_method_50_code
def yX0_dishesToForget : MethodName := ⟨RX0, "dishesToForget", "()I"⟩
abbrev cX0_spoonsAfterUndoing : ByteArray := prog_1_method_51_code
def yX0_spoonsAfterUndoing : MethodName := ⟨RX0, "spoonsAfterUndoing", "(III)I"⟩
def RX1 : String := "ChalkSlateModel$State"
def TX1 : u_T := fun k => match k with
  | 0 => ("ChalkSlateModel$State", "lines", "I", false)
  | 1 => ("ChalkSlateModel$State", "dry", "I", false)
  | 2 => ("ChalkSlateModel$State", "stove", "[I", true)
  | 3 => ("ChalkSlateModel$State", "shelf", "[I", true)
  | 4 => ("ChalkSlateModel$State", "stamp", "[I", true)
  | 5 => ("ChalkSlateModel$State", "dish", "[I", true)
  | 6 => ("ChalkSlateModel$State", "kind", "[I", true)
  | 7 => ("ChalkSlateModel$State", "pot", "[I", true)
  | 8 => ("ChalkSlateModel$State", "ahead", "[I", true)
  | 9 => ("ChalkSlateModel$State", "behind", "[I", true)
  | 10 => ("ChalkSlateModel$State", "takes", "[I", true)
  | 11 => ("ChalkSlateModel$State", "anew", "I", false)
  | 12 => ("ChalkSlateModel$State", "first", "I", false)
  | 13 => ("ChalkSlateModel$State", "back", "I", false)
  | _ => ("ChalkSlateModel$State", "this$0", "LChalkSlateModel;", true)
def tyX1 : Nat → FieldType := fun k => match k with
  | 0 => .int
  | 1 => .int
  | 2 => .array .int
  | 3 => .array .int
  | 4 => .array .int
  | 5 => .array .int
  | 6 => .array .int
  | 7 => .array .int
  | 8 => .array .int
  | 9 => .array .int
  | 10 => .array .int
  | 11 => .int
  | 12 => .int
  | 13 => .int
  | _ => .object "ChalkSlateModel"
abbrev wsX10 : List Cond := u_ws RX1 TX1 15
theorem nmX1 : ∀ a, a < 15 → ∀ b, b < 15 → a ≠ b → (TX1 a).2.1 ≠ (TX1 b).2.1 := by decide +kernel
theorem tyX1_ok : ∀ k, k < 15 → parseFieldDescriptor (TX1 k).2.2.1 = some (tyX1 k) := by decide +kernel
abbrev cX1_init : ByteArray := prog_4_method_1_code
def yX1_init : MethodName := ⟨RX1, "<init>", "(LChalkSlateModel;)V"⟩
abbrev cX1_copy : ByteArray := prog_4_method_2_code
def yX1_copy : MethodName := ⟨RX1, "copy", "([I[I)V"⟩
abbrev cX1_become : ByteArray := prog_4_method_3_code
def yX1_become : MethodName := ⟨RX1, "become", "(LChalkSlateModel$State;)V"⟩
abbrev cX1_is : ByteArray := prog_4_method_4_code
def yX1_is : MethodName := ⟨RX1, "is", "(I)I"⟩
abbrev cX1_isTakenBack : ByteArray := prog_4_method_5_code
def yX1_isTakenBack : MethodName := ⟨RX1, "isTakenBack", "(I)Z"⟩
abbrev cX1_isKept : ByteArray := prog_4_method_6_code
def yX1_isKept : MethodName := ⟨RX1, "isKept", "(II)Z"⟩
abbrev cX1_kept : ByteArray := prog_4_method_7_code
def yX1_kept : MethodName := ⟨RX1, "kept", "(I)I"⟩
abbrev cX1_room : ByteArray := prog_4_method_8_code
def yX1_room : MethodName := ⟨RX1, "room", "()I"⟩
abbrev cX1_isHeld : ByteArray := prog_4_method_9_code
def yX1_isHeld : MethodName := ⟨RX1, "isHeld", "(II)Z"⟩
abbrev cX1_holder : ByteArray := prog_4_method_10_code
def yX1_holder : MethodName := ⟨RX1, "holder", "(I)I"⟩
abbrev cX1_latest : ByteArray := prog_4_method_11_code
def yX1_latest : MethodName := ⟨RX1, "latest", "(I)I"⟩
abbrev cX1_chalk : ByteArray := prog_4_method_12_code
def yX1_chalk : MethodName := ⟨RX1, "chalk", "(II)V"⟩
abbrev cX1_chalk_ : ByteArray := prog_4_method_13_code
def yX1_chalk_ : MethodName := ⟨RX1, "chalk", "(IIIII)V"⟩
abbrev cX1_undo : ByteArray := prog_4_method_14_code
def yX1_undo : MethodName := ⟨RX1, "undo", "(I)I"⟩
abbrev cX1_dries : ByteArray := prog_4_method_15_code
def yX1_dries : MethodName := ⟨RX1, "dries", "(I)I"⟩
abbrev cX1_fall : ByteArray := prog_4_method_16_code
def yX1_fall : MethodName := ⟨RX1, "fall", "()V"⟩
abbrev cX1_are : ByteArray := prog_4_method_17_code
def yX1_are : MethodName := ⟨RX1, "are", "(I)I"⟩
abbrev cX1_sum : ByteArray := prog_4_method_18_code
def yX1_sum : MethodName := ⟨RX1, "sum", "([I)I"⟩
def RX2 : String := "ChalkSlateModel"
def TX2 : u_T := fun k => match k with
  | 0 => ("ChalkSlateModel", "thrown", "I", false)
  | 1 => ("ChalkSlateModel", "dishes", "I", false)
  | 2 => ("ChalkSlateModel", "falls", "I", false)
  | 3 => ("ChalkSlateModel", "s", "LChalkSlateModel$State;", true)
  | _ => ("ChalkSlateModel", "then", "LChalkSlateModel$State;", true)
def tyX2 : Nat → FieldType := fun k => match k with
  | 0 => .int
  | 1 => .int
  | 2 => .int
  | 3 => .object "ChalkSlateModel$State"
  | _ => .object "ChalkSlateModel$State"
abbrev wsX20 : List Cond := u_ws RX2 TX2 5
theorem nmX2 : ∀ a, a < 5 → ∀ b, b < 5 → a ≠ b → (TX2 a).2.1 ≠ (TX2 b).2.1 := by decide +kernel
theorem tyX2_ok : ∀ k, k < 5 → parseFieldDescriptor (TX2 k).2.2.1 = some (tyX2 k) := by decide +kernel
abbrev cX2_init : ByteArray := prog_3_method_1_code
def yX2_init : MethodName := ⟨RX2, "<init>", "()V"⟩
abbrev cX2_thrown : ByteArray := prog_3_method_2_code
def yX2_thrown : MethodName := ⟨RX2, "thrown", "()I"⟩
abbrev cX2_no : ByteArray := prog_3_method_3_code
def yX2_no : MethodName := ⟨RX2, "no", "(I)I"⟩
abbrev cX2_isIn : ByteArray := prog_3_method_4_code
def yX2_isIn : MethodName := ⟨RX2, "isIn", "(III)Z"⟩
abbrev cX2_isPot : ByteArray := prog_3_method_5_code
def yX2_isPot : MethodName := ⟨RX2, "isPot", "(I)Z"⟩
abbrev cX2_isDish : ByteArray := prog_3_method_6_code
def yX2_isDish : MethodName := ⟨RX2, "isDish", "(I)Z"⟩
abbrev cX2_begin : ByteArray := prog_3_method_7_code
def yX2_begin : MethodName := ⟨RX2, "begin", "()I"⟩
abbrev cX2_cook : ByteArray := prog_3_method_8_code
def yX2_cook : MethodName := ⟨RX2, "cook", "(III)I"⟩
abbrev cX2_finish : ByteArray := prog_3_method_9_code
def yX2_finish : MethodName := ⟨RX2, "finish", "(I)I"⟩
abbrev cX2_drop : ByteArray := prog_3_method_10_code
def yX2_drop : MethodName := ⟨RX2, "drop", "(I)I"⟩
abbrev cX2_shelve : ByteArray := prog_3_method_11_code
def yX2_shelve : MethodName := ⟨RX2, "shelve", "(I)I"⟩
abbrev cX2_blow : ByteArray := prog_3_method_12_code
def yX2_blow : MethodName := ⟨RX2, "blow", "()I"⟩
abbrev cX2_fall : ByteArray := prog_3_method_13_code
def yX2_fall : MethodName := ⟨RX2, "fall", "()I"⟩
abbrev cX2_potTold : ByteArray := prog_3_method_14_code
def yX2_potTold : MethodName := ⟨RX2, "potTold", "(II)I"⟩
abbrev cX2_pot : ByteArray := prog_3_method_15_code
def yX2_pot : MethodName := ⟨RX2, "pot", "(II)I"⟩
abbrev cX2_dishTold : ByteArray := prog_3_method_16_code
def yX2_dishTold : MethodName := ⟨RX2, "dishTold", "(II)I"⟩
abbrev cX2_dish : ByteArray := prog_3_method_17_code
def yX2_dish : MethodName := ⟨RX2, "dish", "(II)I"⟩
abbrev cX2_lineTold : ByteArray := prog_3_method_18_code
def yX2_lineTold : MethodName := ⟨RX2, "lineTold", "(II)I"⟩
abbrev cX2_line : ByteArray := prog_3_method_19_code
def yX2_line : MethodName := ⟨RX2, "line", "(II)I"⟩
abbrev cX2_counted : ByteArray := prog_3_method_20_code
def yX2_counted : MethodName := ⟨RX2, "counted", "(I)I"⟩
abbrev cX2_count : ByteArray := prog_3_method_21_code
def yX2_count : MethodName := ⟨RX2, "count", "(I)I"⟩
abbrev cX2_would : ByteArray := prog_3_method_22_code
def yX2_would : MethodName := ⟨RX2, "would", "(I)I"⟩
abbrev cX2_left : ByteArray := prog_3_method_23_code
def yX2_left : MethodName := ⟨RX2, "left", "(I)I"⟩
abbrev cX2_mean : ByteArray := prog_3_method_24_code
def yX2_mean : MethodName := ⟨RX2, "mean", "()D"⟩
abbrev cX2_digest : ByteArray := prog_3_method_25_code
def yX2_digest : MethodName := ⟨RX2, "digest", "()J"⟩
def RJx145de : String := "java/io/Serializable"
def TJx145de : u_T := fun k => match k with
  | _ => ("", "", "", false)
def tyJx145de : Nat → FieldType := fun k => match k with
  | _ => .int
abbrev wsJx145de0 : List Cond := u_ws RJx145de TJx145de 0
theorem nmJx145de : ∀ a, a < 0 → ∀ b, b < 0 → a ≠ b → (TJx145de a).2.1 ≠ (TJx145de b).2.1 := by decide +kernel
theorem tyJx145de_ok : ∀ k, k < 0 → parseFieldDescriptor (TJx145de k).2.2.1 = some (tyJx145de k) := by decide +kernel
def RJ9 : String := "java/lang/Math"
def TJ9 : u_T := fun k => match k with
  | _ => ("", "", "", false)
def tyJ9 : Nat → FieldType := fun k => match k with
  | _ => .int
abbrev wsJ90 : List Cond := u_ws RJ9 TJ9 0
theorem nmJ9 : ∀ a, a < 0 → ∀ b, b < 0 → a ≠ b → (TJ9 a).2.1 ≠ (TJ9 b).2.1 := by decide +kernel
theorem tyJ9_ok : ∀ k, k < 0 → parseFieldDescriptor (TJ9 k).2.2.1 = some (tyJ9 k) := by decide +kernel
abbrev cJ9_max_7cf53 : ByteArray := prog_9_method_65_code
def yJ9_max_7cf53 : MethodName := ⟨RJ9, "max", "(II)I"⟩
def RJ0 : String := "java/lang/String"
def TJ0 : u_T := fun k => match k with
  | _ => ("", "", "", false)
def tyJ0 : Nat → FieldType := fun k => match k with
  | _ => .int
abbrev wsJ00 : List Cond := u_ws RJ0 TJ0 0
theorem nmJ0 : ∀ a, a < 0 → ∀ b, b < 0 → a ≠ b → (TJ0 a).2.1 ≠ (TJ0 b).2.1 := by decide +kernel
theorem tyJ0_ok : ∀ k, k < 0 → parseFieldDescriptor (TJ0 k).2.2.1 = some (tyJ0 k) := by decide +kernel
def RJ10 : String := "java/lang/System"
def TJ10 : u_T := fun k => match k with
  | _ => ("", "", "", false)
def tyJ10 : Nat → FieldType := fun k => match k with
  | _ => .int
abbrev wsJ100 : List Cond := u_ws RJ10 TJ10 0
theorem nmJ10 : ∀ a, a < 0 → ∀ b, b < 0 → a ≠ b → (TJ10 a).2.1 ≠ (TJ10 b).2.1 := by decide +kernel
theorem tyJ10_ok : ∀ k, k < 0 → parseFieldDescriptor (TJ10 k).2.2.1 = some (tyJ10 k) := by decide +kernel
def RJ7 : String := "java/util/Arrays"
def TJ7 : u_T := fun k => match k with
  | _ => ("", "", "", false)
def tyJ7 : Nat → FieldType := fun k => match k with
  | _ => .int
abbrev wsJ70 : List Cond := u_ws RJ7 TJ7 0
theorem nmJ7 : ∀ a, a < 0 → ∀ b, b < 0 → a ≠ b → (TJ7 a).2.1 ≠ (TJ7 b).2.1 := by decide +kernel
theorem tyJ7_ok : ∀ k, k < 0 → parseFieldDescriptor (TJ7 k).2.2.1 = some (tyJ7 k) := by decide +kernel
abbrev cJ7_fill_53178 : ByteArray := prog_14_method_103_code
def yJ7_fill_53178 : MethodName := ⟨RJ7, "fill", "([II)V"⟩
def RL : String := "ChalkSlateLaw"
abbrev cL_begin : ByteArray := method_3_code
def yL_begin : MethodName := ⟨RL, "begin", "(LChalkSlate;[J)I"⟩
abbrev cL_cook : ByteArray := method_4_code
def yL_cook : MethodName := ⟨RL, "cook", "(LChalkSlate;III[J)I"⟩
abbrev cL_finish : ByteArray := method_5_code
def yL_finish : MethodName := ⟨RL, "finish", "(LChalkSlate;I[J)I"⟩
abbrev cL_drop : ByteArray := method_6_code
def yL_drop : MethodName := ⟨RL, "drop", "(LChalkSlate;I[J)I"⟩
abbrev cL_shelve : ByteArray := method_7_code
def yL_shelve : MethodName := ⟨RL, "shelve", "(LChalkSlate;I[J)I"⟩
abbrev cL_pot : ByteArray := method_8_code
def yL_pot : MethodName := ⟨RL, "pot", "(LChalkSlate;II[J)I"⟩
abbrev cL_dish : ByteArray := method_9_code
def yL_dish : MethodName := ⟨RL, "dish", "(LChalkSlate;II[J)I"⟩
abbrev cL_line : ByteArray := method_10_code
def yL_line : MethodName := ⟨RL, "line", "(LChalkSlate;II[J)I"⟩
abbrev cL_count : ByteArray := method_11_code
def yL_count : MethodName := ⟨RL, "count", "(LChalkSlate;I[J)I"⟩
abbrev cL_would : ByteArray := method_12_code
def yL_would : MethodName := ⟨RL, "would", "(LChalkSlate;I[J)I"⟩
abbrev cL_left : ByteArray := method_13_code
def yL_left : MethodName := ⟨RL, "left", "(LChalkSlate;I[J)I"⟩
abbrev cL_law : ByteArray := code
def yL_law : MethodName := ⟨RL, "law", "([I)Z"⟩
def wsJ7_fill_53178 : List Cond := .code yJ7_fill_53178 cJ7_fill_53178 4 none :: ([])
def wsX0_init : List Cond := .code yX0_init cX0_init 1 none :: ([.methodLink RX0 1 objectInit, .instanceMethod objectInit, .code objectInit ⟨#[0xb1]⟩ 1 none, .arrayClass .int, .fieldLink RX0 9 "ChalkSlate" "stove" "[I", .fieldLink RX0 13 "ChalkSlate" "shelf" "[I", .fieldLink RX0 16 "ChalkSlate" "stamp" "[I", .fieldLink RX0 19 "ChalkSlate" "dishState" "[I", .fieldLink RX0 22 "ChalkSlate" "lineDish" "[I", .fieldLink RX0 25 "ChalkSlate" "lineKind" "[I", .fieldLink RX0 28 "ChalkSlate" "linePot" "[I", .fieldLink RX0 31 "ChalkSlate" "lineAhead" "[I", .fieldLink RX0 34 "ChalkSlate" "lineBehind" "[I", .fieldLink RX0 37 "ChalkSlate" "lineTakesBack" "[I", .fieldLink RX0 40 "ChalkSlate" "lineTakenBackBy" "[I", .methodLink RX0 43 yJ7_fill_53178, .static yJ7_fill_53178, .initialized RJ7, .code yJ7_fill_53178 cJ7_fill_53178 4 none] ++ wsX00)
def wsX0_isBelow : List Cond := .code yX0_isBelow cX0_isBelow 2 (some .boolean) :: ([])
def wsX0_at : List Cond := .code yX0_at cX0_at 2 (some .int) :: ([.methodLink RX0 141 yX0_isBelow, .static yX0_isBelow, .initialized RX0, .code yX0_isBelow cX0_isBelow 2 (some .boolean)])
def wsX0_isOpen : List Cond := .code yX0_isOpen cX0_isOpen 2 (some .boolean) :: ([.fieldLink RX0 19 "ChalkSlate" "dishState" "[I", .methodLink RX0 102 yX0_at, .static yX0_at, .initialized RX0, .code yX0_at cX0_at 2 (some .int), .methodLink RX0 141 yX0_isBelow, .static yX0_isBelow, .code yX0_isBelow cX0_isBelow 2 (some .boolean)] ++ wsX00)
def wsX0_isChangeNotTakenBack : List Cond := .code yX0_isChangeNotTakenBack cX0_isChangeNotTakenBack 4 (some .boolean) :: ([.fieldLink RX0 22 "ChalkSlate" "lineDish" "[I", .fieldLink RX0 25 "ChalkSlate" "lineKind" "[I", .fieldLink RX0 40 "ChalkSlate" "lineTakenBackBy" "[I", .methodLink RX0 102 yX0_at, .static yX0_at, .initialized RX0, .code yX0_at cX0_at 2 (some .int), .methodLink RX0 141 yX0_isBelow, .static yX0_isBelow, .code yX0_isBelow cX0_isBelow 2 (some .boolean)] ++ wsX00)
def wsX0_changesNotTakenBack : List Cond := .code yX0_changesNotTakenBack cX0_changesNotTakenBack 5 (some .int) :: ([.methodLink RX0 219 yX0_isChangeNotTakenBack, .instanceMethod yX0_isChangeNotTakenBack, .selects RX0 yX0_isChangeNotTakenBack yX0_isChangeNotTakenBack, .initialized RX0, .code yX0_isChangeNotTakenBack cX0_isChangeNotTakenBack 4 (some .boolean), .fieldLink RX0 22 "ChalkSlate" "lineDish" "[I", .fieldLink RX0 25 "ChalkSlate" "lineKind" "[I", .fieldLink RX0 40 "ChalkSlate" "lineTakenBackBy" "[I", .methodLink RX0 102 yX0_at, .static yX0_at, .code yX0_at cX0_at 2 (some .int), .methodLink RX0 141 yX0_isBelow, .static yX0_isBelow, .code yX0_isBelow cX0_isBelow 2 (some .boolean)] ++ wsX00)
def wsX0_roomLeft_r1 : List Cond := [Cond.fieldLink RX0 112 "ChalkSlate" "lines" "I", Cond.fieldLink RX0 49 "ChalkSlate" "dishes" "I", Cond.methodLink RX0 91 yX0_isOpen, Cond.instanceMethod yX0_isOpen, Cond.selects RX0 yX0_isOpen yX0_isOpen, Cond.initialized RX0, Cond.code yX0_isOpen cX0_isOpen 2 (some .boolean), Cond.fieldLink RX0 19 "ChalkSlate" "dishState" "[I", Cond.methodLink RX0 102 yX0_at, Cond.static yX0_at, Cond.code yX0_at cX0_at 2 (some .int), Cond.methodLink RX0 141 yX0_isBelow, Cond.static yX0_isBelow, Cond.code yX0_isBelow cX0_isBelow 2 (some .boolean), Cond.methodLink RX0 204 yX0_changesNotTakenBack, Cond.instanceMethod yX0_changesNotTakenBack, Cond.selects RX0 yX0_changesNotTakenBack yX0_changesNotTakenBack, Cond.code yX0_changesNotTakenBack cX0_changesNotTakenBack 5 (some .int), Cond.methodLink RX0 219 yX0_isChangeNotTakenBack, Cond.instanceMethod yX0_isChangeNotTakenBack, Cond.selects RX0 yX0_isChangeNotTakenBack yX0_isChangeNotTakenBack, Cond.code yX0_isChangeNotTakenBack cX0_isChangeNotTakenBack 4 (some .boolean), Cond.fieldLink RX0 22 "ChalkSlate" "lineDish" "[I", Cond.fieldLink RX0 25 "ChalkSlate" "lineKind" "[I"]
def wsX0_roomLeft_r2 : List Cond := [Cond.fieldLink RX0 40 "ChalkSlate" "lineTakenBackBy" "[I"]
def wsX0_roomLeft : List Cond := .code yX0_roomLeft cX0_roomLeft 3 (some .int) :: ((wsX0_roomLeft_r1 ++ wsX0_roomLeft_r2) ++ wsX00)
def wsX0_put : List Cond := .code yX0_put cX0_put 3 none :: ([.methodLink RX0 141 yX0_isBelow, .static yX0_isBelow, .initialized RX0, .code yX0_isBelow cX0_isBelow 2 (some .boolean)])
def wsX0_chalk : List Cond := .code yX0_chalk cX0_chalk 3 none :: ([.fieldLink RX0 22 "ChalkSlate" "lineDish" "[I", .fieldLink RX0 112 "ChalkSlate" "lines" "I", .fieldLink RX0 25 "ChalkSlate" "lineKind" "[I", .fieldLink RX0 28 "ChalkSlate" "linePot" "[I", .fieldLink RX0 31 "ChalkSlate" "lineAhead" "[I", .fieldLink RX0 34 "ChalkSlate" "lineBehind" "[I", .fieldLink RX0 37 "ChalkSlate" "lineTakesBack" "[I", .fieldLink RX0 40 "ChalkSlate" "lineTakenBackBy" "[I", .methodLink RX0 66 yX0_put, .static yX0_put, .initialized RX0, .code yX0_put cX0_put 3 none, .methodLink RX0 141 yX0_isBelow, .static yX0_isBelow, .code yX0_isBelow cX0_isBelow 2 (some .boolean)] ++ wsX00)
def wsX0_begin_r1 : List Cond := [Cond.classLink RX0 53 "java/lang/IllegalStateException", Cond.initialized "java/lang/IllegalStateException", Cond.fieldLink RX0 49 "ChalkSlate" "dishes" "I", Cond.fieldLink RX0 19 "ChalkSlate" "dishState" "[I", Cond.methodLink RX0 60 yX0_roomLeft, Cond.instanceMethod yX0_roomLeft, Cond.selects RX0 yX0_roomLeft yX0_roomLeft, Cond.initialized RX0, Cond.code yX0_roomLeft cX0_roomLeft 3 (some .int), Cond.fieldLink RX0 112 "ChalkSlate" "lines" "I", Cond.methodLink RX0 91 yX0_isOpen, Cond.instanceMethod yX0_isOpen, Cond.selects RX0 yX0_isOpen yX0_isOpen, Cond.code yX0_isOpen cX0_isOpen 2 (some .boolean), Cond.methodLink RX0 102 yX0_at, Cond.static yX0_at, Cond.code yX0_at cX0_at 2 (some .int), Cond.methodLink RX0 141 yX0_isBelow, Cond.static yX0_isBelow, Cond.code yX0_isBelow cX0_isBelow 2 (some .boolean), Cond.methodLink RX0 204 yX0_changesNotTakenBack, Cond.instanceMethod yX0_changesNotTakenBack, Cond.selects RX0 yX0_changesNotTakenBack yX0_changesNotTakenBack, Cond.code yX0_changesNotTakenBack cX0_changesNotTakenBack 5 (some .int)]
def wsX0_begin_r2 : List Cond := [Cond.methodLink RX0 219 yX0_isChangeNotTakenBack, Cond.instanceMethod yX0_isChangeNotTakenBack, Cond.selects RX0 yX0_isChangeNotTakenBack yX0_isChangeNotTakenBack, Cond.code yX0_isChangeNotTakenBack cX0_isChangeNotTakenBack 4 (some .boolean), Cond.fieldLink RX0 22 "ChalkSlate" "lineDish" "[I", Cond.fieldLink RX0 25 "ChalkSlate" "lineKind" "[I", Cond.fieldLink RX0 40 "ChalkSlate" "lineTakenBackBy" "[I", Cond.methodLink RX0 66 yX0_put, Cond.static yX0_put, Cond.code yX0_put cX0_put 3 none, Cond.methodLink RX0 70 yX0_chalk, Cond.instanceMethod yX0_chalk, Cond.selects RX0 yX0_chalk yX0_chalk, Cond.code yX0_chalk cX0_chalk 3 none, Cond.fieldLink RX0 28 "ChalkSlate" "linePot" "[I", Cond.fieldLink RX0 31 "ChalkSlate" "lineAhead" "[I", Cond.fieldLink RX0 34 "ChalkSlate" "lineBehind" "[I", Cond.fieldLink RX0 37 "ChalkSlate" "lineTakesBack" "[I"]
def wsX0_begin : List Cond := .code yX0_begin cX0_begin 2 (some .int) :: ((wsX0_begin_r1 ++ wsX0_begin_r2) ++ wsX00 ++ (vx_atS RX0 57 "java/lang/IllegalStateException" ["java/lang/RuntimeException", "java/lang/Exception"]).filter goodWord)
def wsX0_isDish : List Cond := .code yX0_isDish cX0_isDish 2 (some .boolean) :: ([.fieldLink RX0 49 "ChalkSlate" "dishes" "I", .methodLink RX0 141 yX0_isBelow, .static yX0_isBelow, .initialized RX0, .code yX0_isBelow cX0_isBelow 2 (some .boolean)] ++ wsX00)
def wsX0_isPot : List Cond := .code yX0_isPot cX0_isPot 1 (some .boolean) :: ([.methodLink RX0 141 yX0_isBelow, .static yX0_isBelow, .initialized RX0, .code yX0_isBelow cX0_isBelow 2 (some .boolean)])
def wsX0_holderOf : List Cond := .code yX0_holderOf cX0_holderOf 4 (some .int) :: ([.fieldLink RX0 112 "ChalkSlate" "lines" "I", .fieldLink RX0 22 "ChalkSlate" "lineDish" "[I", .fieldLink RX0 25 "ChalkSlate" "lineKind" "[I", .fieldLink RX0 28 "ChalkSlate" "linePot" "[I", .methodLink RX0 102 yX0_at, .static yX0_at, .initialized RX0, .code yX0_at cX0_at 2 (some .int), .methodLink RX0 141 yX0_isBelow, .static yX0_isBelow, .code yX0_isBelow cX0_isBelow 2 (some .boolean), .methodLink RX0 91 yX0_isOpen, .instanceMethod yX0_isOpen, .selects RX0 yX0_isOpen yX0_isOpen, .code yX0_isOpen cX0_isOpen 2 (some .boolean), .fieldLink RX0 19 "ChalkSlate" "dishState" "[I"] ++ wsX00)
def wsX0_chalkSpoons : List Cond := .code yX0_chalkSpoons cX0_chalkSpoons 6 none :: ([.fieldLink RX0 112 "ChalkSlate" "lines" "I", .fieldLink RX0 28 "ChalkSlate" "linePot" "[I", .fieldLink RX0 31 "ChalkSlate" "lineAhead" "[I", .fieldLink RX0 9 "ChalkSlate" "stove" "[I", .fieldLink RX0 34 "ChalkSlate" "lineBehind" "[I", .methodLink RX0 70 yX0_chalk, .instanceMethod yX0_chalk, .selects RX0 yX0_chalk yX0_chalk, .initialized RX0, .code yX0_chalk cX0_chalk 3 none, .fieldLink RX0 22 "ChalkSlate" "lineDish" "[I", .fieldLink RX0 25 "ChalkSlate" "lineKind" "[I", .fieldLink RX0 37 "ChalkSlate" "lineTakesBack" "[I", .fieldLink RX0 40 "ChalkSlate" "lineTakenBackBy" "[I", .methodLink RX0 66 yX0_put, .static yX0_put, .code yX0_put cX0_put 3 none, .methodLink RX0 141 yX0_isBelow, .static yX0_isBelow, .code yX0_isBelow cX0_isBelow 2 (some .boolean), .methodLink RX0 102 yX0_at, .static yX0_at, .code yX0_at cX0_at 2 (some .int)] ++ wsX00)
def wsX0_cook_r1 : List Cond := [Cond.classLink RX0 81 "java/lang/IndexOutOfBoundsException", Cond.initialized "java/lang/IndexOutOfBoundsException", Cond.classLink RX0 86 "java/lang/IllegalArgumentException", Cond.initialized "java/lang/IllegalArgumentException", Cond.classLink RX0 53 "java/lang/IllegalStateException", Cond.initialized "java/lang/IllegalStateException", Cond.fieldLink RX0 9 "ChalkSlate" "stove" "[I", Cond.methodLink RX0 74 yX0_isDish, Cond.instanceMethod yX0_isDish, Cond.selects RX0 yX0_isDish yX0_isDish, Cond.initialized RX0, Cond.code yX0_isDish cX0_isDish 2 (some .boolean), Cond.fieldLink RX0 49 "ChalkSlate" "dishes" "I", Cond.methodLink RX0 141 yX0_isBelow, Cond.static yX0_isBelow, Cond.code yX0_isBelow cX0_isBelow 2 (some .boolean), Cond.methodLink RX0 78 yX0_isPot, Cond.static yX0_isPot, Cond.code yX0_isPot cX0_isPot 1 (some .boolean), Cond.methodLink RX0 91 yX0_isOpen, Cond.instanceMethod yX0_isOpen, Cond.selects RX0 yX0_isOpen yX0_isOpen, Cond.code yX0_isOpen cX0_isOpen 2 (some .boolean), Cond.fieldLink RX0 19 "ChalkSlate" "dishState" "[I"]
def wsX0_cook_r2 : List Cond := [Cond.methodLink RX0 102 yX0_at, Cond.static yX0_at, Cond.code yX0_at cX0_at 2 (some .int), Cond.methodLink RX0 96 yX0_holderOf, Cond.instanceMethod yX0_holderOf, Cond.selects RX0 yX0_holderOf yX0_holderOf, Cond.code yX0_holderOf cX0_holderOf 4 (some .int), Cond.fieldLink RX0 112 "ChalkSlate" "lines" "I", Cond.fieldLink RX0 22 "ChalkSlate" "lineDish" "[I", Cond.fieldLink RX0 25 "ChalkSlate" "lineKind" "[I", Cond.fieldLink RX0 28 "ChalkSlate" "linePot" "[I", Cond.methodLink RX0 60 yX0_roomLeft, Cond.instanceMethod yX0_roomLeft, Cond.selects RX0 yX0_roomLeft yX0_roomLeft, Cond.code yX0_roomLeft cX0_roomLeft 3 (some .int), Cond.methodLink RX0 204 yX0_changesNotTakenBack, Cond.instanceMethod yX0_changesNotTakenBack, Cond.selects RX0 yX0_changesNotTakenBack yX0_changesNotTakenBack, Cond.code yX0_changesNotTakenBack cX0_changesNotTakenBack 5 (some .int), Cond.methodLink RX0 219 yX0_isChangeNotTakenBack, Cond.instanceMethod yX0_isChangeNotTakenBack, Cond.selects RX0 yX0_isChangeNotTakenBack yX0_isChangeNotTakenBack, Cond.code yX0_isChangeNotTakenBack cX0_isChangeNotTakenBack 4 (some .boolean), Cond.fieldLink RX0 40 "ChalkSlate" "lineTakenBackBy" "[I"]
def wsX0_cook_r3 : List Cond := [Cond.methodLink RX0 106 yX0_chalkSpoons, Cond.instanceMethod yX0_chalkSpoons, Cond.selects RX0 yX0_chalkSpoons yX0_chalkSpoons, Cond.code yX0_chalkSpoons cX0_chalkSpoons 6 none, Cond.fieldLink RX0 31 "ChalkSlate" "lineAhead" "[I", Cond.fieldLink RX0 34 "ChalkSlate" "lineBehind" "[I", Cond.methodLink RX0 70 yX0_chalk, Cond.instanceMethod yX0_chalk, Cond.selects RX0 yX0_chalk yX0_chalk, Cond.code yX0_chalk cX0_chalk 3 none, Cond.fieldLink RX0 37 "ChalkSlate" "lineTakesBack" "[I", Cond.methodLink RX0 66 yX0_put, Cond.static yX0_put, Cond.code yX0_put cX0_put 3 none]
def wsX0_cook : List Cond := .code yX0_cook cX0_cook 6 (some .int) :: ((wsX0_cook_r1 ++ (wsX0_cook_r2 ++ wsX0_cook_r3)) ++ wsX00 ++ (vx_atS RX0 85 "java/lang/IndexOutOfBoundsException" ["java/lang/RuntimeException", "java/lang/Exception"]).filter goodWord ++ (vx_atS RX0 90 "java/lang/IllegalArgumentException" ["java/lang/RuntimeException", "java/lang/Exception"]).filter goodWord ++ (vx_atS RX0 57 "java/lang/IllegalStateException" ["java/lang/RuntimeException", "java/lang/Exception"]).filter goodWord)
def wsX0_dryUpTo : List Cond := .code yX0_dryUpTo cX0_dryUpTo 3 (some .int) :: ([.fieldLink RX0 166 "ChalkSlate" "dryLines" "I", .methodLink RX0 227 Lib.Math.max.name, .static Lib.Math.max.name, .initialized "java/lang/Math", .code Lib.Math.max.name Lib.Math.max.code 2 (some .int)] ++ wsX00)
def wsX0_finish_r1 : List Cond := [Cond.classLink RX0 81 "java/lang/IndexOutOfBoundsException", Cond.initialized "java/lang/IndexOutOfBoundsException", Cond.classLink RX0 53 "java/lang/IllegalStateException", Cond.initialized "java/lang/IllegalStateException", Cond.fieldLink RX0 19 "ChalkSlate" "dishState" "[I", Cond.fieldLink RX0 112 "ChalkSlate" "lines" "I", Cond.methodLink RX0 74 yX0_isDish, Cond.instanceMethod yX0_isDish, Cond.selects RX0 yX0_isDish yX0_isDish, Cond.initialized RX0, Cond.code yX0_isDish cX0_isDish 2 (some .boolean), Cond.fieldLink RX0 49 "ChalkSlate" "dishes" "I", Cond.methodLink RX0 141 yX0_isBelow, Cond.static yX0_isBelow, Cond.code yX0_isBelow cX0_isBelow 2 (some .boolean), Cond.methodLink RX0 91 yX0_isOpen, Cond.instanceMethod yX0_isOpen, Cond.selects RX0 yX0_isOpen yX0_isOpen, Cond.code yX0_isOpen cX0_isOpen 2 (some .boolean), Cond.methodLink RX0 102 yX0_at, Cond.static yX0_at, Cond.code yX0_at cX0_at 2 (some .int), Cond.methodLink RX0 70 yX0_chalk, Cond.instanceMethod yX0_chalk]
def wsX0_finish_r2 : List Cond := [Cond.selects RX0 yX0_chalk yX0_chalk, Cond.code yX0_chalk cX0_chalk 3 none, Cond.fieldLink RX0 22 "ChalkSlate" "lineDish" "[I", Cond.fieldLink RX0 25 "ChalkSlate" "lineKind" "[I", Cond.fieldLink RX0 28 "ChalkSlate" "linePot" "[I", Cond.fieldLink RX0 31 "ChalkSlate" "lineAhead" "[I", Cond.fieldLink RX0 34 "ChalkSlate" "lineBehind" "[I", Cond.fieldLink RX0 37 "ChalkSlate" "lineTakesBack" "[I", Cond.fieldLink RX0 40 "ChalkSlate" "lineTakenBackBy" "[I", Cond.methodLink RX0 66 yX0_put, Cond.static yX0_put, Cond.code yX0_put cX0_put 3 none, Cond.methodLink RX0 115 yX0_dryUpTo, Cond.instanceMethod yX0_dryUpTo, Cond.selects RX0 yX0_dryUpTo yX0_dryUpTo, Cond.code yX0_dryUpTo cX0_dryUpTo 3 (some .int), Cond.fieldLink RX0 166 "ChalkSlate" "dryLines" "I", Cond.methodLink RX0 227 Lib.Math.max.name, Cond.static Lib.Math.max.name, Cond.initialized "java/lang/Math", Cond.code Lib.Math.max.name Lib.Math.max.code 2 (some .int)]
def wsX0_finish : List Cond := .code yX0_finish cX0_finish 2 (some .int) :: ((wsX0_finish_r1 ++ wsX0_finish_r2) ++ wsX00 ++ (vx_atS RX0 85 "java/lang/IndexOutOfBoundsException" ["java/lang/RuntimeException", "java/lang/Exception"]).filter goodWord ++ (vx_atS RX0 57 "java/lang/IllegalStateException" ["java/lang/RuntimeException", "java/lang/Exception"]).filter goodWord)
def wsX0_takeBack_r1 : List Cond := [Cond.fieldLink RX0 112 "ChalkSlate" "lines" "I", Cond.fieldLink RX0 22 "ChalkSlate" "lineDish" "[I", Cond.fieldLink RX0 28 "ChalkSlate" "linePot" "[I", Cond.fieldLink RX0 31 "ChalkSlate" "lineAhead" "[I", Cond.fieldLink RX0 37 "ChalkSlate" "lineTakesBack" "[I", Cond.fieldLink RX0 40 "ChalkSlate" "lineTakenBackBy" "[I", Cond.methodLink RX0 102 yX0_at, Cond.static yX0_at, Cond.initialized RX0, Cond.code yX0_at cX0_at 2 (some .int), Cond.methodLink RX0 141 yX0_isBelow, Cond.static yX0_isBelow, Cond.code yX0_isBelow cX0_isBelow 2 (some .boolean), Cond.methodLink RX0 106 yX0_chalkSpoons, Cond.instanceMethod yX0_chalkSpoons, Cond.selects RX0 yX0_chalkSpoons yX0_chalkSpoons, Cond.code yX0_chalkSpoons cX0_chalkSpoons 6 none, Cond.fieldLink RX0 9 "ChalkSlate" "stove" "[I", Cond.fieldLink RX0 34 "ChalkSlate" "lineBehind" "[I", Cond.methodLink RX0 70 yX0_chalk, Cond.instanceMethod yX0_chalk, Cond.selects RX0 yX0_chalk yX0_chalk, Cond.code yX0_chalk cX0_chalk 3 none, Cond.fieldLink RX0 25 "ChalkSlate" "lineKind" "[I"]
def wsX0_takeBack_r2 : List Cond := [Cond.methodLink RX0 66 yX0_put, Cond.static yX0_put, Cond.code yX0_put cX0_put 3 none]
def wsX0_takeBack : List Cond := .code yX0_takeBack cX0_takeBack 3 none :: ((wsX0_takeBack_r1 ++ wsX0_takeBack_r2) ++ wsX00)
def wsX0_undo_r1 : List Cond := [Cond.fieldLink RX0 112 "ChalkSlate" "lines" "I", Cond.fieldLink RX0 19 "ChalkSlate" "dishState" "[I", Cond.methodLink RX0 219 yX0_isChangeNotTakenBack, Cond.instanceMethod yX0_isChangeNotTakenBack, Cond.selects RX0 yX0_isChangeNotTakenBack yX0_isChangeNotTakenBack, Cond.initialized RX0, Cond.code yX0_isChangeNotTakenBack cX0_isChangeNotTakenBack 4 (some .boolean), Cond.fieldLink RX0 22 "ChalkSlate" "lineDish" "[I", Cond.fieldLink RX0 25 "ChalkSlate" "lineKind" "[I", Cond.fieldLink RX0 40 "ChalkSlate" "lineTakenBackBy" "[I", Cond.methodLink RX0 102 yX0_at, Cond.static yX0_at, Cond.code yX0_at cX0_at 2 (some .int), Cond.methodLink RX0 141 yX0_isBelow, Cond.static yX0_isBelow, Cond.code yX0_isBelow cX0_isBelow 2 (some .boolean), Cond.methodLink RX0 223 yX0_takeBack, Cond.instanceMethod yX0_takeBack, Cond.selects RX0 yX0_takeBack yX0_takeBack, Cond.code yX0_takeBack cX0_takeBack 3 none, Cond.fieldLink RX0 28 "ChalkSlate" "linePot" "[I", Cond.fieldLink RX0 31 "ChalkSlate" "lineAhead" "[I", Cond.fieldLink RX0 37 "ChalkSlate" "lineTakesBack" "[I", Cond.methodLink RX0 106 yX0_chalkSpoons]
def wsX0_undo_r2 : List Cond := [Cond.instanceMethod yX0_chalkSpoons, Cond.selects RX0 yX0_chalkSpoons yX0_chalkSpoons, Cond.code yX0_chalkSpoons cX0_chalkSpoons 6 none, Cond.fieldLink RX0 9 "ChalkSlate" "stove" "[I", Cond.fieldLink RX0 34 "ChalkSlate" "lineBehind" "[I", Cond.methodLink RX0 70 yX0_chalk, Cond.instanceMethod yX0_chalk, Cond.selects RX0 yX0_chalk yX0_chalk, Cond.code yX0_chalk cX0_chalk 3 none, Cond.methodLink RX0 66 yX0_put, Cond.static yX0_put, Cond.code yX0_put cX0_put 3 none]
def wsX0_undo : List Cond := .code yX0_undo cX0_undo 4 (some .int) :: ((wsX0_undo_r1 ++ wsX0_undo_r2) ++ wsX00)
def wsX0_drop_r1 : List Cond := [Cond.classLink RX0 81 "java/lang/IndexOutOfBoundsException", Cond.initialized "java/lang/IndexOutOfBoundsException", Cond.classLink RX0 53 "java/lang/IllegalStateException", Cond.initialized "java/lang/IllegalStateException", Cond.methodLink RX0 74 yX0_isDish, Cond.instanceMethod yX0_isDish, Cond.selects RX0 yX0_isDish yX0_isDish, Cond.initialized RX0, Cond.code yX0_isDish cX0_isDish 2 (some .boolean), Cond.fieldLink RX0 49 "ChalkSlate" "dishes" "I", Cond.methodLink RX0 141 yX0_isBelow, Cond.static yX0_isBelow, Cond.code yX0_isBelow cX0_isBelow 2 (some .boolean), Cond.methodLink RX0 91 yX0_isOpen, Cond.instanceMethod yX0_isOpen, Cond.selects RX0 yX0_isOpen yX0_isOpen, Cond.code yX0_isOpen cX0_isOpen 2 (some .boolean), Cond.fieldLink RX0 19 "ChalkSlate" "dishState" "[I", Cond.methodLink RX0 102 yX0_at, Cond.static yX0_at, Cond.code yX0_at cX0_at 2 (some .int), Cond.methodLink RX0 118 yX0_undo, Cond.instanceMethod yX0_undo, Cond.selects RX0 yX0_undo yX0_undo]
def wsX0_drop_r2 : List Cond := [Cond.code yX0_undo cX0_undo 4 (some .int), Cond.fieldLink RX0 112 "ChalkSlate" "lines" "I", Cond.methodLink RX0 219 yX0_isChangeNotTakenBack, Cond.instanceMethod yX0_isChangeNotTakenBack, Cond.selects RX0 yX0_isChangeNotTakenBack yX0_isChangeNotTakenBack, Cond.code yX0_isChangeNotTakenBack cX0_isChangeNotTakenBack 4 (some .boolean), Cond.fieldLink RX0 22 "ChalkSlate" "lineDish" "[I", Cond.fieldLink RX0 25 "ChalkSlate" "lineKind" "[I", Cond.fieldLink RX0 40 "ChalkSlate" "lineTakenBackBy" "[I", Cond.methodLink RX0 223 yX0_takeBack, Cond.instanceMethod yX0_takeBack, Cond.selects RX0 yX0_takeBack yX0_takeBack, Cond.code yX0_takeBack cX0_takeBack 3 none, Cond.fieldLink RX0 28 "ChalkSlate" "linePot" "[I", Cond.fieldLink RX0 31 "ChalkSlate" "lineAhead" "[I", Cond.fieldLink RX0 37 "ChalkSlate" "lineTakesBack" "[I", Cond.methodLink RX0 106 yX0_chalkSpoons, Cond.instanceMethod yX0_chalkSpoons, Cond.selects RX0 yX0_chalkSpoons yX0_chalkSpoons, Cond.code yX0_chalkSpoons cX0_chalkSpoons 6 none, Cond.fieldLink RX0 9 "ChalkSlate" "stove" "[I", Cond.fieldLink RX0 34 "ChalkSlate" "lineBehind" "[I", Cond.methodLink RX0 70 yX0_chalk, Cond.instanceMethod yX0_chalk]
def wsX0_drop_r3 : List Cond := [Cond.selects RX0 yX0_chalk yX0_chalk, Cond.code yX0_chalk cX0_chalk 3 none, Cond.methodLink RX0 66 yX0_put, Cond.static yX0_put, Cond.code yX0_put cX0_put 3 none]
def wsX0_drop : List Cond := .code yX0_drop cX0_drop 2 (some .int) :: ((wsX0_drop_r1 ++ (wsX0_drop_r2 ++ wsX0_drop_r3)) ++ wsX00 ++ (vx_atS RX0 85 "java/lang/IndexOutOfBoundsException" ["java/lang/RuntimeException", "java/lang/Exception"]).filter goodWord ++ (vx_atS RX0 57 "java/lang/IllegalStateException" ["java/lang/RuntimeException", "java/lang/Exception"]).filter goodWord)
def wsX0_latestLineOf : List Cond := .code yX0_latestLineOf cX0_latestLineOf 3 (some .int) :: ([.fieldLink RX0 112 "ChalkSlate" "lines" "I", .fieldLink RX0 28 "ChalkSlate" "linePot" "[I", .methodLink RX0 102 yX0_at, .static yX0_at, .initialized RX0, .code yX0_at cX0_at 2 (some .int), .methodLink RX0 141 yX0_isBelow, .static yX0_isBelow, .code yX0_isBelow cX0_isBelow 2 (some .boolean)] ++ wsX00)
def wsX0_shelve_r1 : List Cond := [Cond.classLink RX0 81 "java/lang/IndexOutOfBoundsException", Cond.initialized "java/lang/IndexOutOfBoundsException", Cond.fieldLink RX0 13 "ChalkSlate" "shelf" "[I", Cond.fieldLink RX0 9 "ChalkSlate" "stove" "[I", Cond.fieldLink RX0 16 "ChalkSlate" "stamp" "[I", Cond.methodLink RX0 78 yX0_isPot, Cond.static yX0_isPot, Cond.initialized RX0, Cond.code yX0_isPot cX0_isPot 1 (some .boolean), Cond.methodLink RX0 141 yX0_isBelow, Cond.static yX0_isBelow, Cond.code yX0_isBelow cX0_isBelow 2 (some .boolean), Cond.methodLink RX0 123 yX0_latestLineOf, Cond.instanceMethod yX0_latestLineOf, Cond.selects RX0 yX0_latestLineOf yX0_latestLineOf, Cond.code yX0_latestLineOf cX0_latestLineOf 3 (some .int), Cond.fieldLink RX0 112 "ChalkSlate" "lines" "I", Cond.fieldLink RX0 28 "ChalkSlate" "linePot" "[I", Cond.methodLink RX0 102 yX0_at, Cond.static yX0_at, Cond.code yX0_at cX0_at 2 (some .int), Cond.methodLink RX0 115 yX0_dryUpTo, Cond.instanceMethod yX0_dryUpTo, Cond.selects RX0 yX0_dryUpTo yX0_dryUpTo]
def wsX0_shelve_r2 : List Cond := [Cond.code yX0_dryUpTo cX0_dryUpTo 3 (some .int), Cond.fieldLink RX0 166 "ChalkSlate" "dryLines" "I", Cond.methodLink RX0 227 Lib.Math.max.name, Cond.static Lib.Math.max.name, Cond.initialized "java/lang/Math", Cond.code Lib.Math.max.name Lib.Math.max.code 2 (some .int), Cond.methodLink RX0 66 yX0_put, Cond.static yX0_put, Cond.code yX0_put cX0_put 3 none]
def wsX0_shelve : List Cond := .code yX0_shelve cX0_shelve 4 (some .int) :: ((wsX0_shelve_r1 ++ wsX0_shelve_r2) ++ wsX00 ++ (vx_atS RX0 85 "java/lang/IndexOutOfBoundsException" ["java/lang/RuntimeException", "java/lang/Exception"]).filter goodWord)
def wsX0_blow : List Cond := .code yX0_blow cX0_blow 1 (some .int) :: ([.fieldLink RX0 112 "ChalkSlate" "lines" "I", .methodLink RX0 115 yX0_dryUpTo, .instanceMethod yX0_dryUpTo, .selects RX0 yX0_dryUpTo yX0_dryUpTo, .initialized RX0, .code yX0_dryUpTo cX0_dryUpTo 3 (some .int), .fieldLink RX0 166 "ChalkSlate" "dryLines" "I", .methodLink RX0 227 Lib.Math.max.name, .static Lib.Math.max.name, .initialized "java/lang/Math", .code Lib.Math.max.name Lib.Math.max.code 2 (some .int)] ++ wsX00)
def wsX0_stateAfter : List Cond := .code yX0_stateAfter cX0_stateAfter 2 (some .int) :: ([])
def wsX0_stateByLines : List Cond := .code yX0_stateByLines cX0_stateByLines 5 (some .int) :: ([.fieldLink RX0 22 "ChalkSlate" "lineDish" "[I", .fieldLink RX0 25 "ChalkSlate" "lineKind" "[I", .methodLink RX0 102 yX0_at, .static yX0_at, .initialized RX0, .code yX0_at cX0_at 2 (some .int), .methodLink RX0 141 yX0_isBelow, .static yX0_isBelow, .code yX0_isBelow cX0_isBelow 2 (some .boolean), .methodLink RX0 216 yX0_stateAfter, .static yX0_stateAfter, .code yX0_stateAfter cX0_stateAfter 2 (some .int)] ++ wsX00)
def wsX0_wipeWhatIsNotDry : List Cond := .code yX0_wipeWhatIsNotDry cX0_wipeWhatIsNotDry 2 none :: ([.fieldLink RX0 166 "ChalkSlate" "dryLines" "I", .fieldLink RX0 112 "ChalkSlate" "lines" "I", .fieldLink RX0 40 "ChalkSlate" "lineTakenBackBy" "[I", .fieldLink RX0 49 "ChalkSlate" "dishes" "I", .fieldLink RX0 19 "ChalkSlate" "dishState" "[I", .methodLink RX0 102 yX0_at, .static yX0_at, .initialized RX0, .code yX0_at cX0_at 2 (some .int), .methodLink RX0 141 yX0_isBelow, .static yX0_isBelow, .code yX0_isBelow cX0_isBelow 2 (some .boolean), .methodLink RX0 66 yX0_put, .static yX0_put, .code yX0_put cX0_put 3 none, .methodLink RX0 184 yX0_stateByLines, .instanceMethod yX0_stateByLines, .selects RX0 yX0_stateByLines yX0_stateByLines, .code yX0_stateByLines cX0_stateByLines 5 (some .int), .fieldLink RX0 22 "ChalkSlate" "lineDish" "[I", .fieldLink RX0 25 "ChalkSlate" "lineKind" "[I", .methodLink RX0 216 yX0_stateAfter, .static yX0_stateAfter, .code yX0_stateAfter cX0_stateAfter 2 (some .int)] ++ wsX00)
def wsX0_isToDoAnew : List Cond := .code yX0_isToDoAnew cX0_isToDoAnew 3 (some .boolean) :: ([.fieldLink RX0 28 "ChalkSlate" "linePot" "[I", .fieldLink RX0 16 "ChalkSlate" "stamp" "[I", .methodLink RX0 102 yX0_at, .static yX0_at, .initialized RX0, .code yX0_at cX0_at 2 (some .int), .methodLink RX0 141 yX0_isBelow, .static yX0_isBelow, .code yX0_isBelow cX0_isBelow 2 (some .boolean)] ++ wsX00)
def wsX0_doAnew : List Cond := .code yX0_doAnew cX0_doAnew 3 (some .int) :: ([.fieldLink RX0 112 "ChalkSlate" "lines" "I", .fieldLink RX0 9 "ChalkSlate" "stove" "[I", .fieldLink RX0 28 "ChalkSlate" "linePot" "[I", .fieldLink RX0 34 "ChalkSlate" "lineBehind" "[I", .methodLink RX0 181 yX0_isToDoAnew, .instanceMethod yX0_isToDoAnew, .selects RX0 yX0_isToDoAnew yX0_isToDoAnew, .initialized RX0, .code yX0_isToDoAnew cX0_isToDoAnew 3 (some .boolean), .fieldLink RX0 16 "ChalkSlate" "stamp" "[I", .methodLink RX0 102 yX0_at, .static yX0_at, .code yX0_at cX0_at 2 (some .int), .methodLink RX0 141 yX0_isBelow, .static yX0_isBelow, .code yX0_isBelow cX0_isBelow 2 (some .boolean), .methodLink RX0 66 yX0_put, .static yX0_put, .code yX0_put cX0_put 3 none] ++ wsX00)
def wsX0_fall_r1 : List Cond := [Cond.fieldLink RX0 13 "ChalkSlate" "shelf" "[I", Cond.fieldLink RX0 9 "ChalkSlate" "stove" "[I", Cond.methodLink RX0 129 arraycopyName, Cond.native arraycopyName, Cond.static arraycopyName, Cond.initialized "java/lang/System", Cond.fieldLink RX0 49 "ChalkSlate" "dishes" "I", Cond.fieldLink RX0 138 "ChalkSlate" "falls" "I", Cond.methodLink RX0 126 yX0_wipeWhatIsNotDry, Cond.instanceMethod yX0_wipeWhatIsNotDry, Cond.selects RX0 yX0_wipeWhatIsNotDry yX0_wipeWhatIsNotDry, Cond.initialized RX0, Cond.code yX0_wipeWhatIsNotDry cX0_wipeWhatIsNotDry 2 none, Cond.fieldLink RX0 166 "ChalkSlate" "dryLines" "I", Cond.fieldLink RX0 112 "ChalkSlate" "lines" "I", Cond.fieldLink RX0 40 "ChalkSlate" "lineTakenBackBy" "[I", Cond.fieldLink RX0 19 "ChalkSlate" "dishState" "[I", Cond.methodLink RX0 102 yX0_at, Cond.static yX0_at, Cond.code yX0_at cX0_at 2 (some .int), Cond.methodLink RX0 141 yX0_isBelow, Cond.static yX0_isBelow, Cond.code yX0_isBelow cX0_isBelow 2 (some .boolean), Cond.methodLink RX0 66 yX0_put]
def wsX0_fall_r2 : List Cond := [Cond.static yX0_put, Cond.code yX0_put cX0_put 3 none, Cond.methodLink RX0 184 yX0_stateByLines, Cond.instanceMethod yX0_stateByLines, Cond.selects RX0 yX0_stateByLines yX0_stateByLines, Cond.code yX0_stateByLines cX0_stateByLines 5 (some .int), Cond.fieldLink RX0 22 "ChalkSlate" "lineDish" "[I", Cond.fieldLink RX0 25 "ChalkSlate" "lineKind" "[I", Cond.methodLink RX0 216 yX0_stateAfter, Cond.static yX0_stateAfter, Cond.code yX0_stateAfter cX0_stateAfter 2 (some .int), Cond.methodLink RX0 135 yX0_doAnew, Cond.instanceMethod yX0_doAnew, Cond.selects RX0 yX0_doAnew yX0_doAnew, Cond.code yX0_doAnew cX0_doAnew 3 (some .int), Cond.fieldLink RX0 28 "ChalkSlate" "linePot" "[I", Cond.fieldLink RX0 34 "ChalkSlate" "lineBehind" "[I", Cond.methodLink RX0 181 yX0_isToDoAnew, Cond.instanceMethod yX0_isToDoAnew, Cond.selects RX0 yX0_isToDoAnew yX0_isToDoAnew, Cond.code yX0_isToDoAnew cX0_isToDoAnew 3 (some .boolean), Cond.fieldLink RX0 16 "ChalkSlate" "stamp" "[I", Cond.methodLink RX0 91 yX0_isOpen, Cond.instanceMethod yX0_isOpen]
def wsX0_fall_r3 : List Cond := [Cond.selects RX0 yX0_isOpen yX0_isOpen, Cond.code yX0_isOpen cX0_isOpen 2 (some .boolean), Cond.methodLink RX0 118 yX0_undo, Cond.instanceMethod yX0_undo, Cond.selects RX0 yX0_undo yX0_undo, Cond.code yX0_undo cX0_undo 4 (some .int), Cond.methodLink RX0 219 yX0_isChangeNotTakenBack, Cond.instanceMethod yX0_isChangeNotTakenBack, Cond.selects RX0 yX0_isChangeNotTakenBack yX0_isChangeNotTakenBack, Cond.code yX0_isChangeNotTakenBack cX0_isChangeNotTakenBack 4 (some .boolean), Cond.methodLink RX0 223 yX0_takeBack, Cond.instanceMethod yX0_takeBack, Cond.selects RX0 yX0_takeBack yX0_takeBack, Cond.code yX0_takeBack cX0_takeBack 3 none, Cond.fieldLink RX0 31 "ChalkSlate" "lineAhead" "[I", Cond.fieldLink RX0 37 "ChalkSlate" "lineTakesBack" "[I", Cond.methodLink RX0 106 yX0_chalkSpoons, Cond.instanceMethod yX0_chalkSpoons, Cond.selects RX0 yX0_chalkSpoons yX0_chalkSpoons, Cond.code yX0_chalkSpoons cX0_chalkSpoons 6 none, Cond.methodLink RX0 70 yX0_chalk, Cond.instanceMethod yX0_chalk, Cond.selects RX0 yX0_chalk yX0_chalk, Cond.code yX0_chalk cX0_chalk 3 none]
def wsX0_fall : List Cond := .code yX0_fall cX0_fall 3 (some .int) :: ((wsX0_fall_r1 ++ (wsX0_fall_r2 ++ wsX0_fall_r3)) ++ wsX00)
def wsX0_potAnswer_r1 : List Cond := [Cond.fieldLink RX0 9 "ChalkSlate" "stove" "[I", Cond.fieldLink RX0 13 "ChalkSlate" "shelf" "[I", Cond.fieldLink RX0 16 "ChalkSlate" "stamp" "[I", Cond.methodLink RX0 102 yX0_at, Cond.static yX0_at, Cond.initialized RX0, Cond.code yX0_at cX0_at 2 (some .int), Cond.methodLink RX0 141 yX0_isBelow, Cond.static yX0_isBelow, Cond.code yX0_isBelow cX0_isBelow 2 (some .boolean), Cond.methodLink RX0 96 yX0_holderOf, Cond.instanceMethod yX0_holderOf, Cond.selects RX0 yX0_holderOf yX0_holderOf, Cond.code yX0_holderOf cX0_holderOf 4 (some .int), Cond.fieldLink RX0 112 "ChalkSlate" "lines" "I", Cond.fieldLink RX0 22 "ChalkSlate" "lineDish" "[I", Cond.fieldLink RX0 25 "ChalkSlate" "lineKind" "[I", Cond.fieldLink RX0 28 "ChalkSlate" "linePot" "[I", Cond.methodLink RX0 91 yX0_isOpen, Cond.instanceMethod yX0_isOpen, Cond.selects RX0 yX0_isOpen yX0_isOpen, Cond.code yX0_isOpen cX0_isOpen 2 (some .boolean), Cond.fieldLink RX0 19 "ChalkSlate" "dishState" "[I", Cond.methodLink RX0 123 yX0_latestLineOf]
def wsX0_potAnswer_r2 : List Cond := [Cond.instanceMethod yX0_latestLineOf, Cond.selects RX0 yX0_latestLineOf yX0_latestLineOf, Cond.code yX0_latestLineOf cX0_latestLineOf 3 (some .int)]
def wsX0_potAnswer : List Cond := .code yX0_potAnswer cX0_potAnswer 3 (some .int) :: ((wsX0_potAnswer_r1 ++ wsX0_potAnswer_r2) ++ wsX00)
def wsX0_pot_r1 : List Cond := [Cond.classLink RX0 81 "java/lang/IndexOutOfBoundsException", Cond.initialized "java/lang/IndexOutOfBoundsException", Cond.methodLink RX0 78 yX0_isPot, Cond.static yX0_isPot, Cond.initialized RX0, Cond.code yX0_isPot cX0_isPot 1 (some .boolean), Cond.methodLink RX0 141 yX0_isBelow, Cond.static yX0_isBelow, Cond.code yX0_isBelow cX0_isBelow 2 (some .boolean), Cond.methodLink RX0 147 yX0_potAnswer, Cond.instanceMethod yX0_potAnswer, Cond.selects RX0 yX0_potAnswer yX0_potAnswer, Cond.code yX0_potAnswer cX0_potAnswer 3 (some .int), Cond.fieldLink RX0 9 "ChalkSlate" "stove" "[I", Cond.fieldLink RX0 13 "ChalkSlate" "shelf" "[I", Cond.fieldLink RX0 16 "ChalkSlate" "stamp" "[I", Cond.methodLink RX0 102 yX0_at, Cond.static yX0_at, Cond.code yX0_at cX0_at 2 (some .int), Cond.methodLink RX0 96 yX0_holderOf, Cond.instanceMethod yX0_holderOf, Cond.selects RX0 yX0_holderOf yX0_holderOf, Cond.code yX0_holderOf cX0_holderOf 4 (some .int), Cond.fieldLink RX0 112 "ChalkSlate" "lines" "I"]
def wsX0_pot_r2 : List Cond := [Cond.fieldLink RX0 22 "ChalkSlate" "lineDish" "[I", Cond.fieldLink RX0 25 "ChalkSlate" "lineKind" "[I", Cond.fieldLink RX0 28 "ChalkSlate" "linePot" "[I", Cond.methodLink RX0 91 yX0_isOpen, Cond.instanceMethod yX0_isOpen, Cond.selects RX0 yX0_isOpen yX0_isOpen, Cond.code yX0_isOpen cX0_isOpen 2 (some .boolean), Cond.fieldLink RX0 19 "ChalkSlate" "dishState" "[I", Cond.methodLink RX0 123 yX0_latestLineOf, Cond.instanceMethod yX0_latestLineOf, Cond.selects RX0 yX0_latestLineOf yX0_latestLineOf, Cond.code yX0_latestLineOf cX0_latestLineOf 3 (some .int)]
def wsX0_pot : List Cond := .code yX0_pot cX0_pot 3 (some .int) :: ((wsX0_pot_r1 ++ wsX0_pot_r2) ++ wsX00 ++ (vx_atS RX0 85 "java/lang/IndexOutOfBoundsException" ["java/lang/RuntimeException", "java/lang/Exception"]).filter goodWord)
def wsX0_linesOf : List Cond := .code yX0_linesOf cX0_linesOf 4 (some .int) :: ([.fieldLink RX0 112 "ChalkSlate" "lines" "I", .fieldLink RX0 22 "ChalkSlate" "lineDish" "[I", .methodLink RX0 102 yX0_at, .static yX0_at, .initialized RX0, .code yX0_at cX0_at 2 (some .int), .methodLink RX0 141 yX0_isBelow, .static yX0_isBelow, .code yX0_isBelow cX0_isBelow 2 (some .boolean)] ++ wsX00)
def wsX0_potsHeldBy : List Cond := .code yX0_potsHeldBy cX0_potsHeldBy 4 (some .int) :: ([.methodLink RX0 96 yX0_holderOf, .instanceMethod yX0_holderOf, .selects RX0 yX0_holderOf yX0_holderOf, .initialized RX0, .code yX0_holderOf cX0_holderOf 4 (some .int), .fieldLink RX0 112 "ChalkSlate" "lines" "I", .fieldLink RX0 22 "ChalkSlate" "lineDish" "[I", .fieldLink RX0 25 "ChalkSlate" "lineKind" "[I", .fieldLink RX0 28 "ChalkSlate" "linePot" "[I", .methodLink RX0 102 yX0_at, .static yX0_at, .code yX0_at cX0_at 2 (some .int), .methodLink RX0 141 yX0_isBelow, .static yX0_isBelow, .code yX0_isBelow cX0_isBelow 2 (some .boolean), .methodLink RX0 91 yX0_isOpen, .instanceMethod yX0_isOpen, .selects RX0 yX0_isOpen yX0_isOpen, .code yX0_isOpen cX0_isOpen 2 (some .boolean), .fieldLink RX0 19 "ChalkSlate" "dishState" "[I"] ++ wsX00)
def wsX0_lastLineOf : List Cond := .code yX0_lastLineOf cX0_lastLineOf 3 (some .int) :: ([.fieldLink RX0 112 "ChalkSlate" "lines" "I", .fieldLink RX0 22 "ChalkSlate" "lineDish" "[I", .methodLink RX0 102 yX0_at, .static yX0_at, .initialized RX0, .code yX0_at cX0_at 2 (some .int), .methodLink RX0 141 yX0_isBelow, .static yX0_isBelow, .code yX0_isBelow cX0_isBelow 2 (some .boolean)] ++ wsX00)
def wsX0_dishAnswer_r1 : List Cond := [Cond.fieldLink RX0 19 "ChalkSlate" "dishState" "[I", Cond.fieldLink RX0 112 "ChalkSlate" "lines" "I", Cond.methodLink RX0 102 yX0_at, Cond.static yX0_at, Cond.initialized RX0, Cond.code yX0_at cX0_at 2 (some .int), Cond.methodLink RX0 141 yX0_isBelow, Cond.static yX0_isBelow, Cond.code yX0_isBelow cX0_isBelow 2 (some .boolean), Cond.methodLink RX0 201 yX0_linesOf, Cond.instanceMethod yX0_linesOf, Cond.selects RX0 yX0_linesOf yX0_linesOf, Cond.code yX0_linesOf cX0_linesOf 4 (some .int), Cond.fieldLink RX0 22 "ChalkSlate" "lineDish" "[I", Cond.methodLink RX0 204 yX0_changesNotTakenBack, Cond.instanceMethod yX0_changesNotTakenBack, Cond.selects RX0 yX0_changesNotTakenBack yX0_changesNotTakenBack, Cond.code yX0_changesNotTakenBack cX0_changesNotTakenBack 5 (some .int), Cond.methodLink RX0 219 yX0_isChangeNotTakenBack, Cond.instanceMethod yX0_isChangeNotTakenBack, Cond.selects RX0 yX0_isChangeNotTakenBack yX0_isChangeNotTakenBack, Cond.code yX0_isChangeNotTakenBack cX0_isChangeNotTakenBack 4 (some .boolean), Cond.fieldLink RX0 25 "ChalkSlate" "lineKind" "[I", Cond.fieldLink RX0 40 "ChalkSlate" "lineTakenBackBy" "[I"]
def wsX0_dishAnswer_r2 : List Cond := [Cond.methodLink RX0 207 yX0_potsHeldBy, Cond.instanceMethod yX0_potsHeldBy, Cond.selects RX0 yX0_potsHeldBy yX0_potsHeldBy, Cond.code yX0_potsHeldBy cX0_potsHeldBy 4 (some .int), Cond.methodLink RX0 96 yX0_holderOf, Cond.instanceMethod yX0_holderOf, Cond.selects RX0 yX0_holderOf yX0_holderOf, Cond.code yX0_holderOf cX0_holderOf 4 (some .int), Cond.fieldLink RX0 28 "ChalkSlate" "linePot" "[I", Cond.methodLink RX0 91 yX0_isOpen, Cond.instanceMethod yX0_isOpen, Cond.selects RX0 yX0_isOpen yX0_isOpen, Cond.code yX0_isOpen cX0_isOpen 2 (some .boolean), Cond.methodLink RX0 210 yX0_lastLineOf, Cond.instanceMethod yX0_lastLineOf, Cond.selects RX0 yX0_lastLineOf yX0_lastLineOf, Cond.code yX0_lastLineOf cX0_lastLineOf 3 (some .int)]
def wsX0_dishAnswer : List Cond := .code yX0_dishAnswer cX0_dishAnswer 3 (some .int) :: ((wsX0_dishAnswer_r1 ++ wsX0_dishAnswer_r2) ++ wsX00)
def wsX0_dish_r1 : List Cond := [Cond.classLink RX0 81 "java/lang/IndexOutOfBoundsException", Cond.initialized "java/lang/IndexOutOfBoundsException", Cond.methodLink RX0 74 yX0_isDish, Cond.instanceMethod yX0_isDish, Cond.selects RX0 yX0_isDish yX0_isDish, Cond.initialized RX0, Cond.code yX0_isDish cX0_isDish 2 (some .boolean), Cond.fieldLink RX0 49 "ChalkSlate" "dishes" "I", Cond.methodLink RX0 141 yX0_isBelow, Cond.static yX0_isBelow, Cond.code yX0_isBelow cX0_isBelow 2 (some .boolean), Cond.methodLink RX0 153 yX0_dishAnswer, Cond.instanceMethod yX0_dishAnswer, Cond.selects RX0 yX0_dishAnswer yX0_dishAnswer, Cond.code yX0_dishAnswer cX0_dishAnswer 3 (some .int), Cond.fieldLink RX0 19 "ChalkSlate" "dishState" "[I", Cond.fieldLink RX0 112 "ChalkSlate" "lines" "I", Cond.methodLink RX0 102 yX0_at, Cond.static yX0_at, Cond.code yX0_at cX0_at 2 (some .int), Cond.methodLink RX0 201 yX0_linesOf, Cond.instanceMethod yX0_linesOf, Cond.selects RX0 yX0_linesOf yX0_linesOf, Cond.code yX0_linesOf cX0_linesOf 4 (some .int)]
def wsX0_dish_r2 : List Cond := [Cond.fieldLink RX0 22 "ChalkSlate" "lineDish" "[I", Cond.methodLink RX0 204 yX0_changesNotTakenBack, Cond.instanceMethod yX0_changesNotTakenBack, Cond.selects RX0 yX0_changesNotTakenBack yX0_changesNotTakenBack, Cond.code yX0_changesNotTakenBack cX0_changesNotTakenBack 5 (some .int), Cond.methodLink RX0 219 yX0_isChangeNotTakenBack, Cond.instanceMethod yX0_isChangeNotTakenBack, Cond.selects RX0 yX0_isChangeNotTakenBack yX0_isChangeNotTakenBack, Cond.code yX0_isChangeNotTakenBack cX0_isChangeNotTakenBack 4 (some .boolean), Cond.fieldLink RX0 25 "ChalkSlate" "lineKind" "[I", Cond.fieldLink RX0 40 "ChalkSlate" "lineTakenBackBy" "[I", Cond.methodLink RX0 207 yX0_potsHeldBy, Cond.instanceMethod yX0_potsHeldBy, Cond.selects RX0 yX0_potsHeldBy yX0_potsHeldBy, Cond.code yX0_potsHeldBy cX0_potsHeldBy 4 (some .int), Cond.methodLink RX0 96 yX0_holderOf, Cond.instanceMethod yX0_holderOf, Cond.selects RX0 yX0_holderOf yX0_holderOf, Cond.code yX0_holderOf cX0_holderOf 4 (some .int), Cond.fieldLink RX0 28 "ChalkSlate" "linePot" "[I", Cond.methodLink RX0 91 yX0_isOpen, Cond.instanceMethod yX0_isOpen, Cond.selects RX0 yX0_isOpen yX0_isOpen, Cond.code yX0_isOpen cX0_isOpen 2 (some .boolean)]
def wsX0_dish_r3 : List Cond := [Cond.methodLink RX0 210 yX0_lastLineOf, Cond.instanceMethod yX0_lastLineOf, Cond.selects RX0 yX0_lastLineOf yX0_lastLineOf, Cond.code yX0_lastLineOf cX0_lastLineOf 3 (some .int)]
def wsX0_dish : List Cond := .code yX0_dish cX0_dish 3 (some .int) :: ((wsX0_dish_r1 ++ (wsX0_dish_r2 ++ wsX0_dish_r3)) ++ wsX00 ++ (vx_atS RX0 85 "java/lang/IndexOutOfBoundsException" ["java/lang/RuntimeException", "java/lang/Exception"]).filter goodWord)
def wsX0_lineAnswer : List Cond := .code yX0_lineAnswer cX0_lineAnswer 3 (some .int) :: ([.fieldLink RX0 22 "ChalkSlate" "lineDish" "[I", .fieldLink RX0 25 "ChalkSlate" "lineKind" "[I", .fieldLink RX0 28 "ChalkSlate" "linePot" "[I", .fieldLink RX0 31 "ChalkSlate" "lineAhead" "[I", .fieldLink RX0 34 "ChalkSlate" "lineBehind" "[I", .fieldLink RX0 37 "ChalkSlate" "lineTakesBack" "[I", .fieldLink RX0 166 "ChalkSlate" "dryLines" "I", .methodLink RX0 102 yX0_at, .static yX0_at, .initialized RX0, .code yX0_at cX0_at 2 (some .int), .methodLink RX0 141 yX0_isBelow, .static yX0_isBelow, .code yX0_isBelow cX0_isBelow 2 (some .boolean)] ++ wsX00)
def wsX0_line : List Cond := .code yX0_line cX0_line 3 (some .int) :: ([.classLink RX0 81 "java/lang/IndexOutOfBoundsException", .initialized "java/lang/IndexOutOfBoundsException", .fieldLink RX0 112 "ChalkSlate" "lines" "I", .methodLink RX0 141 yX0_isBelow, .static yX0_isBelow, .initialized RX0, .code yX0_isBelow cX0_isBelow 2 (some .boolean), .methodLink RX0 158 yX0_lineAnswer, .instanceMethod yX0_lineAnswer, .selects RX0 yX0_lineAnswer yX0_lineAnswer, .code yX0_lineAnswer cX0_lineAnswer 3 (some .int), .fieldLink RX0 22 "ChalkSlate" "lineDish" "[I", .fieldLink RX0 25 "ChalkSlate" "lineKind" "[I", .fieldLink RX0 28 "ChalkSlate" "linePot" "[I", .fieldLink RX0 31 "ChalkSlate" "lineAhead" "[I", .fieldLink RX0 34 "ChalkSlate" "lineBehind" "[I", .fieldLink RX0 37 "ChalkSlate" "lineTakesBack" "[I", .fieldLink RX0 166 "ChalkSlate" "dryLines" "I", .methodLink RX0 102 yX0_at, .static yX0_at, .code yX0_at cX0_at 2 (some .int)] ++ wsX00 ++ (vx_atS RX0 85 "java/lang/IndexOutOfBoundsException" ["java/lang/RuntimeException", "java/lang/Exception"]).filter goodWord)
def wsX0_dishesThatAre : List Cond := .code yX0_dishesThatAre cX0_dishesThatAre 4 (some .int) :: ([.fieldLink RX0 49 "ChalkSlate" "dishes" "I", .fieldLink RX0 19 "ChalkSlate" "dishState" "[I", .methodLink RX0 102 yX0_at, .static yX0_at, .initialized RX0, .code yX0_at cX0_at 2 (some .int), .methodLink RX0 141 yX0_isBelow, .static yX0_isBelow, .code yX0_isBelow cX0_isBelow 2 (some .boolean)] ++ wsX00)
def wsX0_sumOf : List Cond := .code yX0_sumOf cX0_sumOf 3 (some .int) :: ([])
def wsX0_countAnswer_r1 : List Cond := [Cond.fieldLink RX0 112 "ChalkSlate" "lines" "I", Cond.fieldLink RX0 166 "ChalkSlate" "dryLines" "I", Cond.fieldLink RX0 49 "ChalkSlate" "dishes" "I", Cond.fieldLink RX0 9 "ChalkSlate" "stove" "[I", Cond.fieldLink RX0 13 "ChalkSlate" "shelf" "[I", Cond.fieldLink RX0 138 "ChalkSlate" "falls" "I", Cond.methodLink RX0 213 yX0_dishesThatAre, Cond.instanceMethod yX0_dishesThatAre, Cond.selects RX0 yX0_dishesThatAre yX0_dishesThatAre, Cond.initialized RX0, Cond.code yX0_dishesThatAre cX0_dishesThatAre 4 (some .int), Cond.fieldLink RX0 19 "ChalkSlate" "dishState" "[I", Cond.methodLink RX0 102 yX0_at, Cond.static yX0_at, Cond.code yX0_at cX0_at 2 (some .int), Cond.methodLink RX0 141 yX0_isBelow, Cond.static yX0_isBelow, Cond.code yX0_isBelow cX0_isBelow 2 (some .boolean), Cond.methodLink RX0 60 yX0_roomLeft, Cond.instanceMethod yX0_roomLeft, Cond.selects RX0 yX0_roomLeft yX0_roomLeft, Cond.code yX0_roomLeft cX0_roomLeft 3 (some .int), Cond.methodLink RX0 91 yX0_isOpen, Cond.instanceMethod yX0_isOpen]
def wsX0_countAnswer_r2 : List Cond := [Cond.selects RX0 yX0_isOpen yX0_isOpen, Cond.code yX0_isOpen cX0_isOpen 2 (some .boolean), Cond.methodLink RX0 204 yX0_changesNotTakenBack, Cond.instanceMethod yX0_changesNotTakenBack, Cond.selects RX0 yX0_changesNotTakenBack yX0_changesNotTakenBack, Cond.code yX0_changesNotTakenBack cX0_changesNotTakenBack 5 (some .int), Cond.methodLink RX0 219 yX0_isChangeNotTakenBack, Cond.instanceMethod yX0_isChangeNotTakenBack, Cond.selects RX0 yX0_isChangeNotTakenBack yX0_isChangeNotTakenBack, Cond.code yX0_isChangeNotTakenBack cX0_isChangeNotTakenBack 4 (some .boolean), Cond.fieldLink RX0 22 "ChalkSlate" "lineDish" "[I", Cond.fieldLink RX0 25 "ChalkSlate" "lineKind" "[I", Cond.fieldLink RX0 40 "ChalkSlate" "lineTakenBackBy" "[I", Cond.methodLink RX0 191 yX0_sumOf, Cond.static yX0_sumOf, Cond.code yX0_sumOf cX0_sumOf 3 (some .int)]
def wsX0_countAnswer : List Cond := .code yX0_countAnswer cX0_countAnswer 2 (some .int) :: ((wsX0_countAnswer_r1 ++ wsX0_countAnswer_r2) ++ wsX00)
def wsX0_count_r1 : List Cond := [Cond.classLink RX0 81 "java/lang/IndexOutOfBoundsException", Cond.initialized "java/lang/IndexOutOfBoundsException", Cond.methodLink RX0 141 yX0_isBelow, Cond.static yX0_isBelow, Cond.initialized RX0, Cond.code yX0_isBelow cX0_isBelow 2 (some .boolean), Cond.methodLink RX0 163 yX0_countAnswer, Cond.instanceMethod yX0_countAnswer, Cond.selects RX0 yX0_countAnswer yX0_countAnswer, Cond.code yX0_countAnswer cX0_countAnswer 2 (some .int), Cond.fieldLink RX0 112 "ChalkSlate" "lines" "I", Cond.fieldLink RX0 166 "ChalkSlate" "dryLines" "I", Cond.fieldLink RX0 49 "ChalkSlate" "dishes" "I", Cond.fieldLink RX0 9 "ChalkSlate" "stove" "[I", Cond.fieldLink RX0 13 "ChalkSlate" "shelf" "[I", Cond.fieldLink RX0 138 "ChalkSlate" "falls" "I", Cond.methodLink RX0 213 yX0_dishesThatAre, Cond.instanceMethod yX0_dishesThatAre, Cond.selects RX0 yX0_dishesThatAre yX0_dishesThatAre, Cond.code yX0_dishesThatAre cX0_dishesThatAre 4 (some .int), Cond.fieldLink RX0 19 "ChalkSlate" "dishState" "[I", Cond.methodLink RX0 102 yX0_at, Cond.static yX0_at, Cond.code yX0_at cX0_at 2 (some .int)]
def wsX0_count_r2 : List Cond := [Cond.methodLink RX0 60 yX0_roomLeft, Cond.instanceMethod yX0_roomLeft, Cond.selects RX0 yX0_roomLeft yX0_roomLeft, Cond.code yX0_roomLeft cX0_roomLeft 3 (some .int), Cond.methodLink RX0 91 yX0_isOpen, Cond.instanceMethod yX0_isOpen, Cond.selects RX0 yX0_isOpen yX0_isOpen, Cond.code yX0_isOpen cX0_isOpen 2 (some .boolean), Cond.methodLink RX0 204 yX0_changesNotTakenBack, Cond.instanceMethod yX0_changesNotTakenBack, Cond.selects RX0 yX0_changesNotTakenBack yX0_changesNotTakenBack, Cond.code yX0_changesNotTakenBack cX0_changesNotTakenBack 5 (some .int), Cond.methodLink RX0 219 yX0_isChangeNotTakenBack, Cond.instanceMethod yX0_isChangeNotTakenBack, Cond.selects RX0 yX0_isChangeNotTakenBack yX0_isChangeNotTakenBack, Cond.code yX0_isChangeNotTakenBack cX0_isChangeNotTakenBack 4 (some .boolean), Cond.fieldLink RX0 22 "ChalkSlate" "lineDish" "[I", Cond.fieldLink RX0 25 "ChalkSlate" "lineKind" "[I", Cond.fieldLink RX0 40 "ChalkSlate" "lineTakenBackBy" "[I", Cond.methodLink RX0 191 yX0_sumOf, Cond.static yX0_sumOf, Cond.code yX0_sumOf cX0_sumOf 3 (some .int)]
def wsX0_count : List Cond := .code yX0_count cX0_count 2 (some .int) :: ((wsX0_count_r1 ++ wsX0_count_r2) ++ wsX00 ++ (vx_atS RX0 85 "java/lang/IndexOutOfBoundsException" ["java/lang/RuntimeException", "java/lang/Exception"]).filter goodWord)
def wsX0_linesToDoAnew : List Cond := .code yX0_linesToDoAnew cX0_linesToDoAnew 3 (some .int) :: ([.fieldLink RX0 166 "ChalkSlate" "dryLines" "I", .methodLink RX0 181 yX0_isToDoAnew, .instanceMethod yX0_isToDoAnew, .selects RX0 yX0_isToDoAnew yX0_isToDoAnew, .initialized RX0, .code yX0_isToDoAnew cX0_isToDoAnew 3 (some .boolean), .fieldLink RX0 28 "ChalkSlate" "linePot" "[I", .fieldLink RX0 16 "ChalkSlate" "stamp" "[I", .methodLink RX0 102 yX0_at, .static yX0_at, .code yX0_at cX0_at 2 (some .int), .methodLink RX0 141 yX0_isBelow, .static yX0_isBelow, .code yX0_isBelow cX0_isBelow 2 (some .boolean)] ++ wsX00)
def wsX0_linesToTakeBack_r1 : List Cond := [Cond.fieldLink RX0 49 "ChalkSlate" "dishes" "I", Cond.fieldLink RX0 166 "ChalkSlate" "dryLines" "I", Cond.methodLink RX0 184 yX0_stateByLines, Cond.instanceMethod yX0_stateByLines, Cond.selects RX0 yX0_stateByLines yX0_stateByLines, Cond.initialized RX0, Cond.code yX0_stateByLines cX0_stateByLines 5 (some .int), Cond.fieldLink RX0 22 "ChalkSlate" "lineDish" "[I", Cond.fieldLink RX0 25 "ChalkSlate" "lineKind" "[I", Cond.methodLink RX0 102 yX0_at, Cond.static yX0_at, Cond.code yX0_at cX0_at 2 (some .int), Cond.methodLink RX0 141 yX0_isBelow, Cond.static yX0_isBelow, Cond.code yX0_isBelow cX0_isBelow 2 (some .boolean), Cond.methodLink RX0 216 yX0_stateAfter, Cond.static yX0_stateAfter, Cond.code yX0_stateAfter cX0_stateAfter 2 (some .int), Cond.methodLink RX0 204 yX0_changesNotTakenBack, Cond.instanceMethod yX0_changesNotTakenBack, Cond.selects RX0 yX0_changesNotTakenBack yX0_changesNotTakenBack, Cond.code yX0_changesNotTakenBack cX0_changesNotTakenBack 5 (some .int), Cond.methodLink RX0 219 yX0_isChangeNotTakenBack, Cond.instanceMethod yX0_isChangeNotTakenBack]
def wsX0_linesToTakeBack_r2 : List Cond := [Cond.selects RX0 yX0_isChangeNotTakenBack yX0_isChangeNotTakenBack, Cond.code yX0_isChangeNotTakenBack cX0_isChangeNotTakenBack 4 (some .boolean), Cond.fieldLink RX0 40 "ChalkSlate" "lineTakenBackBy" "[I"]
def wsX0_linesToTakeBack : List Cond := .code yX0_linesToTakeBack cX0_linesToTakeBack 3 (some .int) :: ((wsX0_linesToTakeBack_r1 ++ wsX0_linesToTakeBack_r2) ++ wsX00)
def wsX0_firstLineToDoAnew : List Cond := .code yX0_firstLineToDoAnew cX0_firstLineToDoAnew 2 (some .int) :: ([.fieldLink RX0 166 "ChalkSlate" "dryLines" "I", .methodLink RX0 181 yX0_isToDoAnew, .instanceMethod yX0_isToDoAnew, .selects RX0 yX0_isToDoAnew yX0_isToDoAnew, .initialized RX0, .code yX0_isToDoAnew cX0_isToDoAnew 3 (some .boolean), .fieldLink RX0 28 "ChalkSlate" "linePot" "[I", .fieldLink RX0 16 "ChalkSlate" "stamp" "[I", .methodLink RX0 102 yX0_at, .static yX0_at, .code yX0_at cX0_at 2 (some .int), .methodLink RX0 141 yX0_isBelow, .static yX0_isBelow, .code yX0_isBelow cX0_isBelow 2 (some .boolean)] ++ wsX00)
def wsX0_dishesToForget : List Cond := .code yX0_dishesToForget cX0_dishesToForget 4 (some .int) :: ([.fieldLink RX0 49 "ChalkSlate" "dishes" "I", .fieldLink RX0 19 "ChalkSlate" "dishState" "[I", .fieldLink RX0 166 "ChalkSlate" "dryLines" "I", .methodLink RX0 102 yX0_at, .static yX0_at, .initialized RX0, .code yX0_at cX0_at 2 (some .int), .methodLink RX0 141 yX0_isBelow, .static yX0_isBelow, .code yX0_isBelow cX0_isBelow 2 (some .boolean), .methodLink RX0 184 yX0_stateByLines, .instanceMethod yX0_stateByLines, .selects RX0 yX0_stateByLines yX0_stateByLines, .code yX0_stateByLines cX0_stateByLines 5 (some .int), .fieldLink RX0 22 "ChalkSlate" "lineDish" "[I", .fieldLink RX0 25 "ChalkSlate" "lineKind" "[I", .methodLink RX0 216 yX0_stateAfter, .static yX0_stateAfter, .code yX0_stateAfter cX0_stateAfter 2 (some .int)] ++ wsX00)
def wsX0_would_r1 : List Cond := [Cond.classLink RX0 81 "java/lang/IndexOutOfBoundsException", Cond.initialized "java/lang/IndexOutOfBoundsException", Cond.fieldLink RX0 112 "ChalkSlate" "lines" "I", Cond.fieldLink RX0 166 "ChalkSlate" "dryLines" "I", Cond.methodLink RX0 141 yX0_isBelow, Cond.static yX0_isBelow, Cond.initialized RX0, Cond.code yX0_isBelow cX0_isBelow 2 (some .boolean), Cond.methodLink RX0 169 yX0_linesToDoAnew, Cond.instanceMethod yX0_linesToDoAnew, Cond.selects RX0 yX0_linesToDoAnew yX0_linesToDoAnew, Cond.code yX0_linesToDoAnew cX0_linesToDoAnew 3 (some .int), Cond.methodLink RX0 181 yX0_isToDoAnew, Cond.instanceMethod yX0_isToDoAnew, Cond.selects RX0 yX0_isToDoAnew yX0_isToDoAnew, Cond.code yX0_isToDoAnew cX0_isToDoAnew 3 (some .boolean), Cond.fieldLink RX0 28 "ChalkSlate" "linePot" "[I", Cond.fieldLink RX0 16 "ChalkSlate" "stamp" "[I", Cond.methodLink RX0 102 yX0_at, Cond.static yX0_at, Cond.code yX0_at cX0_at 2 (some .int), Cond.methodLink RX0 172 yX0_linesToTakeBack, Cond.instanceMethod yX0_linesToTakeBack, Cond.selects RX0 yX0_linesToTakeBack yX0_linesToTakeBack]
def wsX0_would_r2 : List Cond := [Cond.code yX0_linesToTakeBack cX0_linesToTakeBack 3 (some .int), Cond.fieldLink RX0 49 "ChalkSlate" "dishes" "I", Cond.methodLink RX0 184 yX0_stateByLines, Cond.instanceMethod yX0_stateByLines, Cond.selects RX0 yX0_stateByLines yX0_stateByLines, Cond.code yX0_stateByLines cX0_stateByLines 5 (some .int), Cond.fieldLink RX0 22 "ChalkSlate" "lineDish" "[I", Cond.fieldLink RX0 25 "ChalkSlate" "lineKind" "[I", Cond.methodLink RX0 216 yX0_stateAfter, Cond.static yX0_stateAfter, Cond.code yX0_stateAfter cX0_stateAfter 2 (some .int), Cond.methodLink RX0 204 yX0_changesNotTakenBack, Cond.instanceMethod yX0_changesNotTakenBack, Cond.selects RX0 yX0_changesNotTakenBack yX0_changesNotTakenBack, Cond.code yX0_changesNotTakenBack cX0_changesNotTakenBack 5 (some .int), Cond.methodLink RX0 219 yX0_isChangeNotTakenBack, Cond.instanceMethod yX0_isChangeNotTakenBack, Cond.selects RX0 yX0_isChangeNotTakenBack yX0_isChangeNotTakenBack, Cond.code yX0_isChangeNotTakenBack cX0_isChangeNotTakenBack 4 (some .boolean), Cond.fieldLink RX0 40 "ChalkSlate" "lineTakenBackBy" "[I", Cond.methodLink RX0 175 yX0_firstLineToDoAnew, Cond.instanceMethod yX0_firstLineToDoAnew, Cond.selects RX0 yX0_firstLineToDoAnew yX0_firstLineToDoAnew, Cond.code yX0_firstLineToDoAnew cX0_firstLineToDoAnew 2 (some .int)]
def wsX0_would_r3 : List Cond := [Cond.methodLink RX0 178 yX0_dishesToForget, Cond.instanceMethod yX0_dishesToForget, Cond.selects RX0 yX0_dishesToForget yX0_dishesToForget, Cond.code yX0_dishesToForget cX0_dishesToForget 4 (some .int), Cond.fieldLink RX0 19 "ChalkSlate" "dishState" "[I"]
def wsX0_would : List Cond := .code yX0_would cX0_would 2 (some .int) :: ((wsX0_would_r1 ++ (wsX0_would_r2 ++ wsX0_would_r3)) ++ wsX00 ++ (vx_atS RX0 85 "java/lang/IndexOutOfBoundsException" ["java/lang/RuntimeException", "java/lang/Exception"]).filter goodWord)
def wsX0_spoonsAfterUndoing : List Cond := .code yX0_spoonsAfterUndoing cX0_spoonsAfterUndoing 6 (some .int) :: ([.fieldLink RX0 166 "ChalkSlate" "dryLines" "I", .fieldLink RX0 28 "ChalkSlate" "linePot" "[I", .fieldLink RX0 31 "ChalkSlate" "lineAhead" "[I", .methodLink RX0 102 yX0_at, .static yX0_at, .initialized RX0, .code yX0_at cX0_at 2 (some .int), .methodLink RX0 141 yX0_isBelow, .static yX0_isBelow, .code yX0_isBelow cX0_isBelow 2 (some .boolean), .methodLink RX0 219 yX0_isChangeNotTakenBack, .instanceMethod yX0_isChangeNotTakenBack, .selects RX0 yX0_isChangeNotTakenBack yX0_isChangeNotTakenBack, .code yX0_isChangeNotTakenBack cX0_isChangeNotTakenBack 4 (some .boolean), .fieldLink RX0 22 "ChalkSlate" "lineDish" "[I", .fieldLink RX0 25 "ChalkSlate" "lineKind" "[I", .fieldLink RX0 40 "ChalkSlate" "lineTakenBackBy" "[I"] ++ wsX00)
def wsX0_left_r1 : List Cond := [Cond.classLink RX0 81 "java/lang/IndexOutOfBoundsException", Cond.initialized "java/lang/IndexOutOfBoundsException", Cond.fieldLink RX0 13 "ChalkSlate" "shelf" "[I", Cond.fieldLink RX0 166 "ChalkSlate" "dryLines" "I", Cond.fieldLink RX0 28 "ChalkSlate" "linePot" "[I", Cond.fieldLink RX0 34 "ChalkSlate" "lineBehind" "[I", Cond.fieldLink RX0 49 "ChalkSlate" "dishes" "I", Cond.methodLink RX0 78 yX0_isPot, Cond.static yX0_isPot, Cond.initialized RX0, Cond.code yX0_isPot cX0_isPot 1 (some .boolean), Cond.methodLink RX0 141 yX0_isBelow, Cond.static yX0_isBelow, Cond.code yX0_isBelow cX0_isBelow 2 (some .boolean), Cond.methodLink RX0 102 yX0_at, Cond.static yX0_at, Cond.code yX0_at cX0_at 2 (some .int), Cond.methodLink RX0 181 yX0_isToDoAnew, Cond.instanceMethod yX0_isToDoAnew, Cond.selects RX0 yX0_isToDoAnew yX0_isToDoAnew, Cond.code yX0_isToDoAnew cX0_isToDoAnew 3 (some .boolean), Cond.fieldLink RX0 16 "ChalkSlate" "stamp" "[I", Cond.methodLink RX0 184 yX0_stateByLines, Cond.instanceMethod yX0_stateByLines]
def wsX0_left_r2 : List Cond := [Cond.selects RX0 yX0_stateByLines yX0_stateByLines, Cond.code yX0_stateByLines cX0_stateByLines 5 (some .int), Cond.fieldLink RX0 22 "ChalkSlate" "lineDish" "[I", Cond.fieldLink RX0 25 "ChalkSlate" "lineKind" "[I", Cond.methodLink RX0 216 yX0_stateAfter, Cond.static yX0_stateAfter, Cond.code yX0_stateAfter cX0_stateAfter 2 (some .int), Cond.methodLink RX0 187 yX0_spoonsAfterUndoing, Cond.instanceMethod yX0_spoonsAfterUndoing, Cond.selects RX0 yX0_spoonsAfterUndoing yX0_spoonsAfterUndoing, Cond.code yX0_spoonsAfterUndoing cX0_spoonsAfterUndoing 6 (some .int), Cond.fieldLink RX0 31 "ChalkSlate" "lineAhead" "[I", Cond.methodLink RX0 219 yX0_isChangeNotTakenBack, Cond.instanceMethod yX0_isChangeNotTakenBack, Cond.selects RX0 yX0_isChangeNotTakenBack yX0_isChangeNotTakenBack, Cond.code yX0_isChangeNotTakenBack cX0_isChangeNotTakenBack 4 (some .boolean), Cond.fieldLink RX0 40 "ChalkSlate" "lineTakenBackBy" "[I"]
def wsX0_left : List Cond := .code yX0_left cX0_left 4 (some .int) :: ((wsX0_left_r1 ++ wsX0_left_r2) ++ wsX00 ++ (vx_atS RX0 85 "java/lang/IndexOutOfBoundsException" ["java/lang/RuntimeException", "java/lang/Exception"]).filter goodWord)
def wsX0_mean : List Cond := .code yX0_mean cX0_mean 1 (some .double) :: ([.fieldLink RX0 9 "ChalkSlate" "stove" "[I", .constantDouble RX0 195 (4620693217682128896), .methodLink RX0 191 yX0_sumOf, .static yX0_sumOf, .initialized RX0, .code yX0_sumOf cX0_sumOf 3 (some .int)] ++ wsX00)
def wsX0_digest_r1 : List Cond := [Cond.constantLong RX0 197 (1291), Cond.constantLong RX0 199 (31), Cond.fieldLink RX0 49 "ChalkSlate" "dishes" "I", Cond.fieldLink RX0 112 "ChalkSlate" "lines" "I", Cond.methodLink RX0 163 yX0_countAnswer, Cond.instanceMethod yX0_countAnswer, Cond.selects RX0 yX0_countAnswer yX0_countAnswer, Cond.initialized RX0, Cond.code yX0_countAnswer cX0_countAnswer 2 (some .int), Cond.fieldLink RX0 166 "ChalkSlate" "dryLines" "I", Cond.fieldLink RX0 9 "ChalkSlate" "stove" "[I", Cond.fieldLink RX0 13 "ChalkSlate" "shelf" "[I", Cond.fieldLink RX0 138 "ChalkSlate" "falls" "I", Cond.methodLink RX0 213 yX0_dishesThatAre, Cond.instanceMethod yX0_dishesThatAre, Cond.selects RX0 yX0_dishesThatAre yX0_dishesThatAre, Cond.code yX0_dishesThatAre cX0_dishesThatAre 4 (some .int), Cond.fieldLink RX0 19 "ChalkSlate" "dishState" "[I", Cond.methodLink RX0 102 yX0_at, Cond.static yX0_at, Cond.code yX0_at cX0_at 2 (some .int), Cond.methodLink RX0 141 yX0_isBelow, Cond.static yX0_isBelow, Cond.code yX0_isBelow cX0_isBelow 2 (some .boolean)]
def wsX0_digest_r2 : List Cond := [Cond.methodLink RX0 60 yX0_roomLeft, Cond.instanceMethod yX0_roomLeft, Cond.selects RX0 yX0_roomLeft yX0_roomLeft, Cond.code yX0_roomLeft cX0_roomLeft 3 (some .int), Cond.methodLink RX0 91 yX0_isOpen, Cond.instanceMethod yX0_isOpen, Cond.selects RX0 yX0_isOpen yX0_isOpen, Cond.code yX0_isOpen cX0_isOpen 2 (some .boolean), Cond.methodLink RX0 204 yX0_changesNotTakenBack, Cond.instanceMethod yX0_changesNotTakenBack, Cond.selects RX0 yX0_changesNotTakenBack yX0_changesNotTakenBack, Cond.code yX0_changesNotTakenBack cX0_changesNotTakenBack 5 (some .int), Cond.methodLink RX0 219 yX0_isChangeNotTakenBack, Cond.instanceMethod yX0_isChangeNotTakenBack, Cond.selects RX0 yX0_isChangeNotTakenBack yX0_isChangeNotTakenBack, Cond.code yX0_isChangeNotTakenBack cX0_isChangeNotTakenBack 4 (some .boolean), Cond.fieldLink RX0 22 "ChalkSlate" "lineDish" "[I", Cond.fieldLink RX0 25 "ChalkSlate" "lineKind" "[I", Cond.fieldLink RX0 40 "ChalkSlate" "lineTakenBackBy" "[I", Cond.methodLink RX0 191 yX0_sumOf, Cond.static yX0_sumOf, Cond.code yX0_sumOf cX0_sumOf 3 (some .int), Cond.methodLink RX0 147 yX0_potAnswer, Cond.instanceMethod yX0_potAnswer]
def wsX0_digest_r3 : List Cond := [Cond.selects RX0 yX0_potAnswer yX0_potAnswer, Cond.code yX0_potAnswer cX0_potAnswer 3 (some .int), Cond.fieldLink RX0 16 "ChalkSlate" "stamp" "[I", Cond.methodLink RX0 96 yX0_holderOf, Cond.instanceMethod yX0_holderOf, Cond.selects RX0 yX0_holderOf yX0_holderOf, Cond.code yX0_holderOf cX0_holderOf 4 (some .int), Cond.fieldLink RX0 28 "ChalkSlate" "linePot" "[I", Cond.methodLink RX0 123 yX0_latestLineOf, Cond.instanceMethod yX0_latestLineOf, Cond.selects RX0 yX0_latestLineOf yX0_latestLineOf, Cond.code yX0_latestLineOf cX0_latestLineOf 3 (some .int), Cond.methodLink RX0 153 yX0_dishAnswer, Cond.instanceMethod yX0_dishAnswer, Cond.selects RX0 yX0_dishAnswer yX0_dishAnswer, Cond.code yX0_dishAnswer cX0_dishAnswer 3 (some .int), Cond.methodLink RX0 201 yX0_linesOf, Cond.instanceMethod yX0_linesOf, Cond.selects RX0 yX0_linesOf yX0_linesOf, Cond.code yX0_linesOf cX0_linesOf 4 (some .int), Cond.methodLink RX0 207 yX0_potsHeldBy, Cond.instanceMethod yX0_potsHeldBy, Cond.selects RX0 yX0_potsHeldBy yX0_potsHeldBy, Cond.code yX0_potsHeldBy cX0_potsHeldBy 4 (some .int)]
def wsX0_digest_r4 : List Cond := [Cond.methodLink RX0 210 yX0_lastLineOf, Cond.instanceMethod yX0_lastLineOf, Cond.selects RX0 yX0_lastLineOf yX0_lastLineOf, Cond.code yX0_lastLineOf cX0_lastLineOf 3 (some .int), Cond.methodLink RX0 158 yX0_lineAnswer, Cond.instanceMethod yX0_lineAnswer, Cond.selects RX0 yX0_lineAnswer yX0_lineAnswer, Cond.code yX0_lineAnswer cX0_lineAnswer 3 (some .int), Cond.fieldLink RX0 31 "ChalkSlate" "lineAhead" "[I", Cond.fieldLink RX0 34 "ChalkSlate" "lineBehind" "[I", Cond.fieldLink RX0 37 "ChalkSlate" "lineTakesBack" "[I"]
def wsX0_digest : List Cond := .code yX0_digest cX0_digest 5 (some .long) :: ((wsX0_digest_r1 ++ (wsX0_digest_r2 ++ (wsX0_digest_r3 ++ wsX0_digest_r4))) ++ wsX00)
def wsX1_init : List Cond := .code yX1_init cX1_init 3 none :: ([.fieldLink RX1 3 "ChalkSlateModel$State" "this$0" "LChalkSlateModel;", .methodLink RX1 9 objectInit, .instanceMethod objectInit, .code objectInit ⟨#[0xb1]⟩ 1 none, .arrayClass .int, .fieldLink RX1 15 "ChalkSlateModel$State" "stove" "[I", .fieldLink RX1 19 "ChalkSlateModel$State" "shelf" "[I", .fieldLink RX1 22 "ChalkSlateModel$State" "stamp" "[I", .fieldLink RX1 25 "ChalkSlateModel$State" "dish" "[I", .fieldLink RX1 28 "ChalkSlateModel$State" "kind" "[I", .fieldLink RX1 31 "ChalkSlateModel$State" "pot" "[I", .fieldLink RX1 34 "ChalkSlateModel$State" "ahead" "[I", .fieldLink RX1 37 "ChalkSlateModel$State" "behind" "[I", .fieldLink RX1 40 "ChalkSlateModel$State" "takes" "[I"] ++ wsX10)
def wsX1_copy : List Cond := .code yX1_copy cX1_copy 3 none :: ([.methodLink RX1 43 arraycopyName, .native arraycopyName, .static arraycopyName, .initialized "java/lang/System"])
def wsX1_become : List Cond := .code yX1_become cX1_become 2 none :: ([.fieldLink RX1 49 "ChalkSlateModel$State" "lines" "I", .fieldLink RX1 53 "ChalkSlateModel$State" "dry" "I", .fieldLink RX1 15 "ChalkSlateModel$State" "stove" "[I", .fieldLink RX1 19 "ChalkSlateModel$State" "shelf" "[I", .fieldLink RX1 22 "ChalkSlateModel$State" "stamp" "[I", .fieldLink RX1 25 "ChalkSlateModel$State" "dish" "[I", .fieldLink RX1 28 "ChalkSlateModel$State" "kind" "[I", .fieldLink RX1 31 "ChalkSlateModel$State" "pot" "[I", .fieldLink RX1 34 "ChalkSlateModel$State" "ahead" "[I", .fieldLink RX1 37 "ChalkSlateModel$State" "behind" "[I", .fieldLink RX1 40 "ChalkSlateModel$State" "takes" "[I", .methodLink RX1 56 yX1_copy, .instanceMethod yX1_copy, .selects RX1 yX1_copy yX1_copy, .initialized RX1, .code yX1_copy cX1_copy 3 none, .methodLink RX1 43 arraycopyName, .native arraycopyName, .static arraycopyName, .initialized "java/lang/System"] ++ wsX10)
def wsX1_is : List Cond := .code yX1_is cX1_is 4 (some .int) :: ([.fieldLink RX1 49 "ChalkSlateModel$State" "lines" "I", .fieldLink RX1 25 "ChalkSlateModel$State" "dish" "[I", .fieldLink RX1 28 "ChalkSlateModel$State" "kind" "[I"] ++ wsX10)
def wsX1_isTakenBack : List Cond := .code yX1_isTakenBack cX1_isTakenBack 3 (some .boolean) :: ([.fieldLink RX1 49 "ChalkSlateModel$State" "lines" "I", .fieldLink RX1 28 "ChalkSlateModel$State" "kind" "[I", .fieldLink RX1 40 "ChalkSlateModel$State" "takes" "[I"] ++ wsX10)
def wsX1_isKept : List Cond := .code yX1_isKept cX1_isKept 3 (some .boolean) :: ([.fieldLink RX1 25 "ChalkSlateModel$State" "dish" "[I", .fieldLink RX1 28 "ChalkSlateModel$State" "kind" "[I", .methodLink RX1 60 yX1_isTakenBack, .instanceMethod yX1_isTakenBack, .selects RX1 yX1_isTakenBack yX1_isTakenBack, .initialized RX1, .code yX1_isTakenBack cX1_isTakenBack 3 (some .boolean), .fieldLink RX1 49 "ChalkSlateModel$State" "lines" "I", .fieldLink RX1 40 "ChalkSlateModel$State" "takes" "[I"] ++ wsX10)
def wsX1_kept : List Cond := .code yX1_kept cX1_kept 4 (some .int) :: ([.fieldLink RX1 49 "ChalkSlateModel$State" "lines" "I", .methodLink RX1 64 yX1_isKept, .instanceMethod yX1_isKept, .selects RX1 yX1_isKept yX1_isKept, .initialized RX1, .code yX1_isKept cX1_isKept 3 (some .boolean), .fieldLink RX1 25 "ChalkSlateModel$State" "dish" "[I", .fieldLink RX1 28 "ChalkSlateModel$State" "kind" "[I", .methodLink RX1 60 yX1_isTakenBack, .instanceMethod yX1_isTakenBack, .selects RX1 yX1_isTakenBack yX1_isTakenBack, .code yX1_isTakenBack cX1_isTakenBack 3 (some .boolean), .fieldLink RX1 40 "ChalkSlateModel$State" "takes" "[I"] ++ wsX10)
def wsX1_room : List Cond := .code yX1_room cX1_room 3 (some .int) :: ([.fieldLink RX1 49 "ChalkSlateModel$State" "lines" "I", .fieldLink RX1 3 "ChalkSlateModel$State" "this$0" "LChalkSlateModel;", .methodLink RX1 71 yX1_is, .instanceMethod yX1_is, .selects RX1 yX1_is yX1_is, .initialized RX1, .code yX1_is cX1_is 4 (some .int), .fieldLink RX1 25 "ChalkSlateModel$State" "dish" "[I", .fieldLink RX1 28 "ChalkSlateModel$State" "kind" "[I", .methodLink RX1 75 yX1_kept, .instanceMethod yX1_kept, .selects RX1 yX1_kept yX1_kept, .code yX1_kept cX1_kept 4 (some .int), .methodLink RX1 64 yX1_isKept, .instanceMethod yX1_isKept, .selects RX1 yX1_isKept yX1_isKept, .code yX1_isKept cX1_isKept 3 (some .boolean), .methodLink RX1 60 yX1_isTakenBack, .instanceMethod yX1_isTakenBack, .selects RX1 yX1_isTakenBack yX1_isTakenBack, .code yX1_isTakenBack cX1_isTakenBack 3 (some .boolean), .fieldLink RX1 40 "ChalkSlateModel$State" "takes" "[I"] ++ wsX10 ++ wsX20)
def wsX1_isHeld : List Cond := .code yX1_isHeld cX1_isHeld 5 (some .boolean) :: ([.fieldLink RX1 49 "ChalkSlateModel$State" "lines" "I", .fieldLink RX1 25 "ChalkSlateModel$State" "dish" "[I", .fieldLink RX1 28 "ChalkSlateModel$State" "kind" "[I", .fieldLink RX1 31 "ChalkSlateModel$State" "pot" "[I", .methodLink RX1 71 yX1_is, .instanceMethod yX1_is, .selects RX1 yX1_is yX1_is, .initialized RX1, .code yX1_is cX1_is 4 (some .int)] ++ wsX10)
def wsX1_holder : List Cond := .code yX1_holder cX1_holder 3 (some .int) :: ([.fieldLink RX1 3 "ChalkSlateModel$State" "this$0" "LChalkSlateModel;", .methodLink RX1 78 yX1_isHeld, .instanceMethod yX1_isHeld, .selects RX1 yX1_isHeld yX1_isHeld, .initialized RX1, .code yX1_isHeld cX1_isHeld 5 (some .boolean), .fieldLink RX1 49 "ChalkSlateModel$State" "lines" "I", .fieldLink RX1 25 "ChalkSlateModel$State" "dish" "[I", .fieldLink RX1 28 "ChalkSlateModel$State" "kind" "[I", .fieldLink RX1 31 "ChalkSlateModel$State" "pot" "[I", .methodLink RX1 71 yX1_is, .instanceMethod yX1_is, .selects RX1 yX1_is yX1_is, .code yX1_is cX1_is 4 (some .int)] ++ wsX10 ++ wsX20)
def wsX1_latest : List Cond := .code yX1_latest cX1_latest 4 (some .int) :: ([.fieldLink RX1 49 "ChalkSlateModel$State" "lines" "I", .fieldLink RX1 31 "ChalkSlateModel$State" "pot" "[I"] ++ wsX10)
def wsX1_chalk : List Cond := .code yX1_chalk cX1_chalk 3 none :: ([.fieldLink RX1 25 "ChalkSlateModel$State" "dish" "[I", .fieldLink RX1 49 "ChalkSlateModel$State" "lines" "I", .fieldLink RX1 28 "ChalkSlateModel$State" "kind" "[I", .fieldLink RX1 31 "ChalkSlateModel$State" "pot" "[I", .fieldLink RX1 34 "ChalkSlateModel$State" "ahead" "[I", .fieldLink RX1 37 "ChalkSlateModel$State" "behind" "[I", .fieldLink RX1 40 "ChalkSlateModel$State" "takes" "[I"] ++ wsX10)
def wsX1_chalk_ : List Cond := .code yX1_chalk_ cX1_chalk_ 6 none :: ([.fieldLink RX1 31 "ChalkSlateModel$State" "pot" "[I", .fieldLink RX1 49 "ChalkSlateModel$State" "lines" "I", .fieldLink RX1 34 "ChalkSlateModel$State" "ahead" "[I", .fieldLink RX1 15 "ChalkSlateModel$State" "stove" "[I", .fieldLink RX1 37 "ChalkSlateModel$State" "behind" "[I", .fieldLink RX1 40 "ChalkSlateModel$State" "takes" "[I", .methodLink RX1 81 yX1_chalk, .instanceMethod yX1_chalk, .selects RX1 yX1_chalk yX1_chalk, .initialized RX1, .code yX1_chalk cX1_chalk 3 none, .fieldLink RX1 25 "ChalkSlateModel$State" "dish" "[I", .fieldLink RX1 28 "ChalkSlateModel$State" "kind" "[I"] ++ wsX10)
def wsX1_undo_r1 : List Cond := [Cond.fieldLink RX1 49 "ChalkSlateModel$State" "lines" "I", Cond.fieldLink RX1 31 "ChalkSlateModel$State" "pot" "[I", Cond.fieldLink RX1 34 "ChalkSlateModel$State" "ahead" "[I", Cond.methodLink RX1 64 yX1_isKept, Cond.instanceMethod yX1_isKept, Cond.selects RX1 yX1_isKept yX1_isKept, Cond.initialized RX1, Cond.code yX1_isKept cX1_isKept 3 (some .boolean), Cond.fieldLink RX1 25 "ChalkSlateModel$State" "dish" "[I", Cond.fieldLink RX1 28 "ChalkSlateModel$State" "kind" "[I", Cond.methodLink RX1 60 yX1_isTakenBack, Cond.instanceMethod yX1_isTakenBack, Cond.selects RX1 yX1_isTakenBack yX1_isTakenBack, Cond.code yX1_isTakenBack cX1_isTakenBack 3 (some .boolean), Cond.fieldLink RX1 40 "ChalkSlateModel$State" "takes" "[I", Cond.methodLink RX1 85 yX1_chalk_, Cond.instanceMethod yX1_chalk_, Cond.selects RX1 yX1_chalk_ yX1_chalk_, Cond.code yX1_chalk_ cX1_chalk_ 6 none, Cond.fieldLink RX1 15 "ChalkSlateModel$State" "stove" "[I", Cond.fieldLink RX1 37 "ChalkSlateModel$State" "behind" "[I", Cond.methodLink RX1 81 yX1_chalk, Cond.instanceMethod yX1_chalk, Cond.selects RX1 yX1_chalk yX1_chalk]
def wsX1_undo_r2 : List Cond := [Cond.code yX1_chalk cX1_chalk 3 none]
def wsX1_undo : List Cond := .code yX1_undo cX1_undo 4 (some .int) :: ((wsX1_undo_r1 ++ wsX1_undo_r2) ++ wsX10)
def wsX1_dries : List Cond := .code yX1_dries cX1_dries 3 (some .int) :: ([.fieldLink RX1 53 "ChalkSlateModel$State" "dry" "I", .methodLink RX1 88 Lib.Math.max.name, .static Lib.Math.max.name, .initialized "java/lang/Math", .code Lib.Math.max.name Lib.Math.max.code 2 (some .int)] ++ wsX10)
def wsX1_fall_r1 : List Cond := [Cond.fieldLink RX1 53 "ChalkSlateModel$State" "dry" "I", Cond.fieldLink RX1 49 "ChalkSlateModel$State" "lines" "I", Cond.fieldLink RX1 94 "ChalkSlateModel$State" "anew" "I", Cond.fieldLink RX1 97 "ChalkSlateModel$State" "first" "I", Cond.fieldLink RX1 100 "ChalkSlateModel$State" "back" "I", Cond.fieldLink RX1 15 "ChalkSlateModel$State" "stove" "[I", Cond.fieldLink RX1 19 "ChalkSlateModel$State" "shelf" "[I", Cond.fieldLink RX1 31 "ChalkSlateModel$State" "pot" "[I", Cond.fieldLink RX1 22 "ChalkSlateModel$State" "stamp" "[I", Cond.fieldLink RX1 37 "ChalkSlateModel$State" "behind" "[I", Cond.fieldLink RX1 3 "ChalkSlateModel$State" "this$0" "LChalkSlateModel;", Cond.methodLink RX1 71 yX1_is, Cond.instanceMethod yX1_is, Cond.selects RX1 yX1_is yX1_is, Cond.initialized RX1, Cond.code yX1_is cX1_is 4 (some .int), Cond.fieldLink RX1 25 "ChalkSlateModel$State" "dish" "[I", Cond.fieldLink RX1 28 "ChalkSlateModel$State" "kind" "[I", Cond.methodLink RX1 103 yX1_undo, Cond.instanceMethod yX1_undo, Cond.selects RX1 yX1_undo yX1_undo, Cond.code yX1_undo cX1_undo 4 (some .int), Cond.fieldLink RX1 34 "ChalkSlateModel$State" "ahead" "[I", Cond.methodLink RX1 64 yX1_isKept]
def wsX1_fall_r2 : List Cond := [Cond.instanceMethod yX1_isKept, Cond.selects RX1 yX1_isKept yX1_isKept, Cond.code yX1_isKept cX1_isKept 3 (some .boolean), Cond.methodLink RX1 60 yX1_isTakenBack, Cond.instanceMethod yX1_isTakenBack, Cond.selects RX1 yX1_isTakenBack yX1_isTakenBack, Cond.code yX1_isTakenBack cX1_isTakenBack 3 (some .boolean), Cond.fieldLink RX1 40 "ChalkSlateModel$State" "takes" "[I", Cond.methodLink RX1 85 yX1_chalk_, Cond.instanceMethod yX1_chalk_, Cond.selects RX1 yX1_chalk_ yX1_chalk_, Cond.code yX1_chalk_ cX1_chalk_ 6 none, Cond.methodLink RX1 81 yX1_chalk, Cond.instanceMethod yX1_chalk, Cond.selects RX1 yX1_chalk yX1_chalk, Cond.code yX1_chalk cX1_chalk 3 none]
def wsX1_fall : List Cond := .code yX1_fall cX1_fall 2 none :: ((wsX1_fall_r1 ++ wsX1_fall_r2) ++ wsX10 ++ wsX20)
def wsX1_are : List Cond := .code yX1_are cX1_are 4 (some .int) :: ([.fieldLink RX1 3 "ChalkSlateModel$State" "this$0" "LChalkSlateModel;", .methodLink RX1 71 yX1_is, .instanceMethod yX1_is, .selects RX1 yX1_is yX1_is, .initialized RX1, .code yX1_is cX1_is 4 (some .int), .fieldLink RX1 49 "ChalkSlateModel$State" "lines" "I", .fieldLink RX1 25 "ChalkSlateModel$State" "dish" "[I", .fieldLink RX1 28 "ChalkSlateModel$State" "kind" "[I"] ++ wsX10 ++ wsX20)
def wsX1_sum : List Cond := .code yX1_sum cX1_sum 7 (some .int) :: ([])
def wsX2_init : List Cond := .code yX2_init cX2_init 1 none :: ([.methodLink RX2 1 objectInit, .instanceMethod objectInit, .code objectInit ⟨#[0xb1]⟩ 1 none, .classLink RX2 7 RX1, .instantiable RX1 15, .initialized RX1, .fieldLink RX2 12 "ChalkSlateModel" "s" "LChalkSlateModel$State;", .fieldLink RX2 18 "ChalkSlateModel" "then" "LChalkSlateModel$State;", .methodLink RX2 9 yX1_init, .instanceMethod yX1_init, .code yX1_init cX1_init 3 none, .fieldLink RX1 3 "ChalkSlateModel$State" "this$0" "LChalkSlateModel;", .methodLink RX1 9 objectInit, .arrayClass .int, .fieldLink RX1 15 "ChalkSlateModel$State" "stove" "[I", .fieldLink RX1 19 "ChalkSlateModel$State" "shelf" "[I", .fieldLink RX1 22 "ChalkSlateModel$State" "stamp" "[I", .fieldLink RX1 25 "ChalkSlateModel$State" "dish" "[I", .fieldLink RX1 28 "ChalkSlateModel$State" "kind" "[I", .fieldLink RX1 31 "ChalkSlateModel$State" "pot" "[I", .fieldLink RX1 34 "ChalkSlateModel$State" "ahead" "[I", .fieldLink RX1 37 "ChalkSlateModel$State" "behind" "[I", .fieldLink RX1 40 "ChalkSlateModel$State" "takes" "[I"] ++ wsX10 ++ wsX20)
def wsX2_thrown : List Cond := .code yX2_thrown cX2_thrown 1 (some .int) :: ([.fieldLink RX2 21 "ChalkSlateModel" "thrown" "I"] ++ wsX20)
def wsX2_no : List Cond := .code yX2_no cX2_no 2 (some .int) :: ([.fieldLink RX2 21 "ChalkSlateModel" "thrown" "I"] ++ wsX20)
def wsX2_isIn : List Cond := .code yX2_isIn cX2_isIn 3 (some .boolean) :: ([])
def wsX2_isPot : List Cond := .code yX2_isPot cX2_isPot 1 (some .boolean) :: ([.methodLink RX2 25 yX2_isIn, .static yX2_isIn, .initialized RX2, .code yX2_isIn cX2_isIn 3 (some .boolean)])
def wsX2_isDish : List Cond := .code yX2_isDish cX2_isDish 2 (some .boolean) :: ([.fieldLink RX2 29 "ChalkSlateModel" "dishes" "I", .methodLink RX2 25 yX2_isIn, .static yX2_isIn, .initialized RX2, .code yX2_isIn cX2_isIn 3 (some .boolean)] ++ wsX20)
def wsX2_begin_r1 : List Cond := [Cond.fieldLink RX2 21 "ChalkSlateModel" "thrown" "I", Cond.fieldLink RX2 29 "ChalkSlateModel" "dishes" "I", Cond.fieldLink RX2 12 "ChalkSlateModel" "s" "LChalkSlateModel$State;", Cond.methodLink RX2 32 yX1_room, Cond.instanceMethod yX1_room, Cond.selects RX1 yX1_room yX1_room, Cond.initialized RX1, Cond.code yX1_room cX1_room 3 (some .int), Cond.fieldLink RX1 49 "ChalkSlateModel$State" "lines" "I", Cond.fieldLink RX1 3 "ChalkSlateModel$State" "this$0" "LChalkSlateModel;", Cond.methodLink RX1 71 yX1_is, Cond.instanceMethod yX1_is, Cond.selects RX1 yX1_is yX1_is, Cond.code yX1_is cX1_is 4 (some .int), Cond.fieldLink RX1 25 "ChalkSlateModel$State" "dish" "[I", Cond.fieldLink RX1 28 "ChalkSlateModel$State" "kind" "[I", Cond.methodLink RX1 75 yX1_kept, Cond.instanceMethod yX1_kept, Cond.selects RX1 yX1_kept yX1_kept, Cond.code yX1_kept cX1_kept 4 (some .int), Cond.methodLink RX1 64 yX1_isKept, Cond.instanceMethod yX1_isKept, Cond.selects RX1 yX1_isKept yX1_isKept, Cond.code yX1_isKept cX1_isKept 3 (some .boolean)]
def wsX2_begin_r2 : List Cond := [Cond.methodLink RX1 60 yX1_isTakenBack, Cond.instanceMethod yX1_isTakenBack, Cond.selects RX1 yX1_isTakenBack yX1_isTakenBack, Cond.code yX1_isTakenBack cX1_isTakenBack 3 (some .boolean), Cond.fieldLink RX1 40 "ChalkSlateModel$State" "takes" "[I", Cond.methodLink RX2 36 yX2_no, Cond.instanceMethod yX2_no, Cond.selects RX2 yX2_no yX2_no, Cond.initialized RX2, Cond.code yX2_no cX2_no 2 (some .int), Cond.methodLink RX2 40 yX1_chalk, Cond.instanceMethod yX1_chalk, Cond.selects RX1 yX1_chalk yX1_chalk, Cond.code yX1_chalk cX1_chalk 3 none, Cond.fieldLink RX1 31 "ChalkSlateModel$State" "pot" "[I", Cond.fieldLink RX1 34 "ChalkSlateModel$State" "ahead" "[I", Cond.fieldLink RX1 37 "ChalkSlateModel$State" "behind" "[I"]
def wsX2_begin : List Cond := .code yX2_begin cX2_begin 1 (some .int) :: ((wsX2_begin_r1 ++ wsX2_begin_r2) ++ wsX20 ++ wsX10)
def wsX2_cook_r1 : List Cond := [Cond.fieldLink RX2 21 "ChalkSlateModel" "thrown" "I", Cond.fieldLink RX2 12 "ChalkSlateModel" "s" "LChalkSlateModel$State;", Cond.methodLink RX2 44 yX2_isDish, Cond.instanceMethod yX2_isDish, Cond.selects RX2 yX2_isDish yX2_isDish, Cond.initialized RX2, Cond.code yX2_isDish cX2_isDish 2 (some .boolean), Cond.fieldLink RX2 29 "ChalkSlateModel" "dishes" "I", Cond.methodLink RX2 25 yX2_isIn, Cond.static yX2_isIn, Cond.code yX2_isIn cX2_isIn 3 (some .boolean), Cond.methodLink RX2 48 yX2_isPot, Cond.static yX2_isPot, Cond.code yX2_isPot cX2_isPot 1 (some .boolean), Cond.methodLink RX2 36 yX2_no, Cond.instanceMethod yX2_no, Cond.selects RX2 yX2_no yX2_no, Cond.code yX2_no cX2_no 2 (some .int), Cond.methodLink RX2 51 yX1_holder, Cond.instanceMethod yX1_holder, Cond.selects RX1 yX1_holder yX1_holder, Cond.initialized RX1, Cond.code yX1_holder cX1_holder 3 (some .int), Cond.fieldLink RX1 3 "ChalkSlateModel$State" "this$0" "LChalkSlateModel;"]
def wsX2_cook_r2 : List Cond := [Cond.methodLink RX1 78 yX1_isHeld, Cond.instanceMethod yX1_isHeld, Cond.selects RX1 yX1_isHeld yX1_isHeld, Cond.code yX1_isHeld cX1_isHeld 5 (some .boolean), Cond.fieldLink RX1 49 "ChalkSlateModel$State" "lines" "I", Cond.fieldLink RX1 25 "ChalkSlateModel$State" "dish" "[I", Cond.fieldLink RX1 28 "ChalkSlateModel$State" "kind" "[I", Cond.fieldLink RX1 31 "ChalkSlateModel$State" "pot" "[I", Cond.methodLink RX1 71 yX1_is, Cond.instanceMethod yX1_is, Cond.selects RX1 yX1_is yX1_is, Cond.code yX1_is cX1_is 4 (some .int), Cond.methodLink RX2 54 yX1_is, Cond.methodLink RX2 32 yX1_room, Cond.instanceMethod yX1_room, Cond.selects RX1 yX1_room yX1_room, Cond.code yX1_room cX1_room 3 (some .int), Cond.methodLink RX1 75 yX1_kept, Cond.instanceMethod yX1_kept, Cond.selects RX1 yX1_kept yX1_kept, Cond.code yX1_kept cX1_kept 4 (some .int), Cond.methodLink RX1 64 yX1_isKept, Cond.instanceMethod yX1_isKept, Cond.selects RX1 yX1_isKept yX1_isKept]
def wsX2_cook_r3 : List Cond := [Cond.code yX1_isKept cX1_isKept 3 (some .boolean), Cond.methodLink RX1 60 yX1_isTakenBack, Cond.instanceMethod yX1_isTakenBack, Cond.selects RX1 yX1_isTakenBack yX1_isTakenBack, Cond.code yX1_isTakenBack cX1_isTakenBack 3 (some .boolean), Cond.fieldLink RX1 40 "ChalkSlateModel$State" "takes" "[I", Cond.methodLink RX2 61 yX1_chalk_, Cond.instanceMethod yX1_chalk_, Cond.selects RX1 yX1_chalk_ yX1_chalk_, Cond.code yX1_chalk_ cX1_chalk_ 6 none, Cond.fieldLink RX1 34 "ChalkSlateModel$State" "ahead" "[I", Cond.fieldLink RX1 15 "ChalkSlateModel$State" "stove" "[I", Cond.fieldLink RX1 37 "ChalkSlateModel$State" "behind" "[I", Cond.methodLink RX1 81 yX1_chalk, Cond.instanceMethod yX1_chalk, Cond.selects RX1 yX1_chalk yX1_chalk, Cond.code yX1_chalk cX1_chalk 3 none]
def wsX2_cook : List Cond := .code yX2_cook cX2_cook 6 (some .int) :: ((wsX2_cook_r1 ++ (wsX2_cook_r2 ++ wsX2_cook_r3)) ++ wsX20 ++ wsX10)
def wsX2_finish_r1 : List Cond := [Cond.fieldLink RX2 21 "ChalkSlateModel" "thrown" "I", Cond.fieldLink RX2 12 "ChalkSlateModel" "s" "LChalkSlateModel$State;", Cond.methodLink RX2 44 yX2_isDish, Cond.instanceMethod yX2_isDish, Cond.selects RX2 yX2_isDish yX2_isDish, Cond.initialized RX2, Cond.code yX2_isDish cX2_isDish 2 (some .boolean), Cond.fieldLink RX2 29 "ChalkSlateModel" "dishes" "I", Cond.methodLink RX2 25 yX2_isIn, Cond.static yX2_isIn, Cond.code yX2_isIn cX2_isIn 3 (some .boolean), Cond.methodLink RX2 36 yX2_no, Cond.instanceMethod yX2_no, Cond.selects RX2 yX2_no yX2_no, Cond.code yX2_no cX2_no 2 (some .int), Cond.methodLink RX2 54 yX1_is, Cond.instanceMethod yX1_is, Cond.selects RX1 yX1_is yX1_is, Cond.initialized RX1, Cond.code yX1_is cX1_is 4 (some .int), Cond.fieldLink RX1 49 "ChalkSlateModel$State" "lines" "I", Cond.fieldLink RX1 25 "ChalkSlateModel$State" "dish" "[I", Cond.fieldLink RX1 28 "ChalkSlateModel$State" "kind" "[I", Cond.methodLink RX2 40 yX1_chalk]
def wsX2_finish_r2 : List Cond := [Cond.instanceMethod yX1_chalk, Cond.selects RX1 yX1_chalk yX1_chalk, Cond.code yX1_chalk cX1_chalk 3 none, Cond.fieldLink RX1 31 "ChalkSlateModel$State" "pot" "[I", Cond.fieldLink RX1 34 "ChalkSlateModel$State" "ahead" "[I", Cond.fieldLink RX1 37 "ChalkSlateModel$State" "behind" "[I", Cond.fieldLink RX1 40 "ChalkSlateModel$State" "takes" "[I", Cond.methodLink RX2 67 yX1_dries, Cond.instanceMethod yX1_dries, Cond.selects RX1 yX1_dries yX1_dries, Cond.code yX1_dries cX1_dries 3 (some .int), Cond.fieldLink RX1 53 "ChalkSlateModel$State" "dry" "I", Cond.methodLink RX1 88 Lib.Math.max.name, Cond.static Lib.Math.max.name, Cond.initialized "java/lang/Math", Cond.code Lib.Math.max.name Lib.Math.max.code 2 (some .int)]
def wsX2_finish : List Cond := .code yX2_finish cX2_finish 2 (some .int) :: ((wsX2_finish_r1 ++ wsX2_finish_r2) ++ wsX20 ++ wsX10)
def wsX2_drop_r1 : List Cond := [Cond.fieldLink RX2 21 "ChalkSlateModel" "thrown" "I", Cond.fieldLink RX2 12 "ChalkSlateModel" "s" "LChalkSlateModel$State;", Cond.methodLink RX2 44 yX2_isDish, Cond.instanceMethod yX2_isDish, Cond.selects RX2 yX2_isDish yX2_isDish, Cond.initialized RX2, Cond.code yX2_isDish cX2_isDish 2 (some .boolean), Cond.fieldLink RX2 29 "ChalkSlateModel" "dishes" "I", Cond.methodLink RX2 25 yX2_isIn, Cond.static yX2_isIn, Cond.code yX2_isIn cX2_isIn 3 (some .boolean), Cond.methodLink RX2 36 yX2_no, Cond.instanceMethod yX2_no, Cond.selects RX2 yX2_no yX2_no, Cond.code yX2_no cX2_no 2 (some .int), Cond.methodLink RX2 54 yX1_is, Cond.instanceMethod yX1_is, Cond.selects RX1 yX1_is yX1_is, Cond.initialized RX1, Cond.code yX1_is cX1_is 4 (some .int), Cond.fieldLink RX1 49 "ChalkSlateModel$State" "lines" "I", Cond.fieldLink RX1 25 "ChalkSlateModel$State" "dish" "[I", Cond.fieldLink RX1 28 "ChalkSlateModel$State" "kind" "[I", Cond.methodLink RX2 70 yX1_undo]
def wsX2_drop_r2 : List Cond := [Cond.instanceMethod yX1_undo, Cond.selects RX1 yX1_undo yX1_undo, Cond.code yX1_undo cX1_undo 4 (some .int), Cond.fieldLink RX1 31 "ChalkSlateModel$State" "pot" "[I", Cond.fieldLink RX1 34 "ChalkSlateModel$State" "ahead" "[I", Cond.methodLink RX1 64 yX1_isKept, Cond.instanceMethod yX1_isKept, Cond.selects RX1 yX1_isKept yX1_isKept, Cond.code yX1_isKept cX1_isKept 3 (some .boolean), Cond.methodLink RX1 60 yX1_isTakenBack, Cond.instanceMethod yX1_isTakenBack, Cond.selects RX1 yX1_isTakenBack yX1_isTakenBack, Cond.code yX1_isTakenBack cX1_isTakenBack 3 (some .boolean), Cond.fieldLink RX1 40 "ChalkSlateModel$State" "takes" "[I", Cond.methodLink RX1 85 yX1_chalk_, Cond.instanceMethod yX1_chalk_, Cond.selects RX1 yX1_chalk_ yX1_chalk_, Cond.code yX1_chalk_ cX1_chalk_ 6 none, Cond.fieldLink RX1 15 "ChalkSlateModel$State" "stove" "[I", Cond.fieldLink RX1 37 "ChalkSlateModel$State" "behind" "[I", Cond.methodLink RX1 81 yX1_chalk, Cond.instanceMethod yX1_chalk, Cond.selects RX1 yX1_chalk yX1_chalk, Cond.code yX1_chalk cX1_chalk 3 none]
def wsX2_drop : List Cond := .code yX2_drop cX2_drop 2 (some .int) :: ((wsX2_drop_r1 ++ wsX2_drop_r2) ++ wsX20 ++ wsX10)
def wsX2_shelve_r1 : List Cond := [Cond.fieldLink RX2 21 "ChalkSlateModel" "thrown" "I", Cond.fieldLink RX2 12 "ChalkSlateModel" "s" "LChalkSlateModel$State;", Cond.methodLink RX2 48 yX2_isPot, Cond.static yX2_isPot, Cond.initialized RX2, Cond.code yX2_isPot cX2_isPot 1 (some .boolean), Cond.methodLink RX2 25 yX2_isIn, Cond.static yX2_isIn, Cond.code yX2_isIn cX2_isIn 3 (some .boolean), Cond.methodLink RX2 36 yX2_no, Cond.instanceMethod yX2_no, Cond.selects RX2 yX2_no yX2_no, Cond.code yX2_no cX2_no 2 (some .int), Cond.methodLink RX2 73 yX1_latest, Cond.instanceMethod yX1_latest, Cond.selects RX1 yX1_latest yX1_latest, Cond.initialized RX1, Cond.code yX1_latest cX1_latest 4 (some .int), Cond.fieldLink RX1 49 "ChalkSlateModel$State" "lines" "I", Cond.fieldLink RX1 31 "ChalkSlateModel$State" "pot" "[I", Cond.methodLink RX2 67 yX1_dries, Cond.instanceMethod yX1_dries, Cond.selects RX1 yX1_dries yX1_dries, Cond.code yX1_dries cX1_dries 3 (some .int)]
def wsX2_shelve_r2 : List Cond := [Cond.fieldLink RX1 53 "ChalkSlateModel$State" "dry" "I", Cond.methodLink RX1 88 Lib.Math.max.name, Cond.static Lib.Math.max.name, Cond.initialized "java/lang/Math", Cond.code Lib.Math.max.name Lib.Math.max.code 2 (some .int)]
def wsX2_shelve : List Cond := .code yX2_shelve cX2_shelve 3 (some .int) :: ((wsX2_shelve_r1 ++ wsX2_shelve_r2) ++ wsX20 ++ wsX10)
def wsX2_blow : List Cond := .code yX2_blow cX2_blow 1 (some .int) :: ([.fieldLink RX2 21 "ChalkSlateModel" "thrown" "I", .fieldLink RX2 12 "ChalkSlateModel" "s" "LChalkSlateModel$State;", .methodLink RX2 67 yX1_dries, .instanceMethod yX1_dries, .selects RX1 yX1_dries yX1_dries, .initialized RX1, .code yX1_dries cX1_dries 3 (some .int), .fieldLink RX1 53 "ChalkSlateModel$State" "dry" "I", .methodLink RX1 88 Lib.Math.max.name, .static Lib.Math.max.name, .initialized "java/lang/Math", .code Lib.Math.max.name Lib.Math.max.code 2 (some .int)] ++ wsX20 ++ wsX10)
def wsX2_fall_r1 : List Cond := [Cond.fieldLink RX2 21 "ChalkSlateModel" "thrown" "I", Cond.fieldLink RX2 12 "ChalkSlateModel" "s" "LChalkSlateModel$State;", Cond.fieldLink RX2 85 "ChalkSlateModel" "falls" "I", Cond.methodLink RX2 82 yX1_fall, Cond.instanceMethod yX1_fall, Cond.selects RX1 yX1_fall yX1_fall, Cond.initialized RX1, Cond.code yX1_fall cX1_fall 2 none, Cond.fieldLink RX1 53 "ChalkSlateModel$State" "dry" "I", Cond.fieldLink RX1 49 "ChalkSlateModel$State" "lines" "I", Cond.fieldLink RX1 94 "ChalkSlateModel$State" "anew" "I", Cond.fieldLink RX1 97 "ChalkSlateModel$State" "first" "I", Cond.fieldLink RX1 100 "ChalkSlateModel$State" "back" "I", Cond.fieldLink RX1 15 "ChalkSlateModel$State" "stove" "[I", Cond.fieldLink RX1 19 "ChalkSlateModel$State" "shelf" "[I", Cond.fieldLink RX1 31 "ChalkSlateModel$State" "pot" "[I", Cond.fieldLink RX1 22 "ChalkSlateModel$State" "stamp" "[I", Cond.fieldLink RX1 37 "ChalkSlateModel$State" "behind" "[I", Cond.fieldLink RX1 3 "ChalkSlateModel$State" "this$0" "LChalkSlateModel;", Cond.methodLink RX1 71 yX1_is, Cond.instanceMethod yX1_is, Cond.selects RX1 yX1_is yX1_is, Cond.code yX1_is cX1_is 4 (some .int), Cond.fieldLink RX1 25 "ChalkSlateModel$State" "dish" "[I"]
def wsX2_fall_r2 : List Cond := [Cond.fieldLink RX1 28 "ChalkSlateModel$State" "kind" "[I", Cond.methodLink RX1 103 yX1_undo, Cond.instanceMethod yX1_undo, Cond.selects RX1 yX1_undo yX1_undo, Cond.code yX1_undo cX1_undo 4 (some .int), Cond.fieldLink RX1 34 "ChalkSlateModel$State" "ahead" "[I", Cond.methodLink RX1 64 yX1_isKept, Cond.instanceMethod yX1_isKept, Cond.selects RX1 yX1_isKept yX1_isKept, Cond.code yX1_isKept cX1_isKept 3 (some .boolean), Cond.methodLink RX1 60 yX1_isTakenBack, Cond.instanceMethod yX1_isTakenBack, Cond.selects RX1 yX1_isTakenBack yX1_isTakenBack, Cond.code yX1_isTakenBack cX1_isTakenBack 3 (some .boolean), Cond.fieldLink RX1 40 "ChalkSlateModel$State" "takes" "[I", Cond.methodLink RX1 85 yX1_chalk_, Cond.instanceMethod yX1_chalk_, Cond.selects RX1 yX1_chalk_ yX1_chalk_, Cond.code yX1_chalk_ cX1_chalk_ 6 none, Cond.methodLink RX1 81 yX1_chalk, Cond.instanceMethod yX1_chalk, Cond.selects RX1 yX1_chalk yX1_chalk, Cond.code yX1_chalk cX1_chalk 3 none]
def wsX2_fall : List Cond := .code yX2_fall cX2_fall 1 (some .int) :: ((wsX2_fall_r1 ++ wsX2_fall_r2) ++ wsX20 ++ wsX10)
def wsX2_potTold : List Cond := .code yX2_potTold cX2_potTold 4 (some .int) :: ([.arrayClass .int, .fieldLink RX2 12 "ChalkSlateModel" "s" "LChalkSlateModel$State;", .methodLink RX2 51 yX1_holder, .instanceMethod yX1_holder, .selects RX1 yX1_holder yX1_holder, .initialized RX1, .code yX1_holder cX1_holder 3 (some .int), .fieldLink RX1 3 "ChalkSlateModel$State" "this$0" "LChalkSlateModel;", .methodLink RX1 78 yX1_isHeld, .instanceMethod yX1_isHeld, .selects RX1 yX1_isHeld yX1_isHeld, .code yX1_isHeld cX1_isHeld 5 (some .boolean), .fieldLink RX1 49 "ChalkSlateModel$State" "lines" "I", .fieldLink RX1 25 "ChalkSlateModel$State" "dish" "[I", .fieldLink RX1 28 "ChalkSlateModel$State" "kind" "[I", .fieldLink RX1 31 "ChalkSlateModel$State" "pot" "[I", .methodLink RX1 71 yX1_is, .instanceMethod yX1_is, .selects RX1 yX1_is yX1_is, .code yX1_is cX1_is 4 (some .int), .methodLink RX2 73 yX1_latest, .instanceMethod yX1_latest, .selects RX1 yX1_latest yX1_latest, .code yX1_latest cX1_latest 4 (some .int)] ++ wsX20 ++ wsX10)
def wsX2_pot_r1 : List Cond := [Cond.fieldLink RX2 21 "ChalkSlateModel" "thrown" "I", Cond.methodLink RX2 48 yX2_isPot, Cond.static yX2_isPot, Cond.initialized RX2, Cond.code yX2_isPot cX2_isPot 1 (some .boolean), Cond.methodLink RX2 25 yX2_isIn, Cond.static yX2_isIn, Cond.code yX2_isIn cX2_isIn 3 (some .boolean), Cond.methodLink RX2 91 yX2_potTold, Cond.instanceMethod yX2_potTold, Cond.selects RX2 yX2_potTold yX2_potTold, Cond.code yX2_potTold cX2_potTold 4 (some .int), Cond.arrayClass .int, Cond.fieldLink RX2 12 "ChalkSlateModel" "s" "LChalkSlateModel$State;", Cond.methodLink RX2 51 yX1_holder, Cond.instanceMethod yX1_holder, Cond.selects RX1 yX1_holder yX1_holder, Cond.initialized RX1, Cond.code yX1_holder cX1_holder 3 (some .int), Cond.fieldLink RX1 3 "ChalkSlateModel$State" "this$0" "LChalkSlateModel;", Cond.methodLink RX1 78 yX1_isHeld, Cond.instanceMethod yX1_isHeld, Cond.selects RX1 yX1_isHeld yX1_isHeld, Cond.code yX1_isHeld cX1_isHeld 5 (some .boolean)]
def wsX2_pot_r2 : List Cond := [Cond.fieldLink RX1 49 "ChalkSlateModel$State" "lines" "I", Cond.fieldLink RX1 25 "ChalkSlateModel$State" "dish" "[I", Cond.fieldLink RX1 28 "ChalkSlateModel$State" "kind" "[I", Cond.fieldLink RX1 31 "ChalkSlateModel$State" "pot" "[I", Cond.methodLink RX1 71 yX1_is, Cond.instanceMethod yX1_is, Cond.selects RX1 yX1_is yX1_is, Cond.code yX1_is cX1_is 4 (some .int), Cond.methodLink RX2 73 yX1_latest, Cond.instanceMethod yX1_latest, Cond.selects RX1 yX1_latest yX1_latest, Cond.code yX1_latest cX1_latest 4 (some .int), Cond.methodLink RX2 36 yX2_no, Cond.instanceMethod yX2_no, Cond.selects RX2 yX2_no yX2_no, Cond.code yX2_no cX2_no 2 (some .int)]
def wsX2_pot : List Cond := .code yX2_pot cX2_pot 3 (some .int) :: ((wsX2_pot_r1 ++ wsX2_pot_r2) ++ wsX20 ++ wsX10)
def wsX2_dishTold_r1 : List Cond := [Cond.fieldLink RX2 12 "ChalkSlateModel" "s" "LChalkSlateModel$State;", Cond.arrayClass .int, Cond.methodLink RX2 98 yX1_isHeld, Cond.instanceMethod yX1_isHeld, Cond.selects RX1 yX1_isHeld yX1_isHeld, Cond.initialized RX1, Cond.code yX1_isHeld cX1_isHeld 5 (some .boolean), Cond.fieldLink RX1 49 "ChalkSlateModel$State" "lines" "I", Cond.fieldLink RX1 25 "ChalkSlateModel$State" "dish" "[I", Cond.fieldLink RX1 28 "ChalkSlateModel$State" "kind" "[I", Cond.fieldLink RX1 31 "ChalkSlateModel$State" "pot" "[I", Cond.methodLink RX1 71 yX1_is, Cond.instanceMethod yX1_is, Cond.selects RX1 yX1_is yX1_is, Cond.code yX1_is cX1_is 4 (some .int), Cond.methodLink RX2 54 yX1_is, Cond.methodLink RX2 102 yX1_kept, Cond.instanceMethod yX1_kept, Cond.selects RX1 yX1_kept yX1_kept, Cond.code yX1_kept cX1_kept 4 (some .int), Cond.methodLink RX1 64 yX1_isKept, Cond.instanceMethod yX1_isKept, Cond.selects RX1 yX1_isKept yX1_isKept, Cond.code yX1_isKept cX1_isKept 3 (some .boolean)]
def wsX2_dishTold_r2 : List Cond := [Cond.methodLink RX1 60 yX1_isTakenBack, Cond.instanceMethod yX1_isTakenBack, Cond.selects RX1 yX1_isTakenBack yX1_isTakenBack, Cond.code yX1_isTakenBack cX1_isTakenBack 3 (some .boolean), Cond.fieldLink RX1 40 "ChalkSlateModel$State" "takes" "[I"]
def wsX2_dishTold : List Cond := .code yX2_dishTold cX2_dishTold 7 (some .int) :: ((wsX2_dishTold_r1 ++ wsX2_dishTold_r2) ++ wsX20 ++ wsX10)
def wsX2_dish_r1 : List Cond := [Cond.fieldLink RX2 21 "ChalkSlateModel" "thrown" "I", Cond.methodLink RX2 44 yX2_isDish, Cond.instanceMethod yX2_isDish, Cond.selects RX2 yX2_isDish yX2_isDish, Cond.initialized RX2, Cond.code yX2_isDish cX2_isDish 2 (some .boolean), Cond.fieldLink RX2 29 "ChalkSlateModel" "dishes" "I", Cond.methodLink RX2 25 yX2_isIn, Cond.static yX2_isIn, Cond.code yX2_isIn cX2_isIn 3 (some .boolean), Cond.methodLink RX2 105 yX2_dishTold, Cond.instanceMethod yX2_dishTold, Cond.selects RX2 yX2_dishTold yX2_dishTold, Cond.code yX2_dishTold cX2_dishTold 7 (some .int), Cond.fieldLink RX2 12 "ChalkSlateModel" "s" "LChalkSlateModel$State;", Cond.arrayClass .int, Cond.methodLink RX2 98 yX1_isHeld, Cond.instanceMethod yX1_isHeld, Cond.selects RX1 yX1_isHeld yX1_isHeld, Cond.initialized RX1, Cond.code yX1_isHeld cX1_isHeld 5 (some .boolean), Cond.fieldLink RX1 49 "ChalkSlateModel$State" "lines" "I", Cond.fieldLink RX1 25 "ChalkSlateModel$State" "dish" "[I", Cond.fieldLink RX1 28 "ChalkSlateModel$State" "kind" "[I"]
def wsX2_dish_r2 : List Cond := [Cond.fieldLink RX1 31 "ChalkSlateModel$State" "pot" "[I", Cond.methodLink RX1 71 yX1_is, Cond.instanceMethod yX1_is, Cond.selects RX1 yX1_is yX1_is, Cond.code yX1_is cX1_is 4 (some .int), Cond.methodLink RX2 54 yX1_is, Cond.methodLink RX2 102 yX1_kept, Cond.instanceMethod yX1_kept, Cond.selects RX1 yX1_kept yX1_kept, Cond.code yX1_kept cX1_kept 4 (some .int), Cond.methodLink RX1 64 yX1_isKept, Cond.instanceMethod yX1_isKept, Cond.selects RX1 yX1_isKept yX1_isKept, Cond.code yX1_isKept cX1_isKept 3 (some .boolean), Cond.methodLink RX1 60 yX1_isTakenBack, Cond.instanceMethod yX1_isTakenBack, Cond.selects RX1 yX1_isTakenBack yX1_isTakenBack, Cond.code yX1_isTakenBack cX1_isTakenBack 3 (some .boolean), Cond.fieldLink RX1 40 "ChalkSlateModel$State" "takes" "[I", Cond.methodLink RX2 36 yX2_no, Cond.instanceMethod yX2_no, Cond.selects RX2 yX2_no yX2_no, Cond.code yX2_no cX2_no 2 (some .int)]
def wsX2_dish : List Cond := .code yX2_dish cX2_dish 3 (some .int) :: ((wsX2_dish_r1 ++ wsX2_dish_r2) ++ wsX20 ++ wsX10)
def wsX2_lineTold : List Cond := .code yX2_lineTold cX2_lineTold 4 (some .int) :: ([.arrayClass .int, .fieldLink RX2 12 "ChalkSlateModel" "s" "LChalkSlateModel$State;"] ++ wsX20 ++ wsX10)
def wsX2_line : List Cond := .code yX2_line cX2_line 3 (some .int) :: ([.fieldLink RX2 21 "ChalkSlateModel" "thrown" "I", .fieldLink RX2 12 "ChalkSlateModel" "s" "LChalkSlateModel$State;", .methodLink RX2 25 yX2_isIn, .static yX2_isIn, .initialized RX2, .code yX2_isIn cX2_isIn 3 (some .boolean), .methodLink RX2 126 yX2_lineTold, .instanceMethod yX2_lineTold, .selects RX2 yX2_lineTold yX2_lineTold, .code yX2_lineTold cX2_lineTold 4 (some .int), .arrayClass .int, .methodLink RX2 36 yX2_no, .instanceMethod yX2_no, .selects RX2 yX2_no yX2_no, .code yX2_no cX2_no 2 (some .int)] ++ wsX20 ++ wsX10)
def wsX2_counted_r1 : List Cond := [Cond.fieldLink RX2 12 "ChalkSlateModel" "s" "LChalkSlateModel$State;", Cond.fieldLink RX2 29 "ChalkSlateModel" "dishes" "I", Cond.fieldLink RX2 85 "ChalkSlateModel" "falls" "I", Cond.methodLink RX2 129 yX1_are, Cond.instanceMethod yX1_are, Cond.selects RX1 yX1_are yX1_are, Cond.initialized RX1, Cond.code yX1_are cX1_are 4 (some .int), Cond.fieldLink RX1 3 "ChalkSlateModel$State" "this$0" "LChalkSlateModel;", Cond.methodLink RX1 71 yX1_is, Cond.instanceMethod yX1_is, Cond.selects RX1 yX1_is yX1_is, Cond.code yX1_is cX1_is 4 (some .int), Cond.fieldLink RX1 49 "ChalkSlateModel$State" "lines" "I", Cond.fieldLink RX1 25 "ChalkSlateModel$State" "dish" "[I", Cond.fieldLink RX1 28 "ChalkSlateModel$State" "kind" "[I", Cond.methodLink RX2 32 yX1_room, Cond.instanceMethod yX1_room, Cond.selects RX1 yX1_room yX1_room, Cond.code yX1_room cX1_room 3 (some .int), Cond.methodLink RX1 75 yX1_kept, Cond.instanceMethod yX1_kept, Cond.selects RX1 yX1_kept yX1_kept, Cond.code yX1_kept cX1_kept 4 (some .int)]
def wsX2_counted_r2 : List Cond := [Cond.methodLink RX1 64 yX1_isKept, Cond.instanceMethod yX1_isKept, Cond.selects RX1 yX1_isKept yX1_isKept, Cond.code yX1_isKept cX1_isKept 3 (some .boolean), Cond.methodLink RX1 60 yX1_isTakenBack, Cond.instanceMethod yX1_isTakenBack, Cond.selects RX1 yX1_isTakenBack yX1_isTakenBack, Cond.code yX1_isTakenBack cX1_isTakenBack 3 (some .boolean), Cond.fieldLink RX1 40 "ChalkSlateModel$State" "takes" "[I", Cond.methodLink RX2 132 yX1_sum, Cond.instanceMethod yX1_sum, Cond.selects RX1 yX1_sum yX1_sum, Cond.code yX1_sum cX1_sum 7 (some .int)]
def wsX2_counted : List Cond := .code yX2_counted cX2_counted 2 (some .int) :: ((wsX2_counted_r1 ++ wsX2_counted_r2) ++ wsX20 ++ wsX10)
def wsX2_count_r1 : List Cond := [Cond.fieldLink RX2 21 "ChalkSlateModel" "thrown" "I", Cond.methodLink RX2 25 yX2_isIn, Cond.static yX2_isIn, Cond.initialized RX2, Cond.code yX2_isIn cX2_isIn 3 (some .boolean), Cond.methodLink RX2 136 yX2_counted, Cond.instanceMethod yX2_counted, Cond.selects RX2 yX2_counted yX2_counted, Cond.code yX2_counted cX2_counted 2 (some .int), Cond.fieldLink RX2 12 "ChalkSlateModel" "s" "LChalkSlateModel$State;", Cond.fieldLink RX2 29 "ChalkSlateModel" "dishes" "I", Cond.fieldLink RX2 85 "ChalkSlateModel" "falls" "I", Cond.methodLink RX2 129 yX1_are, Cond.instanceMethod yX1_are, Cond.selects RX1 yX1_are yX1_are, Cond.initialized RX1, Cond.code yX1_are cX1_are 4 (some .int), Cond.fieldLink RX1 3 "ChalkSlateModel$State" "this$0" "LChalkSlateModel;", Cond.methodLink RX1 71 yX1_is, Cond.instanceMethod yX1_is, Cond.selects RX1 yX1_is yX1_is, Cond.code yX1_is cX1_is 4 (some .int), Cond.fieldLink RX1 49 "ChalkSlateModel$State" "lines" "I", Cond.fieldLink RX1 25 "ChalkSlateModel$State" "dish" "[I"]
def wsX2_count_r2 : List Cond := [Cond.fieldLink RX1 28 "ChalkSlateModel$State" "kind" "[I", Cond.methodLink RX2 32 yX1_room, Cond.instanceMethod yX1_room, Cond.selects RX1 yX1_room yX1_room, Cond.code yX1_room cX1_room 3 (some .int), Cond.methodLink RX1 75 yX1_kept, Cond.instanceMethod yX1_kept, Cond.selects RX1 yX1_kept yX1_kept, Cond.code yX1_kept cX1_kept 4 (some .int), Cond.methodLink RX1 64 yX1_isKept, Cond.instanceMethod yX1_isKept, Cond.selects RX1 yX1_isKept yX1_isKept, Cond.code yX1_isKept cX1_isKept 3 (some .boolean), Cond.methodLink RX1 60 yX1_isTakenBack, Cond.instanceMethod yX1_isTakenBack, Cond.selects RX1 yX1_isTakenBack yX1_isTakenBack, Cond.code yX1_isTakenBack cX1_isTakenBack 3 (some .boolean), Cond.fieldLink RX1 40 "ChalkSlateModel$State" "takes" "[I", Cond.methodLink RX2 132 yX1_sum, Cond.instanceMethod yX1_sum, Cond.selects RX1 yX1_sum yX1_sum, Cond.code yX1_sum cX1_sum 7 (some .int), Cond.methodLink RX2 36 yX2_no, Cond.instanceMethod yX2_no]
def wsX2_count_r3 : List Cond := [Cond.selects RX2 yX2_no yX2_no, Cond.code yX2_no cX2_no 2 (some .int)]
def wsX2_count : List Cond := .code yX2_count cX2_count 2 (some .int) :: ((wsX2_count_r1 ++ (wsX2_count_r2 ++ wsX2_count_r3)) ++ wsX20 ++ wsX10)
def wsX2_would_r1 : List Cond := [Cond.fieldLink RX2 21 "ChalkSlateModel" "thrown" "I", Cond.fieldLink RX2 18 "ChalkSlateModel" "then" "LChalkSlateModel$State;", Cond.fieldLink RX2 12 "ChalkSlateModel" "s" "LChalkSlateModel$State;", Cond.arrayClass .int, Cond.methodLink RX2 25 yX2_isIn, Cond.static yX2_isIn, Cond.initialized RX2, Cond.code yX2_isIn cX2_isIn 3 (some .boolean), Cond.methodLink RX2 36 yX2_no, Cond.instanceMethod yX2_no, Cond.selects RX2 yX2_no yX2_no, Cond.code yX2_no cX2_no 2 (some .int), Cond.methodLink RX2 139 yX1_become, Cond.instanceMethod yX1_become, Cond.selects RX1 yX1_become yX1_become, Cond.initialized RX1, Cond.code yX1_become cX1_become 2 none, Cond.fieldLink RX1 49 "ChalkSlateModel$State" "lines" "I", Cond.fieldLink RX1 53 "ChalkSlateModel$State" "dry" "I", Cond.fieldLink RX1 15 "ChalkSlateModel$State" "stove" "[I", Cond.fieldLink RX1 19 "ChalkSlateModel$State" "shelf" "[I", Cond.fieldLink RX1 22 "ChalkSlateModel$State" "stamp" "[I", Cond.fieldLink RX1 25 "ChalkSlateModel$State" "dish" "[I", Cond.fieldLink RX1 28 "ChalkSlateModel$State" "kind" "[I"]
def wsX2_would_r2 : List Cond := [Cond.fieldLink RX1 31 "ChalkSlateModel$State" "pot" "[I", Cond.fieldLink RX1 34 "ChalkSlateModel$State" "ahead" "[I", Cond.fieldLink RX1 37 "ChalkSlateModel$State" "behind" "[I", Cond.fieldLink RX1 40 "ChalkSlateModel$State" "takes" "[I", Cond.methodLink RX1 56 yX1_copy, Cond.instanceMethod yX1_copy, Cond.selects RX1 yX1_copy yX1_copy, Cond.code yX1_copy cX1_copy 3 none, Cond.methodLink RX1 43 arraycopyName, Cond.native arraycopyName, Cond.static arraycopyName, Cond.initialized "java/lang/System", Cond.methodLink RX2 82 yX1_fall, Cond.instanceMethod yX1_fall, Cond.selects RX1 yX1_fall yX1_fall, Cond.code yX1_fall cX1_fall 2 none, Cond.fieldLink RX1 94 "ChalkSlateModel$State" "anew" "I", Cond.fieldLink RX1 97 "ChalkSlateModel$State" "first" "I", Cond.fieldLink RX1 100 "ChalkSlateModel$State" "back" "I", Cond.fieldLink RX1 3 "ChalkSlateModel$State" "this$0" "LChalkSlateModel;", Cond.methodLink RX1 71 yX1_is, Cond.instanceMethod yX1_is, Cond.selects RX1 yX1_is yX1_is, Cond.code yX1_is cX1_is 4 (some .int)]
def wsX2_would_r3 : List Cond := [Cond.methodLink RX1 103 yX1_undo, Cond.instanceMethod yX1_undo, Cond.selects RX1 yX1_undo yX1_undo, Cond.code yX1_undo cX1_undo 4 (some .int), Cond.methodLink RX1 64 yX1_isKept, Cond.instanceMethod yX1_isKept, Cond.selects RX1 yX1_isKept yX1_isKept, Cond.code yX1_isKept cX1_isKept 3 (some .boolean), Cond.methodLink RX1 60 yX1_isTakenBack, Cond.instanceMethod yX1_isTakenBack, Cond.selects RX1 yX1_isTakenBack yX1_isTakenBack, Cond.code yX1_isTakenBack cX1_isTakenBack 3 (some .boolean), Cond.methodLink RX1 85 yX1_chalk_, Cond.instanceMethod yX1_chalk_, Cond.selects RX1 yX1_chalk_ yX1_chalk_, Cond.code yX1_chalk_ cX1_chalk_ 6 none, Cond.methodLink RX1 81 yX1_chalk, Cond.instanceMethod yX1_chalk, Cond.selects RX1 yX1_chalk yX1_chalk, Cond.code yX1_chalk cX1_chalk 3 none, Cond.methodLink RX2 129 yX1_are, Cond.instanceMethod yX1_are, Cond.selects RX1 yX1_are yX1_are, Cond.code yX1_are cX1_are 4 (some .int)]
def wsX2_would : List Cond := .code yX2_would cX2_would 3 (some .int) :: ((wsX2_would_r1 ++ (wsX2_would_r2 ++ wsX2_would_r3)) ++ wsX20 ++ wsX10)
def wsX2_left_r1 : List Cond := [Cond.fieldLink RX2 21 "ChalkSlateModel" "thrown" "I", Cond.fieldLink RX2 18 "ChalkSlateModel" "then" "LChalkSlateModel$State;", Cond.fieldLink RX2 12 "ChalkSlateModel" "s" "LChalkSlateModel$State;", Cond.methodLink RX2 48 yX2_isPot, Cond.static yX2_isPot, Cond.initialized RX2, Cond.code yX2_isPot cX2_isPot 1 (some .boolean), Cond.methodLink RX2 25 yX2_isIn, Cond.static yX2_isIn, Cond.code yX2_isIn cX2_isIn 3 (some .boolean), Cond.methodLink RX2 36 yX2_no, Cond.instanceMethod yX2_no, Cond.selects RX2 yX2_no yX2_no, Cond.code yX2_no cX2_no 2 (some .int), Cond.methodLink RX2 139 yX1_become, Cond.instanceMethod yX1_become, Cond.selects RX1 yX1_become yX1_become, Cond.initialized RX1, Cond.code yX1_become cX1_become 2 none, Cond.fieldLink RX1 49 "ChalkSlateModel$State" "lines" "I", Cond.fieldLink RX1 53 "ChalkSlateModel$State" "dry" "I", Cond.fieldLink RX1 15 "ChalkSlateModel$State" "stove" "[I", Cond.fieldLink RX1 19 "ChalkSlateModel$State" "shelf" "[I", Cond.fieldLink RX1 22 "ChalkSlateModel$State" "stamp" "[I"]
def wsX2_left_r2 : List Cond := [Cond.fieldLink RX1 25 "ChalkSlateModel$State" "dish" "[I", Cond.fieldLink RX1 28 "ChalkSlateModel$State" "kind" "[I", Cond.fieldLink RX1 31 "ChalkSlateModel$State" "pot" "[I", Cond.fieldLink RX1 34 "ChalkSlateModel$State" "ahead" "[I", Cond.fieldLink RX1 37 "ChalkSlateModel$State" "behind" "[I", Cond.fieldLink RX1 40 "ChalkSlateModel$State" "takes" "[I", Cond.methodLink RX1 56 yX1_copy, Cond.instanceMethod yX1_copy, Cond.selects RX1 yX1_copy yX1_copy, Cond.code yX1_copy cX1_copy 3 none, Cond.methodLink RX1 43 arraycopyName, Cond.native arraycopyName, Cond.static arraycopyName, Cond.initialized "java/lang/System", Cond.methodLink RX2 82 yX1_fall, Cond.instanceMethod yX1_fall, Cond.selects RX1 yX1_fall yX1_fall, Cond.code yX1_fall cX1_fall 2 none, Cond.fieldLink RX1 94 "ChalkSlateModel$State" "anew" "I", Cond.fieldLink RX1 97 "ChalkSlateModel$State" "first" "I", Cond.fieldLink RX1 100 "ChalkSlateModel$State" "back" "I", Cond.fieldLink RX1 3 "ChalkSlateModel$State" "this$0" "LChalkSlateModel;", Cond.methodLink RX1 71 yX1_is, Cond.instanceMethod yX1_is]
def wsX2_left_r3 : List Cond := [Cond.selects RX1 yX1_is yX1_is, Cond.code yX1_is cX1_is 4 (some .int), Cond.methodLink RX1 103 yX1_undo, Cond.instanceMethod yX1_undo, Cond.selects RX1 yX1_undo yX1_undo, Cond.code yX1_undo cX1_undo 4 (some .int), Cond.methodLink RX1 64 yX1_isKept, Cond.instanceMethod yX1_isKept, Cond.selects RX1 yX1_isKept yX1_isKept, Cond.code yX1_isKept cX1_isKept 3 (some .boolean), Cond.methodLink RX1 60 yX1_isTakenBack, Cond.instanceMethod yX1_isTakenBack, Cond.selects RX1 yX1_isTakenBack yX1_isTakenBack, Cond.code yX1_isTakenBack cX1_isTakenBack 3 (some .boolean), Cond.methodLink RX1 85 yX1_chalk_, Cond.instanceMethod yX1_chalk_, Cond.selects RX1 yX1_chalk_ yX1_chalk_, Cond.code yX1_chalk_ cX1_chalk_ 6 none, Cond.methodLink RX1 81 yX1_chalk, Cond.instanceMethod yX1_chalk, Cond.selects RX1 yX1_chalk yX1_chalk, Cond.code yX1_chalk cX1_chalk 3 none]
def wsX2_left : List Cond := .code yX2_left cX2_left 2 (some .int) :: ((wsX2_left_r1 ++ (wsX2_left_r2 ++ wsX2_left_r3)) ++ wsX20 ++ wsX10)
def wsX2_mean : List Cond := .code yX2_mean cX2_mean 1 (some .double) :: ([.fieldLink RX2 21 "ChalkSlateModel" "thrown" "I", .fieldLink RX2 12 "ChalkSlateModel" "s" "LChalkSlateModel$State;", .constantDouble RX2 149 (4620693217682128896), .methodLink RX2 132 yX1_sum, .instanceMethod yX1_sum, .selects RX1 yX1_sum yX1_sum, .initialized RX1, .code yX1_sum cX1_sum 7 (some .int)] ++ wsX20 ++ wsX10)
def wsX2_digest_r1 : List Cond := [Cond.fieldLink RX2 21 "ChalkSlateModel" "thrown" "I", Cond.constantLong RX2 151 (1291), Cond.constantLong RX2 153 (31), Cond.fieldLink RX2 29 "ChalkSlateModel" "dishes" "I", Cond.fieldLink RX2 12 "ChalkSlateModel" "s" "LChalkSlateModel$State;", Cond.methodLink RX2 136 yX2_counted, Cond.instanceMethod yX2_counted, Cond.selects RX2 yX2_counted yX2_counted, Cond.initialized RX2, Cond.code yX2_counted cX2_counted 2 (some .int), Cond.fieldLink RX2 85 "ChalkSlateModel" "falls" "I", Cond.methodLink RX2 129 yX1_are, Cond.instanceMethod yX1_are, Cond.selects RX1 yX1_are yX1_are, Cond.initialized RX1, Cond.code yX1_are cX1_are 4 (some .int), Cond.fieldLink RX1 3 "ChalkSlateModel$State" "this$0" "LChalkSlateModel;", Cond.methodLink RX1 71 yX1_is, Cond.instanceMethod yX1_is, Cond.selects RX1 yX1_is yX1_is, Cond.code yX1_is cX1_is 4 (some .int), Cond.fieldLink RX1 49 "ChalkSlateModel$State" "lines" "I", Cond.fieldLink RX1 25 "ChalkSlateModel$State" "dish" "[I", Cond.fieldLink RX1 28 "ChalkSlateModel$State" "kind" "[I"]
def wsX2_digest_r2 : List Cond := [Cond.methodLink RX2 32 yX1_room, Cond.instanceMethod yX1_room, Cond.selects RX1 yX1_room yX1_room, Cond.code yX1_room cX1_room 3 (some .int), Cond.methodLink RX1 75 yX1_kept, Cond.instanceMethod yX1_kept, Cond.selects RX1 yX1_kept yX1_kept, Cond.code yX1_kept cX1_kept 4 (some .int), Cond.methodLink RX1 64 yX1_isKept, Cond.instanceMethod yX1_isKept, Cond.selects RX1 yX1_isKept yX1_isKept, Cond.code yX1_isKept cX1_isKept 3 (some .boolean), Cond.methodLink RX1 60 yX1_isTakenBack, Cond.instanceMethod yX1_isTakenBack, Cond.selects RX1 yX1_isTakenBack yX1_isTakenBack, Cond.code yX1_isTakenBack cX1_isTakenBack 3 (some .boolean), Cond.fieldLink RX1 40 "ChalkSlateModel$State" "takes" "[I", Cond.methodLink RX2 132 yX1_sum, Cond.instanceMethod yX1_sum, Cond.selects RX1 yX1_sum yX1_sum, Cond.code yX1_sum cX1_sum 7 (some .int), Cond.methodLink RX2 91 yX2_potTold, Cond.instanceMethod yX2_potTold, Cond.selects RX2 yX2_potTold yX2_potTold]
def wsX2_digest_r3 : List Cond := [Cond.code yX2_potTold cX2_potTold 4 (some .int), Cond.arrayClass .int, Cond.methodLink RX2 51 yX1_holder, Cond.instanceMethod yX1_holder, Cond.selects RX1 yX1_holder yX1_holder, Cond.code yX1_holder cX1_holder 3 (some .int), Cond.methodLink RX1 78 yX1_isHeld, Cond.instanceMethod yX1_isHeld, Cond.selects RX1 yX1_isHeld yX1_isHeld, Cond.code yX1_isHeld cX1_isHeld 5 (some .boolean), Cond.fieldLink RX1 31 "ChalkSlateModel$State" "pot" "[I", Cond.methodLink RX2 73 yX1_latest, Cond.instanceMethod yX1_latest, Cond.selects RX1 yX1_latest yX1_latest, Cond.code yX1_latest cX1_latest 4 (some .int), Cond.methodLink RX2 105 yX2_dishTold, Cond.instanceMethod yX2_dishTold, Cond.selects RX2 yX2_dishTold yX2_dishTold, Cond.code yX2_dishTold cX2_dishTold 7 (some .int), Cond.methodLink RX2 98 yX1_isHeld, Cond.methodLink RX2 54 yX1_is, Cond.methodLink RX2 102 yX1_kept, Cond.methodLink RX2 126 yX2_lineTold, Cond.instanceMethod yX2_lineTold]
def wsX2_digest_r4 : List Cond := [Cond.selects RX2 yX2_lineTold yX2_lineTold, Cond.code yX2_lineTold cX2_lineTold 4 (some .int)]
def wsX2_digest : List Cond := .code yX2_digest cX2_digest 5 (some .long) :: ((wsX2_digest_r1 ++ (wsX2_digest_r2 ++ (wsX2_digest_r3 ++ wsX2_digest_r4))) ++ wsX20 ++ wsX10)
def wsJ9_max_7cf53 : List Cond := .code yJ9_max_7cf53 cJ9_max_7cf53 2 (some .int) :: ([])
def wsL_begin_r1 : List Cond := [Cond.classLink RL 13 "java/lang/IllegalStateException", Cond.methodLink RL 7 yX0_begin, Cond.instanceMethod yX0_begin, Cond.selects RX0 yX0_begin yX0_begin, Cond.initialized RX0, Cond.code yX0_begin cX0_begin 2 (some .int), Cond.classLink RX0 53 "java/lang/IllegalStateException", Cond.initialized "java/lang/IllegalStateException", Cond.fieldLink RX0 49 "ChalkSlate" "dishes" "I", Cond.fieldLink RX0 19 "ChalkSlate" "dishState" "[I", Cond.methodLink RX0 60 yX0_roomLeft, Cond.instanceMethod yX0_roomLeft, Cond.selects RX0 yX0_roomLeft yX0_roomLeft, Cond.code yX0_roomLeft cX0_roomLeft 3 (some .int), Cond.fieldLink RX0 112 "ChalkSlate" "lines" "I", Cond.methodLink RX0 91 yX0_isOpen, Cond.instanceMethod yX0_isOpen, Cond.selects RX0 yX0_isOpen yX0_isOpen, Cond.code yX0_isOpen cX0_isOpen 2 (some .boolean), Cond.methodLink RX0 102 yX0_at, Cond.static yX0_at, Cond.code yX0_at cX0_at 2 (some .int), Cond.methodLink RX0 141 yX0_isBelow, Cond.static yX0_isBelow]
def wsL_begin_r2 : List Cond := [Cond.code yX0_isBelow cX0_isBelow 2 (some .boolean), Cond.methodLink RX0 204 yX0_changesNotTakenBack, Cond.instanceMethod yX0_changesNotTakenBack, Cond.selects RX0 yX0_changesNotTakenBack yX0_changesNotTakenBack, Cond.code yX0_changesNotTakenBack cX0_changesNotTakenBack 5 (some .int), Cond.methodLink RX0 219 yX0_isChangeNotTakenBack, Cond.instanceMethod yX0_isChangeNotTakenBack, Cond.selects RX0 yX0_isChangeNotTakenBack yX0_isChangeNotTakenBack, Cond.code yX0_isChangeNotTakenBack cX0_isChangeNotTakenBack 4 (some .boolean), Cond.fieldLink RX0 22 "ChalkSlate" "lineDish" "[I", Cond.fieldLink RX0 25 "ChalkSlate" "lineKind" "[I", Cond.fieldLink RX0 40 "ChalkSlate" "lineTakenBackBy" "[I", Cond.methodLink RX0 66 yX0_put, Cond.static yX0_put, Cond.code yX0_put cX0_put 3 none, Cond.methodLink RX0 70 yX0_chalk, Cond.instanceMethod yX0_chalk, Cond.selects RX0 yX0_chalk yX0_chalk, Cond.code yX0_chalk cX0_chalk 3 none, Cond.fieldLink RX0 28 "ChalkSlate" "linePot" "[I", Cond.fieldLink RX0 31 "ChalkSlate" "lineAhead" "[I", Cond.fieldLink RX0 34 "ChalkSlate" "lineBehind" "[I", Cond.fieldLink RX0 37 "ChalkSlate" "lineTakesBack" "[I"]
def wsL_begin : List Cond := .codeWith yL_begin cL_begin 3 (some .int) [(0, 8, 11, 13)] :: ((wsL_begin_r1 ++ wsL_begin_r2) ++ wsX00 ++ (vx_atS RX0 57 "java/lang/IllegalStateException" ["java/lang/RuntimeException", "java/lang/Exception"]).filter goodWord)
def wsL_cook_r1 : List Cond := [Cond.classLink RL 19 "java/lang/IndexOutOfBoundsException", Cond.classLink RL 21 "java/lang/IllegalArgumentException", Cond.classLink RL 13 "java/lang/IllegalStateException", Cond.methodLink RL 15 yX0_cook, Cond.instanceMethod yX0_cook, Cond.selects RX0 yX0_cook yX0_cook, Cond.initialized RX0, Cond.code yX0_cook cX0_cook 6 (some .int), Cond.classLink RX0 81 "java/lang/IndexOutOfBoundsException", Cond.initialized "java/lang/IndexOutOfBoundsException", Cond.classLink RX0 86 "java/lang/IllegalArgumentException", Cond.initialized "java/lang/IllegalArgumentException", Cond.classLink RX0 53 "java/lang/IllegalStateException", Cond.initialized "java/lang/IllegalStateException", Cond.fieldLink RX0 9 "ChalkSlate" "stove" "[I", Cond.methodLink RX0 74 yX0_isDish, Cond.instanceMethod yX0_isDish, Cond.selects RX0 yX0_isDish yX0_isDish, Cond.code yX0_isDish cX0_isDish 2 (some .boolean), Cond.fieldLink RX0 49 "ChalkSlate" "dishes" "I", Cond.methodLink RX0 141 yX0_isBelow, Cond.static yX0_isBelow, Cond.code yX0_isBelow cX0_isBelow 2 (some .boolean), Cond.methodLink RX0 78 yX0_isPot]
def wsL_cook_r2 : List Cond := [Cond.static yX0_isPot, Cond.code yX0_isPot cX0_isPot 1 (some .boolean), Cond.methodLink RX0 91 yX0_isOpen, Cond.instanceMethod yX0_isOpen, Cond.selects RX0 yX0_isOpen yX0_isOpen, Cond.code yX0_isOpen cX0_isOpen 2 (some .boolean), Cond.fieldLink RX0 19 "ChalkSlate" "dishState" "[I", Cond.methodLink RX0 102 yX0_at, Cond.static yX0_at, Cond.code yX0_at cX0_at 2 (some .int), Cond.methodLink RX0 96 yX0_holderOf, Cond.instanceMethod yX0_holderOf, Cond.selects RX0 yX0_holderOf yX0_holderOf, Cond.code yX0_holderOf cX0_holderOf 4 (some .int), Cond.fieldLink RX0 112 "ChalkSlate" "lines" "I", Cond.fieldLink RX0 22 "ChalkSlate" "lineDish" "[I", Cond.fieldLink RX0 25 "ChalkSlate" "lineKind" "[I", Cond.fieldLink RX0 28 "ChalkSlate" "linePot" "[I", Cond.methodLink RX0 60 yX0_roomLeft, Cond.instanceMethod yX0_roomLeft, Cond.selects RX0 yX0_roomLeft yX0_roomLeft, Cond.code yX0_roomLeft cX0_roomLeft 3 (some .int), Cond.methodLink RX0 204 yX0_changesNotTakenBack, Cond.instanceMethod yX0_changesNotTakenBack]
def wsL_cook_r3 : List Cond := [Cond.selects RX0 yX0_changesNotTakenBack yX0_changesNotTakenBack, Cond.code yX0_changesNotTakenBack cX0_changesNotTakenBack 5 (some .int), Cond.methodLink RX0 219 yX0_isChangeNotTakenBack, Cond.instanceMethod yX0_isChangeNotTakenBack, Cond.selects RX0 yX0_isChangeNotTakenBack yX0_isChangeNotTakenBack, Cond.code yX0_isChangeNotTakenBack cX0_isChangeNotTakenBack 4 (some .boolean), Cond.fieldLink RX0 40 "ChalkSlate" "lineTakenBackBy" "[I", Cond.methodLink RX0 106 yX0_chalkSpoons, Cond.instanceMethod yX0_chalkSpoons, Cond.selects RX0 yX0_chalkSpoons yX0_chalkSpoons, Cond.code yX0_chalkSpoons cX0_chalkSpoons 6 none, Cond.fieldLink RX0 31 "ChalkSlate" "lineAhead" "[I", Cond.fieldLink RX0 34 "ChalkSlate" "lineBehind" "[I", Cond.methodLink RX0 70 yX0_chalk, Cond.instanceMethod yX0_chalk, Cond.selects RX0 yX0_chalk yX0_chalk, Cond.code yX0_chalk cX0_chalk 3 none, Cond.fieldLink RX0 37 "ChalkSlate" "lineTakesBack" "[I", Cond.methodLink RX0 66 yX0_put, Cond.static yX0_put, Cond.code yX0_put cX0_put 3 none]
def wsL_cook : List Cond := .codeWith yL_cook cL_cook 6 (some .int) [(0, 12, 15, 19), (0, 12, 19, 21), (0, 12, 23, 13)] :: ((wsL_cook_r1 ++ (wsL_cook_r2 ++ wsL_cook_r3)) ++ wsX00 ++ (vx_atS RX0 85 "java/lang/IndexOutOfBoundsException" ["java/lang/RuntimeException", "java/lang/Exception"]).filter goodWord ++ (vx_atS RX0 90 "java/lang/IllegalArgumentException" ["java/lang/RuntimeException", "java/lang/Exception"]).filter goodWord ++ (vx_atS RX0 57 "java/lang/IllegalStateException" ["java/lang/RuntimeException", "java/lang/Exception"]).filter goodWord)
def wsL_finish_r1 : List Cond := [Cond.classLink RL 19 "java/lang/IndexOutOfBoundsException", Cond.classLink RL 13 "java/lang/IllegalStateException", Cond.methodLink RL 23 yX0_finish, Cond.instanceMethod yX0_finish, Cond.selects RX0 yX0_finish yX0_finish, Cond.initialized RX0, Cond.code yX0_finish cX0_finish 2 (some .int), Cond.classLink RX0 81 "java/lang/IndexOutOfBoundsException", Cond.initialized "java/lang/IndexOutOfBoundsException", Cond.classLink RX0 53 "java/lang/IllegalStateException", Cond.initialized "java/lang/IllegalStateException", Cond.fieldLink RX0 19 "ChalkSlate" "dishState" "[I", Cond.fieldLink RX0 112 "ChalkSlate" "lines" "I", Cond.methodLink RX0 74 yX0_isDish, Cond.instanceMethod yX0_isDish, Cond.selects RX0 yX0_isDish yX0_isDish, Cond.code yX0_isDish cX0_isDish 2 (some .boolean), Cond.fieldLink RX0 49 "ChalkSlate" "dishes" "I", Cond.methodLink RX0 141 yX0_isBelow, Cond.static yX0_isBelow, Cond.code yX0_isBelow cX0_isBelow 2 (some .boolean), Cond.methodLink RX0 91 yX0_isOpen, Cond.instanceMethod yX0_isOpen, Cond.selects RX0 yX0_isOpen yX0_isOpen]
def wsL_finish_r2 : List Cond := [Cond.code yX0_isOpen cX0_isOpen 2 (some .boolean), Cond.methodLink RX0 102 yX0_at, Cond.static yX0_at, Cond.code yX0_at cX0_at 2 (some .int), Cond.methodLink RX0 70 yX0_chalk, Cond.instanceMethod yX0_chalk, Cond.selects RX0 yX0_chalk yX0_chalk, Cond.code yX0_chalk cX0_chalk 3 none, Cond.fieldLink RX0 22 "ChalkSlate" "lineDish" "[I", Cond.fieldLink RX0 25 "ChalkSlate" "lineKind" "[I", Cond.fieldLink RX0 28 "ChalkSlate" "linePot" "[I", Cond.fieldLink RX0 31 "ChalkSlate" "lineAhead" "[I", Cond.fieldLink RX0 34 "ChalkSlate" "lineBehind" "[I", Cond.fieldLink RX0 37 "ChalkSlate" "lineTakesBack" "[I", Cond.fieldLink RX0 40 "ChalkSlate" "lineTakenBackBy" "[I", Cond.methodLink RX0 66 yX0_put, Cond.static yX0_put, Cond.code yX0_put cX0_put 3 none, Cond.methodLink RX0 115 yX0_dryUpTo, Cond.instanceMethod yX0_dryUpTo, Cond.selects RX0 yX0_dryUpTo yX0_dryUpTo, Cond.code yX0_dryUpTo cX0_dryUpTo 3 (some .int), Cond.fieldLink RX0 166 "ChalkSlate" "dryLines" "I", Cond.methodLink RX0 227 Lib.Math.max.name]
def wsL_finish_r3 : List Cond := [Cond.static Lib.Math.max.name, Cond.initialized "java/lang/Math", Cond.code Lib.Math.max.name Lib.Math.max.code 2 (some .int)]
def wsL_finish : List Cond := .codeWith yL_finish cL_finish 4 (some .int) [(0, 9, 12, 19), (0, 9, 15, 13)] :: ((wsL_finish_r1 ++ (wsL_finish_r2 ++ wsL_finish_r3)) ++ wsX00 ++ (vx_atS RX0 85 "java/lang/IndexOutOfBoundsException" ["java/lang/RuntimeException", "java/lang/Exception"]).filter goodWord ++ (vx_atS RX0 57 "java/lang/IllegalStateException" ["java/lang/RuntimeException", "java/lang/Exception"]).filter goodWord)
def wsL_drop_r1 : List Cond := [Cond.classLink RL 19 "java/lang/IndexOutOfBoundsException", Cond.classLink RL 13 "java/lang/IllegalStateException", Cond.methodLink RL 27 yX0_drop, Cond.instanceMethod yX0_drop, Cond.selects RX0 yX0_drop yX0_drop, Cond.initialized RX0, Cond.code yX0_drop cX0_drop 2 (some .int), Cond.classLink RX0 81 "java/lang/IndexOutOfBoundsException", Cond.initialized "java/lang/IndexOutOfBoundsException", Cond.classLink RX0 53 "java/lang/IllegalStateException", Cond.initialized "java/lang/IllegalStateException", Cond.methodLink RX0 74 yX0_isDish, Cond.instanceMethod yX0_isDish, Cond.selects RX0 yX0_isDish yX0_isDish, Cond.code yX0_isDish cX0_isDish 2 (some .boolean), Cond.fieldLink RX0 49 "ChalkSlate" "dishes" "I", Cond.methodLink RX0 141 yX0_isBelow, Cond.static yX0_isBelow, Cond.code yX0_isBelow cX0_isBelow 2 (some .boolean), Cond.methodLink RX0 91 yX0_isOpen, Cond.instanceMethod yX0_isOpen, Cond.selects RX0 yX0_isOpen yX0_isOpen, Cond.code yX0_isOpen cX0_isOpen 2 (some .boolean), Cond.fieldLink RX0 19 "ChalkSlate" "dishState" "[I"]
def wsL_drop_r2 : List Cond := [Cond.methodLink RX0 102 yX0_at, Cond.static yX0_at, Cond.code yX0_at cX0_at 2 (some .int), Cond.methodLink RX0 118 yX0_undo, Cond.instanceMethod yX0_undo, Cond.selects RX0 yX0_undo yX0_undo, Cond.code yX0_undo cX0_undo 4 (some .int), Cond.fieldLink RX0 112 "ChalkSlate" "lines" "I", Cond.methodLink RX0 219 yX0_isChangeNotTakenBack, Cond.instanceMethod yX0_isChangeNotTakenBack, Cond.selects RX0 yX0_isChangeNotTakenBack yX0_isChangeNotTakenBack, Cond.code yX0_isChangeNotTakenBack cX0_isChangeNotTakenBack 4 (some .boolean), Cond.fieldLink RX0 22 "ChalkSlate" "lineDish" "[I", Cond.fieldLink RX0 25 "ChalkSlate" "lineKind" "[I", Cond.fieldLink RX0 40 "ChalkSlate" "lineTakenBackBy" "[I", Cond.methodLink RX0 223 yX0_takeBack, Cond.instanceMethod yX0_takeBack, Cond.selects RX0 yX0_takeBack yX0_takeBack, Cond.code yX0_takeBack cX0_takeBack 3 none, Cond.fieldLink RX0 28 "ChalkSlate" "linePot" "[I", Cond.fieldLink RX0 31 "ChalkSlate" "lineAhead" "[I", Cond.fieldLink RX0 37 "ChalkSlate" "lineTakesBack" "[I", Cond.methodLink RX0 106 yX0_chalkSpoons, Cond.instanceMethod yX0_chalkSpoons]
def wsL_drop_r3 : List Cond := [Cond.selects RX0 yX0_chalkSpoons yX0_chalkSpoons, Cond.code yX0_chalkSpoons cX0_chalkSpoons 6 none, Cond.fieldLink RX0 9 "ChalkSlate" "stove" "[I", Cond.fieldLink RX0 34 "ChalkSlate" "lineBehind" "[I", Cond.methodLink RX0 70 yX0_chalk, Cond.instanceMethod yX0_chalk, Cond.selects RX0 yX0_chalk yX0_chalk, Cond.code yX0_chalk cX0_chalk 3 none, Cond.methodLink RX0 66 yX0_put, Cond.static yX0_put, Cond.code yX0_put cX0_put 3 none]
def wsL_drop : List Cond := .codeWith yL_drop cL_drop 4 (some .int) [(0, 9, 12, 19), (0, 9, 15, 13)] :: ((wsL_drop_r1 ++ (wsL_drop_r2 ++ wsL_drop_r3)) ++ wsX00 ++ (vx_atS RX0 85 "java/lang/IndexOutOfBoundsException" ["java/lang/RuntimeException", "java/lang/Exception"]).filter goodWord ++ (vx_atS RX0 57 "java/lang/IllegalStateException" ["java/lang/RuntimeException", "java/lang/Exception"]).filter goodWord)
def wsL_shelve_r1 : List Cond := [Cond.classLink RL 19 "java/lang/IndexOutOfBoundsException", Cond.methodLink RL 30 yX0_shelve, Cond.instanceMethod yX0_shelve, Cond.selects RX0 yX0_shelve yX0_shelve, Cond.initialized RX0, Cond.code yX0_shelve cX0_shelve 4 (some .int), Cond.classLink RX0 81 "java/lang/IndexOutOfBoundsException", Cond.initialized "java/lang/IndexOutOfBoundsException", Cond.fieldLink RX0 13 "ChalkSlate" "shelf" "[I", Cond.fieldLink RX0 9 "ChalkSlate" "stove" "[I", Cond.fieldLink RX0 16 "ChalkSlate" "stamp" "[I", Cond.methodLink RX0 78 yX0_isPot, Cond.static yX0_isPot, Cond.code yX0_isPot cX0_isPot 1 (some .boolean), Cond.methodLink RX0 141 yX0_isBelow, Cond.static yX0_isBelow, Cond.code yX0_isBelow cX0_isBelow 2 (some .boolean), Cond.methodLink RX0 123 yX0_latestLineOf, Cond.instanceMethod yX0_latestLineOf, Cond.selects RX0 yX0_latestLineOf yX0_latestLineOf, Cond.code yX0_latestLineOf cX0_latestLineOf 3 (some .int), Cond.fieldLink RX0 112 "ChalkSlate" "lines" "I", Cond.fieldLink RX0 28 "ChalkSlate" "linePot" "[I", Cond.methodLink RX0 102 yX0_at]
def wsL_shelve_r2 : List Cond := [Cond.static yX0_at, Cond.code yX0_at cX0_at 2 (some .int), Cond.methodLink RX0 115 yX0_dryUpTo, Cond.instanceMethod yX0_dryUpTo, Cond.selects RX0 yX0_dryUpTo yX0_dryUpTo, Cond.code yX0_dryUpTo cX0_dryUpTo 3 (some .int), Cond.fieldLink RX0 166 "ChalkSlate" "dryLines" "I", Cond.methodLink RX0 227 Lib.Math.max.name, Cond.static Lib.Math.max.name, Cond.initialized "java/lang/Math", Cond.code Lib.Math.max.name Lib.Math.max.code 2 (some .int), Cond.methodLink RX0 66 yX0_put, Cond.static yX0_put, Cond.code yX0_put cX0_put 3 none]
def wsL_shelve : List Cond := .codeWith yL_shelve cL_shelve 4 (some .int) [(0, 9, 12, 19)] :: ((wsL_shelve_r1 ++ wsL_shelve_r2) ++ wsX00 ++ (vx_atS RX0 85 "java/lang/IndexOutOfBoundsException" ["java/lang/RuntimeException", "java/lang/Exception"]).filter goodWord)
def wsL_pot_r1 : List Cond := [Cond.classLink RL 19 "java/lang/IndexOutOfBoundsException", Cond.methodLink RL 33 yX0_pot, Cond.instanceMethod yX0_pot, Cond.selects RX0 yX0_pot yX0_pot, Cond.initialized RX0, Cond.code yX0_pot cX0_pot 3 (some .int), Cond.classLink RX0 81 "java/lang/IndexOutOfBoundsException", Cond.initialized "java/lang/IndexOutOfBoundsException", Cond.methodLink RX0 78 yX0_isPot, Cond.static yX0_isPot, Cond.code yX0_isPot cX0_isPot 1 (some .boolean), Cond.methodLink RX0 141 yX0_isBelow, Cond.static yX0_isBelow, Cond.code yX0_isBelow cX0_isBelow 2 (some .boolean), Cond.methodLink RX0 147 yX0_potAnswer, Cond.instanceMethod yX0_potAnswer, Cond.selects RX0 yX0_potAnswer yX0_potAnswer, Cond.code yX0_potAnswer cX0_potAnswer 3 (some .int), Cond.fieldLink RX0 9 "ChalkSlate" "stove" "[I", Cond.fieldLink RX0 13 "ChalkSlate" "shelf" "[I", Cond.fieldLink RX0 16 "ChalkSlate" "stamp" "[I", Cond.methodLink RX0 102 yX0_at, Cond.static yX0_at, Cond.code yX0_at cX0_at 2 (some .int)]
def wsL_pot_r2 : List Cond := [Cond.methodLink RX0 96 yX0_holderOf, Cond.instanceMethod yX0_holderOf, Cond.selects RX0 yX0_holderOf yX0_holderOf, Cond.code yX0_holderOf cX0_holderOf 4 (some .int), Cond.fieldLink RX0 112 "ChalkSlate" "lines" "I", Cond.fieldLink RX0 22 "ChalkSlate" "lineDish" "[I", Cond.fieldLink RX0 25 "ChalkSlate" "lineKind" "[I", Cond.fieldLink RX0 28 "ChalkSlate" "linePot" "[I", Cond.methodLink RX0 91 yX0_isOpen, Cond.instanceMethod yX0_isOpen, Cond.selects RX0 yX0_isOpen yX0_isOpen, Cond.code yX0_isOpen cX0_isOpen 2 (some .boolean), Cond.fieldLink RX0 19 "ChalkSlate" "dishState" "[I", Cond.methodLink RX0 123 yX0_latestLineOf, Cond.instanceMethod yX0_latestLineOf, Cond.selects RX0 yX0_latestLineOf yX0_latestLineOf, Cond.code yX0_latestLineOf cX0_latestLineOf 3 (some .int)]
def wsL_pot : List Cond := .codeWith yL_pot cL_pot 5 (some .int) [(0, 10, 13, 19)] :: ((wsL_pot_r1 ++ wsL_pot_r2) ++ wsX00 ++ (vx_atS RX0 85 "java/lang/IndexOutOfBoundsException" ["java/lang/RuntimeException", "java/lang/Exception"]).filter goodWord)
def wsL_dish_r1 : List Cond := [Cond.classLink RL 19 "java/lang/IndexOutOfBoundsException", Cond.methodLink RL 37 yX0_dish, Cond.instanceMethod yX0_dish, Cond.selects RX0 yX0_dish yX0_dish, Cond.initialized RX0, Cond.code yX0_dish cX0_dish 3 (some .int), Cond.classLink RX0 81 "java/lang/IndexOutOfBoundsException", Cond.initialized "java/lang/IndexOutOfBoundsException", Cond.methodLink RX0 74 yX0_isDish, Cond.instanceMethod yX0_isDish, Cond.selects RX0 yX0_isDish yX0_isDish, Cond.code yX0_isDish cX0_isDish 2 (some .boolean), Cond.fieldLink RX0 49 "ChalkSlate" "dishes" "I", Cond.methodLink RX0 141 yX0_isBelow, Cond.static yX0_isBelow, Cond.code yX0_isBelow cX0_isBelow 2 (some .boolean), Cond.methodLink RX0 153 yX0_dishAnswer, Cond.instanceMethod yX0_dishAnswer, Cond.selects RX0 yX0_dishAnswer yX0_dishAnswer, Cond.code yX0_dishAnswer cX0_dishAnswer 3 (some .int), Cond.fieldLink RX0 19 "ChalkSlate" "dishState" "[I", Cond.fieldLink RX0 112 "ChalkSlate" "lines" "I", Cond.methodLink RX0 102 yX0_at, Cond.static yX0_at]
def wsL_dish_r2 : List Cond := [Cond.code yX0_at cX0_at 2 (some .int), Cond.methodLink RX0 201 yX0_linesOf, Cond.instanceMethod yX0_linesOf, Cond.selects RX0 yX0_linesOf yX0_linesOf, Cond.code yX0_linesOf cX0_linesOf 4 (some .int), Cond.fieldLink RX0 22 "ChalkSlate" "lineDish" "[I", Cond.methodLink RX0 204 yX0_changesNotTakenBack, Cond.instanceMethod yX0_changesNotTakenBack, Cond.selects RX0 yX0_changesNotTakenBack yX0_changesNotTakenBack, Cond.code yX0_changesNotTakenBack cX0_changesNotTakenBack 5 (some .int), Cond.methodLink RX0 219 yX0_isChangeNotTakenBack, Cond.instanceMethod yX0_isChangeNotTakenBack, Cond.selects RX0 yX0_isChangeNotTakenBack yX0_isChangeNotTakenBack, Cond.code yX0_isChangeNotTakenBack cX0_isChangeNotTakenBack 4 (some .boolean), Cond.fieldLink RX0 25 "ChalkSlate" "lineKind" "[I", Cond.fieldLink RX0 40 "ChalkSlate" "lineTakenBackBy" "[I", Cond.methodLink RX0 207 yX0_potsHeldBy, Cond.instanceMethod yX0_potsHeldBy, Cond.selects RX0 yX0_potsHeldBy yX0_potsHeldBy, Cond.code yX0_potsHeldBy cX0_potsHeldBy 4 (some .int), Cond.methodLink RX0 96 yX0_holderOf, Cond.instanceMethod yX0_holderOf, Cond.selects RX0 yX0_holderOf yX0_holderOf, Cond.code yX0_holderOf cX0_holderOf 4 (some .int)]
def wsL_dish_r3 : List Cond := [Cond.fieldLink RX0 28 "ChalkSlate" "linePot" "[I", Cond.methodLink RX0 91 yX0_isOpen, Cond.instanceMethod yX0_isOpen, Cond.selects RX0 yX0_isOpen yX0_isOpen, Cond.code yX0_isOpen cX0_isOpen 2 (some .boolean), Cond.methodLink RX0 210 yX0_lastLineOf, Cond.instanceMethod yX0_lastLineOf, Cond.selects RX0 yX0_lastLineOf yX0_lastLineOf, Cond.code yX0_lastLineOf cX0_lastLineOf 3 (some .int)]
def wsL_dish : List Cond := .codeWith yL_dish cL_dish 5 (some .int) [(0, 10, 13, 19)] :: ((wsL_dish_r1 ++ (wsL_dish_r2 ++ wsL_dish_r3)) ++ wsX00 ++ (vx_atS RX0 85 "java/lang/IndexOutOfBoundsException" ["java/lang/RuntimeException", "java/lang/Exception"]).filter goodWord)
def wsL_line_r1 : List Cond := [Cond.classLink RL 19 "java/lang/IndexOutOfBoundsException", Cond.methodLink RL 40 yX0_line, Cond.instanceMethod yX0_line, Cond.selects RX0 yX0_line yX0_line, Cond.initialized RX0, Cond.code yX0_line cX0_line 3 (some .int), Cond.classLink RX0 81 "java/lang/IndexOutOfBoundsException", Cond.initialized "java/lang/IndexOutOfBoundsException", Cond.fieldLink RX0 112 "ChalkSlate" "lines" "I", Cond.methodLink RX0 141 yX0_isBelow, Cond.static yX0_isBelow, Cond.code yX0_isBelow cX0_isBelow 2 (some .boolean), Cond.methodLink RX0 158 yX0_lineAnswer, Cond.instanceMethod yX0_lineAnswer, Cond.selects RX0 yX0_lineAnswer yX0_lineAnswer, Cond.code yX0_lineAnswer cX0_lineAnswer 3 (some .int), Cond.fieldLink RX0 22 "ChalkSlate" "lineDish" "[I", Cond.fieldLink RX0 25 "ChalkSlate" "lineKind" "[I", Cond.fieldLink RX0 28 "ChalkSlate" "linePot" "[I", Cond.fieldLink RX0 31 "ChalkSlate" "lineAhead" "[I", Cond.fieldLink RX0 34 "ChalkSlate" "lineBehind" "[I", Cond.fieldLink RX0 37 "ChalkSlate" "lineTakesBack" "[I", Cond.fieldLink RX0 166 "ChalkSlate" "dryLines" "I", Cond.methodLink RX0 102 yX0_at]
def wsL_line_r2 : List Cond := [Cond.static yX0_at, Cond.code yX0_at cX0_at 2 (some .int)]
def wsL_line : List Cond := .codeWith yL_line cL_line 5 (some .int) [(0, 10, 13, 19)] :: ((wsL_line_r1 ++ wsL_line_r2) ++ wsX00 ++ (vx_atS RX0 85 "java/lang/IndexOutOfBoundsException" ["java/lang/RuntimeException", "java/lang/Exception"]).filter goodWord)
def wsL_count_r1 : List Cond := [Cond.classLink RL 19 "java/lang/IndexOutOfBoundsException", Cond.methodLink RL 43 yX0_count, Cond.instanceMethod yX0_count, Cond.selects RX0 yX0_count yX0_count, Cond.initialized RX0, Cond.code yX0_count cX0_count 2 (some .int), Cond.classLink RX0 81 "java/lang/IndexOutOfBoundsException", Cond.initialized "java/lang/IndexOutOfBoundsException", Cond.methodLink RX0 141 yX0_isBelow, Cond.static yX0_isBelow, Cond.code yX0_isBelow cX0_isBelow 2 (some .boolean), Cond.methodLink RX0 163 yX0_countAnswer, Cond.instanceMethod yX0_countAnswer, Cond.selects RX0 yX0_countAnswer yX0_countAnswer, Cond.code yX0_countAnswer cX0_countAnswer 2 (some .int), Cond.fieldLink RX0 112 "ChalkSlate" "lines" "I", Cond.fieldLink RX0 166 "ChalkSlate" "dryLines" "I", Cond.fieldLink RX0 49 "ChalkSlate" "dishes" "I", Cond.fieldLink RX0 9 "ChalkSlate" "stove" "[I", Cond.fieldLink RX0 13 "ChalkSlate" "shelf" "[I", Cond.fieldLink RX0 138 "ChalkSlate" "falls" "I", Cond.methodLink RX0 213 yX0_dishesThatAre, Cond.instanceMethod yX0_dishesThatAre, Cond.selects RX0 yX0_dishesThatAre yX0_dishesThatAre]
def wsL_count_r2 : List Cond := [Cond.code yX0_dishesThatAre cX0_dishesThatAre 4 (some .int), Cond.fieldLink RX0 19 "ChalkSlate" "dishState" "[I", Cond.methodLink RX0 102 yX0_at, Cond.static yX0_at, Cond.code yX0_at cX0_at 2 (some .int), Cond.methodLink RX0 60 yX0_roomLeft, Cond.instanceMethod yX0_roomLeft, Cond.selects RX0 yX0_roomLeft yX0_roomLeft, Cond.code yX0_roomLeft cX0_roomLeft 3 (some .int), Cond.methodLink RX0 91 yX0_isOpen, Cond.instanceMethod yX0_isOpen, Cond.selects RX0 yX0_isOpen yX0_isOpen, Cond.code yX0_isOpen cX0_isOpen 2 (some .boolean), Cond.methodLink RX0 204 yX0_changesNotTakenBack, Cond.instanceMethod yX0_changesNotTakenBack, Cond.selects RX0 yX0_changesNotTakenBack yX0_changesNotTakenBack, Cond.code yX0_changesNotTakenBack cX0_changesNotTakenBack 5 (some .int), Cond.methodLink RX0 219 yX0_isChangeNotTakenBack, Cond.instanceMethod yX0_isChangeNotTakenBack, Cond.selects RX0 yX0_isChangeNotTakenBack yX0_isChangeNotTakenBack, Cond.code yX0_isChangeNotTakenBack cX0_isChangeNotTakenBack 4 (some .boolean), Cond.fieldLink RX0 22 "ChalkSlate" "lineDish" "[I", Cond.fieldLink RX0 25 "ChalkSlate" "lineKind" "[I", Cond.fieldLink RX0 40 "ChalkSlate" "lineTakenBackBy" "[I"]
def wsL_count_r3 : List Cond := [Cond.methodLink RX0 191 yX0_sumOf, Cond.static yX0_sumOf, Cond.code yX0_sumOf cX0_sumOf 3 (some .int)]
def wsL_count : List Cond := .codeWith yL_count cL_count 4 (some .int) [(0, 9, 12, 19)] :: ((wsL_count_r1 ++ (wsL_count_r2 ++ wsL_count_r3)) ++ wsX00 ++ (vx_atS RX0 85 "java/lang/IndexOutOfBoundsException" ["java/lang/RuntimeException", "java/lang/Exception"]).filter goodWord)
def wsL_would_r1 : List Cond := [Cond.classLink RL 19 "java/lang/IndexOutOfBoundsException", Cond.methodLink RL 46 yX0_would, Cond.instanceMethod yX0_would, Cond.selects RX0 yX0_would yX0_would, Cond.initialized RX0, Cond.code yX0_would cX0_would 2 (some .int), Cond.classLink RX0 81 "java/lang/IndexOutOfBoundsException", Cond.initialized "java/lang/IndexOutOfBoundsException", Cond.fieldLink RX0 112 "ChalkSlate" "lines" "I", Cond.fieldLink RX0 166 "ChalkSlate" "dryLines" "I", Cond.methodLink RX0 141 yX0_isBelow, Cond.static yX0_isBelow, Cond.code yX0_isBelow cX0_isBelow 2 (some .boolean), Cond.methodLink RX0 169 yX0_linesToDoAnew, Cond.instanceMethod yX0_linesToDoAnew, Cond.selects RX0 yX0_linesToDoAnew yX0_linesToDoAnew, Cond.code yX0_linesToDoAnew cX0_linesToDoAnew 3 (some .int), Cond.methodLink RX0 181 yX0_isToDoAnew, Cond.instanceMethod yX0_isToDoAnew, Cond.selects RX0 yX0_isToDoAnew yX0_isToDoAnew, Cond.code yX0_isToDoAnew cX0_isToDoAnew 3 (some .boolean), Cond.fieldLink RX0 28 "ChalkSlate" "linePot" "[I", Cond.fieldLink RX0 16 "ChalkSlate" "stamp" "[I", Cond.methodLink RX0 102 yX0_at]
def wsL_would_r2 : List Cond := [Cond.static yX0_at, Cond.code yX0_at cX0_at 2 (some .int), Cond.methodLink RX0 172 yX0_linesToTakeBack, Cond.instanceMethod yX0_linesToTakeBack, Cond.selects RX0 yX0_linesToTakeBack yX0_linesToTakeBack, Cond.code yX0_linesToTakeBack cX0_linesToTakeBack 3 (some .int), Cond.fieldLink RX0 49 "ChalkSlate" "dishes" "I", Cond.methodLink RX0 184 yX0_stateByLines, Cond.instanceMethod yX0_stateByLines, Cond.selects RX0 yX0_stateByLines yX0_stateByLines, Cond.code yX0_stateByLines cX0_stateByLines 5 (some .int), Cond.fieldLink RX0 22 "ChalkSlate" "lineDish" "[I", Cond.fieldLink RX0 25 "ChalkSlate" "lineKind" "[I", Cond.methodLink RX0 216 yX0_stateAfter, Cond.static yX0_stateAfter, Cond.code yX0_stateAfter cX0_stateAfter 2 (some .int), Cond.methodLink RX0 204 yX0_changesNotTakenBack, Cond.instanceMethod yX0_changesNotTakenBack, Cond.selects RX0 yX0_changesNotTakenBack yX0_changesNotTakenBack, Cond.code yX0_changesNotTakenBack cX0_changesNotTakenBack 5 (some .int), Cond.methodLink RX0 219 yX0_isChangeNotTakenBack, Cond.instanceMethod yX0_isChangeNotTakenBack, Cond.selects RX0 yX0_isChangeNotTakenBack yX0_isChangeNotTakenBack, Cond.code yX0_isChangeNotTakenBack cX0_isChangeNotTakenBack 4 (some .boolean)]
def wsL_would_r3 : List Cond := [Cond.fieldLink RX0 40 "ChalkSlate" "lineTakenBackBy" "[I", Cond.methodLink RX0 175 yX0_firstLineToDoAnew, Cond.instanceMethod yX0_firstLineToDoAnew, Cond.selects RX0 yX0_firstLineToDoAnew yX0_firstLineToDoAnew, Cond.code yX0_firstLineToDoAnew cX0_firstLineToDoAnew 2 (some .int), Cond.methodLink RX0 178 yX0_dishesToForget, Cond.instanceMethod yX0_dishesToForget, Cond.selects RX0 yX0_dishesToForget yX0_dishesToForget, Cond.code yX0_dishesToForget cX0_dishesToForget 4 (some .int), Cond.fieldLink RX0 19 "ChalkSlate" "dishState" "[I"]
def wsL_would : List Cond := .codeWith yL_would cL_would 4 (some .int) [(0, 9, 12, 19)] :: ((wsL_would_r1 ++ (wsL_would_r2 ++ wsL_would_r3)) ++ wsX00 ++ (vx_atS RX0 85 "java/lang/IndexOutOfBoundsException" ["java/lang/RuntimeException", "java/lang/Exception"]).filter goodWord)
def wsL_left_r1 : List Cond := [Cond.classLink RL 19 "java/lang/IndexOutOfBoundsException", Cond.methodLink RL 49 yX0_left, Cond.instanceMethod yX0_left, Cond.selects RX0 yX0_left yX0_left, Cond.initialized RX0, Cond.code yX0_left cX0_left 4 (some .int), Cond.classLink RX0 81 "java/lang/IndexOutOfBoundsException", Cond.initialized "java/lang/IndexOutOfBoundsException", Cond.fieldLink RX0 13 "ChalkSlate" "shelf" "[I", Cond.fieldLink RX0 166 "ChalkSlate" "dryLines" "I", Cond.fieldLink RX0 28 "ChalkSlate" "linePot" "[I", Cond.fieldLink RX0 34 "ChalkSlate" "lineBehind" "[I", Cond.fieldLink RX0 49 "ChalkSlate" "dishes" "I", Cond.methodLink RX0 78 yX0_isPot, Cond.static yX0_isPot, Cond.code yX0_isPot cX0_isPot 1 (some .boolean), Cond.methodLink RX0 141 yX0_isBelow, Cond.static yX0_isBelow, Cond.code yX0_isBelow cX0_isBelow 2 (some .boolean), Cond.methodLink RX0 102 yX0_at, Cond.static yX0_at, Cond.code yX0_at cX0_at 2 (some .int), Cond.methodLink RX0 181 yX0_isToDoAnew, Cond.instanceMethod yX0_isToDoAnew]
def wsL_left_r2 : List Cond := [Cond.selects RX0 yX0_isToDoAnew yX0_isToDoAnew, Cond.code yX0_isToDoAnew cX0_isToDoAnew 3 (some .boolean), Cond.fieldLink RX0 16 "ChalkSlate" "stamp" "[I", Cond.methodLink RX0 184 yX0_stateByLines, Cond.instanceMethod yX0_stateByLines, Cond.selects RX0 yX0_stateByLines yX0_stateByLines, Cond.code yX0_stateByLines cX0_stateByLines 5 (some .int), Cond.fieldLink RX0 22 "ChalkSlate" "lineDish" "[I", Cond.fieldLink RX0 25 "ChalkSlate" "lineKind" "[I", Cond.methodLink RX0 216 yX0_stateAfter, Cond.static yX0_stateAfter, Cond.code yX0_stateAfter cX0_stateAfter 2 (some .int), Cond.methodLink RX0 187 yX0_spoonsAfterUndoing, Cond.instanceMethod yX0_spoonsAfterUndoing, Cond.selects RX0 yX0_spoonsAfterUndoing yX0_spoonsAfterUndoing, Cond.code yX0_spoonsAfterUndoing cX0_spoonsAfterUndoing 6 (some .int), Cond.fieldLink RX0 31 "ChalkSlate" "lineAhead" "[I", Cond.methodLink RX0 219 yX0_isChangeNotTakenBack, Cond.instanceMethod yX0_isChangeNotTakenBack, Cond.selects RX0 yX0_isChangeNotTakenBack yX0_isChangeNotTakenBack, Cond.code yX0_isChangeNotTakenBack cX0_isChangeNotTakenBack 4 (some .boolean), Cond.fieldLink RX0 40 "ChalkSlate" "lineTakenBackBy" "[I"]
def wsL_left : List Cond := .codeWith yL_left cL_left 4 (some .int) [(0, 9, 12, 19)] :: ((wsL_left_r1 ++ wsL_left_r2) ++ wsX00 ++ (vx_atS RX0 85 "java/lang/IndexOutOfBoundsException" ["java/lang/RuntimeException", "java/lang/Exception"]).filter goodWord)
def wsL_law0_r1 : List Cond := [Cond.classLink RL 8 RX0, Cond.instantiable RX0 15, Cond.initialized RX0, Cond.classLink RL 53 RX2, Cond.instantiable RX2 5, Cond.initialized RX2, Cond.arrayClass .long, Cond.methodLink RL 52 yX0_init, Cond.instanceMethod yX0_init, Cond.code yX0_init cX0_init 1 none, Cond.methodLink RX0 1 objectInit, Cond.instanceMethod objectInit, Cond.code objectInit ⟨#[0xb1]⟩ 1 none, Cond.arrayClass .int, Cond.fieldLink RX0 9 "ChalkSlate" "stove" "[I", Cond.fieldLink RX0 13 "ChalkSlate" "shelf" "[I", Cond.fieldLink RX0 16 "ChalkSlate" "stamp" "[I", Cond.fieldLink RX0 19 "ChalkSlate" "dishState" "[I", Cond.fieldLink RX0 22 "ChalkSlate" "lineDish" "[I", Cond.fieldLink RX0 25 "ChalkSlate" "lineKind" "[I", Cond.fieldLink RX0 28 "ChalkSlate" "linePot" "[I", Cond.fieldLink RX0 31 "ChalkSlate" "lineAhead" "[I", Cond.fieldLink RX0 34 "ChalkSlate" "lineBehind" "[I", Cond.fieldLink RX0 37 "ChalkSlate" "lineTakesBack" "[I"]
def wsL_law0_r2 : List Cond := [Cond.fieldLink RX0 40 "ChalkSlate" "lineTakenBackBy" "[I", Cond.methodLink RX0 43 yJ7_fill_53178, Cond.static yJ7_fill_53178, Cond.initialized RJ7, Cond.code yJ7_fill_53178 cJ7_fill_53178 4 none, Cond.methodLink RL 55 yX2_init, Cond.instanceMethod yX2_init, Cond.code yX2_init cX2_init 1 none, Cond.methodLink RX2 1 objectInit, Cond.classLink RX2 7 RX1, Cond.instantiable RX1 15, Cond.initialized RX1, Cond.fieldLink RX2 12 "ChalkSlateModel" "s" "LChalkSlateModel$State;", Cond.fieldLink RX2 18 "ChalkSlateModel" "then" "LChalkSlateModel$State;", Cond.methodLink RX2 9 yX1_init, Cond.instanceMethod yX1_init, Cond.code yX1_init cX1_init 3 none, Cond.fieldLink RX1 3 "ChalkSlateModel$State" "this$0" "LChalkSlateModel;", Cond.methodLink RX1 9 objectInit, Cond.fieldLink RX1 15 "ChalkSlateModel$State" "stove" "[I", Cond.fieldLink RX1 19 "ChalkSlateModel$State" "shelf" "[I", Cond.fieldLink RX1 22 "ChalkSlateModel$State" "stamp" "[I", Cond.fieldLink RX1 25 "ChalkSlateModel$State" "dish" "[I", Cond.fieldLink RX1 28 "ChalkSlateModel$State" "kind" "[I"]
def wsL_law0_r3 : List Cond := [Cond.fieldLink RX1 31 "ChalkSlateModel$State" "pot" "[I", Cond.fieldLink RX1 34 "ChalkSlateModel$State" "ahead" "[I", Cond.fieldLink RX1 37 "ChalkSlateModel$State" "behind" "[I", Cond.fieldLink RX1 40 "ChalkSlateModel$State" "takes" "[I", Cond.methodLink RL 56 yL_begin, Cond.static yL_begin, Cond.initialized RL, Cond.codeWith yL_begin cL_begin 3 (some .int) [(0, 8, 11, 13)], Cond.classLink RL 13 "java/lang/IllegalStateException", Cond.methodLink RL 7 yX0_begin, Cond.instanceMethod yX0_begin, Cond.selects RX0 yX0_begin yX0_begin, Cond.code yX0_begin cX0_begin 2 (some .int), Cond.classLink RX0 53 "java/lang/IllegalStateException", Cond.initialized "java/lang/IllegalStateException", Cond.fieldLink RX0 49 "ChalkSlate" "dishes" "I", Cond.methodLink RX0 60 yX0_roomLeft, Cond.instanceMethod yX0_roomLeft, Cond.selects RX0 yX0_roomLeft yX0_roomLeft, Cond.code yX0_roomLeft cX0_roomLeft 3 (some .int), Cond.fieldLink RX0 112 "ChalkSlate" "lines" "I", Cond.methodLink RX0 91 yX0_isOpen, Cond.instanceMethod yX0_isOpen, Cond.selects RX0 yX0_isOpen yX0_isOpen]
def wsL_law0_r4 : List Cond := [Cond.code yX0_isOpen cX0_isOpen 2 (some .boolean), Cond.methodLink RX0 102 yX0_at, Cond.static yX0_at, Cond.code yX0_at cX0_at 2 (some .int), Cond.methodLink RX0 141 yX0_isBelow, Cond.static yX0_isBelow, Cond.code yX0_isBelow cX0_isBelow 2 (some .boolean), Cond.methodLink RX0 204 yX0_changesNotTakenBack, Cond.instanceMethod yX0_changesNotTakenBack, Cond.selects RX0 yX0_changesNotTakenBack yX0_changesNotTakenBack, Cond.code yX0_changesNotTakenBack cX0_changesNotTakenBack 5 (some .int), Cond.methodLink RX0 219 yX0_isChangeNotTakenBack, Cond.instanceMethod yX0_isChangeNotTakenBack, Cond.selects RX0 yX0_isChangeNotTakenBack yX0_isChangeNotTakenBack, Cond.code yX0_isChangeNotTakenBack cX0_isChangeNotTakenBack 4 (some .boolean), Cond.methodLink RX0 66 yX0_put, Cond.static yX0_put, Cond.code yX0_put cX0_put 3 none, Cond.methodLink RX0 70 yX0_chalk, Cond.instanceMethod yX0_chalk, Cond.selects RX0 yX0_chalk yX0_chalk, Cond.code yX0_chalk cX0_chalk 3 none, Cond.methodLink RL 61 yX2_begin, Cond.instanceMethod yX2_begin]
def wsL_law0_r5 : List Cond := [Cond.selects RX2 yX2_begin yX2_begin, Cond.code yX2_begin cX2_begin 1 (some .int), Cond.fieldLink RX2 21 "ChalkSlateModel" "thrown" "I", Cond.fieldLink RX2 29 "ChalkSlateModel" "dishes" "I", Cond.methodLink RX2 32 yX1_room, Cond.instanceMethod yX1_room, Cond.selects RX1 yX1_room yX1_room, Cond.code yX1_room cX1_room 3 (some .int), Cond.fieldLink RX1 49 "ChalkSlateModel$State" "lines" "I", Cond.methodLink RX1 71 yX1_is, Cond.instanceMethod yX1_is, Cond.selects RX1 yX1_is yX1_is, Cond.code yX1_is cX1_is 4 (some .int), Cond.methodLink RX1 75 yX1_kept, Cond.instanceMethod yX1_kept, Cond.selects RX1 yX1_kept yX1_kept, Cond.code yX1_kept cX1_kept 4 (some .int), Cond.methodLink RX1 64 yX1_isKept, Cond.instanceMethod yX1_isKept, Cond.selects RX1 yX1_isKept yX1_isKept, Cond.code yX1_isKept cX1_isKept 3 (some .boolean), Cond.methodLink RX1 60 yX1_isTakenBack, Cond.instanceMethod yX1_isTakenBack, Cond.selects RX1 yX1_isTakenBack yX1_isTakenBack]
def wsL_law0_r6 : List Cond := [Cond.code yX1_isTakenBack cX1_isTakenBack 3 (some .boolean), Cond.methodLink RX2 36 yX2_no, Cond.instanceMethod yX2_no, Cond.selects RX2 yX2_no yX2_no, Cond.code yX2_no cX2_no 2 (some .int), Cond.methodLink RX2 40 yX1_chalk, Cond.instanceMethod yX1_chalk, Cond.selects RX1 yX1_chalk yX1_chalk, Cond.code yX1_chalk cX1_chalk 3 none, Cond.methodLink RL 62 yX2_thrown, Cond.instanceMethod yX2_thrown, Cond.selects RX2 yX2_thrown yX2_thrown, Cond.code yX2_thrown cX2_thrown 1 (some .int), Cond.methodLink RL 65 yL_cook, Cond.static yL_cook, Cond.codeWith yL_cook cL_cook 6 (some .int) [(0, 12, 15, 19), (0, 12, 19, 21), (0, 12, 23, 13)], Cond.classLink RL 19 "java/lang/IndexOutOfBoundsException", Cond.classLink RL 21 "java/lang/IllegalArgumentException", Cond.methodLink RL 15 yX0_cook, Cond.instanceMethod yX0_cook, Cond.selects RX0 yX0_cook yX0_cook, Cond.code yX0_cook cX0_cook 6 (some .int), Cond.classLink RX0 81 "java/lang/IndexOutOfBoundsException", Cond.initialized "java/lang/IndexOutOfBoundsException"]
def wsL_law0_r7 : List Cond := [Cond.classLink RX0 86 "java/lang/IllegalArgumentException", Cond.initialized "java/lang/IllegalArgumentException", Cond.methodLink RX0 74 yX0_isDish, Cond.instanceMethod yX0_isDish, Cond.selects RX0 yX0_isDish yX0_isDish, Cond.code yX0_isDish cX0_isDish 2 (some .boolean), Cond.methodLink RX0 78 yX0_isPot, Cond.static yX0_isPot, Cond.code yX0_isPot cX0_isPot 1 (some .boolean), Cond.methodLink RX0 96 yX0_holderOf, Cond.instanceMethod yX0_holderOf, Cond.selects RX0 yX0_holderOf yX0_holderOf, Cond.code yX0_holderOf cX0_holderOf 4 (some .int), Cond.methodLink RX0 106 yX0_chalkSpoons, Cond.instanceMethod yX0_chalkSpoons, Cond.selects RX0 yX0_chalkSpoons yX0_chalkSpoons, Cond.code yX0_chalkSpoons cX0_chalkSpoons 6 none, Cond.methodLink RL 68 yX2_cook, Cond.instanceMethod yX2_cook, Cond.selects RX2 yX2_cook yX2_cook, Cond.code yX2_cook cX2_cook 6 (some .int), Cond.methodLink RX2 44 yX2_isDish, Cond.instanceMethod yX2_isDish, Cond.selects RX2 yX2_isDish yX2_isDish]
def wsL_law0_r8 : List Cond := [Cond.code yX2_isDish cX2_isDish 2 (some .boolean), Cond.methodLink RX2 25 yX2_isIn, Cond.static yX2_isIn, Cond.code yX2_isIn cX2_isIn 3 (some .boolean), Cond.methodLink RX2 48 yX2_isPot, Cond.static yX2_isPot, Cond.code yX2_isPot cX2_isPot 1 (some .boolean), Cond.methodLink RX2 51 yX1_holder, Cond.instanceMethod yX1_holder, Cond.selects RX1 yX1_holder yX1_holder, Cond.code yX1_holder cX1_holder 3 (some .int), Cond.methodLink RX1 78 yX1_isHeld, Cond.instanceMethod yX1_isHeld, Cond.selects RX1 yX1_isHeld yX1_isHeld, Cond.code yX1_isHeld cX1_isHeld 5 (some .boolean), Cond.methodLink RX2 54 yX1_is, Cond.methodLink RX2 61 yX1_chalk_, Cond.instanceMethod yX1_chalk_, Cond.selects RX1 yX1_chalk_ yX1_chalk_, Cond.code yX1_chalk_ cX1_chalk_ 6 none, Cond.methodLink RX1 81 yX1_chalk, Cond.methodLink RL 69 yL_finish, Cond.static yL_finish, Cond.codeWith yL_finish cL_finish 4 (some .int) [(0, 9, 12, 19), (0, 9, 15, 13)]]
def wsL_law0_r9 : List Cond := [Cond.methodLink RL 23 yX0_finish, Cond.instanceMethod yX0_finish, Cond.selects RX0 yX0_finish yX0_finish, Cond.code yX0_finish cX0_finish 2 (some .int), Cond.methodLink RX0 115 yX0_dryUpTo, Cond.instanceMethod yX0_dryUpTo, Cond.selects RX0 yX0_dryUpTo yX0_dryUpTo, Cond.code yX0_dryUpTo cX0_dryUpTo 3 (some .int), Cond.fieldLink RX0 166 "ChalkSlate" "dryLines" "I", Cond.methodLink RX0 227 Lib.Math.max.name, Cond.static Lib.Math.max.name, Cond.initialized "java/lang/Math", Cond.code Lib.Math.max.name Lib.Math.max.code 2 (some .int), Cond.methodLink RL 72 yX2_finish, Cond.instanceMethod yX2_finish, Cond.selects RX2 yX2_finish yX2_finish, Cond.code yX2_finish cX2_finish 2 (some .int), Cond.methodLink RX2 67 yX1_dries, Cond.instanceMethod yX1_dries, Cond.selects RX1 yX1_dries yX1_dries, Cond.code yX1_dries cX1_dries 3 (some .int), Cond.fieldLink RX1 53 "ChalkSlateModel$State" "dry" "I", Cond.methodLink RX1 88 Lib.Math.max.name, Cond.methodLink RL 73 yL_drop]
def wsL_law0_r10 : List Cond := [Cond.static yL_drop, Cond.codeWith yL_drop cL_drop 4 (some .int) [(0, 9, 12, 19), (0, 9, 15, 13)], Cond.methodLink RL 27 yX0_drop, Cond.instanceMethod yX0_drop, Cond.selects RX0 yX0_drop yX0_drop, Cond.code yX0_drop cX0_drop 2 (some .int), Cond.methodLink RX0 118 yX0_undo, Cond.instanceMethod yX0_undo, Cond.selects RX0 yX0_undo yX0_undo, Cond.code yX0_undo cX0_undo 4 (some .int), Cond.methodLink RX0 223 yX0_takeBack, Cond.instanceMethod yX0_takeBack, Cond.selects RX0 yX0_takeBack yX0_takeBack, Cond.code yX0_takeBack cX0_takeBack 3 none, Cond.methodLink RL 75 yX2_drop, Cond.instanceMethod yX2_drop, Cond.selects RX2 yX2_drop yX2_drop, Cond.code yX2_drop cX2_drop 2 (some .int), Cond.methodLink RX2 70 yX1_undo, Cond.instanceMethod yX1_undo, Cond.selects RX1 yX1_undo yX1_undo, Cond.code yX1_undo cX1_undo 4 (some .int), Cond.methodLink RX1 85 yX1_chalk_, Cond.methodLink RL 76 yL_shelve]
def wsL_law0_r11 : List Cond := [Cond.static yL_shelve, Cond.codeWith yL_shelve cL_shelve 4 (some .int) [(0, 9, 12, 19)], Cond.methodLink RL 30 yX0_shelve, Cond.instanceMethod yX0_shelve, Cond.selects RX0 yX0_shelve yX0_shelve, Cond.code yX0_shelve cX0_shelve 4 (some .int), Cond.methodLink RX0 123 yX0_latestLineOf, Cond.instanceMethod yX0_latestLineOf, Cond.selects RX0 yX0_latestLineOf yX0_latestLineOf, Cond.code yX0_latestLineOf cX0_latestLineOf 3 (some .int), Cond.methodLink RL 78 yX2_shelve, Cond.instanceMethod yX2_shelve, Cond.selects RX2 yX2_shelve yX2_shelve, Cond.code yX2_shelve cX2_shelve 3 (some .int), Cond.methodLink RX2 73 yX1_latest, Cond.instanceMethod yX1_latest, Cond.selects RX1 yX1_latest yX1_latest, Cond.code yX1_latest cX1_latest 4 (some .int), Cond.methodLink RL 79 yX0_blow, Cond.instanceMethod yX0_blow, Cond.selects RX0 yX0_blow yX0_blow, Cond.code yX0_blow cX0_blow 1 (some .int), Cond.methodLink RL 82 yX2_blow, Cond.instanceMethod yX2_blow]
def wsL_law0_r12 : List Cond := [Cond.selects RX2 yX2_blow yX2_blow, Cond.code yX2_blow cX2_blow 1 (some .int), Cond.methodLink RL 83 yX0_fall, Cond.instanceMethod yX0_fall, Cond.selects RX0 yX0_fall yX0_fall, Cond.code yX0_fall cX0_fall 3 (some .int), Cond.methodLink RX0 129 arraycopyName, Cond.native arraycopyName, Cond.static arraycopyName, Cond.initialized "java/lang/System", Cond.fieldLink RX0 138 "ChalkSlate" "falls" "I", Cond.methodLink RX0 126 yX0_wipeWhatIsNotDry, Cond.instanceMethod yX0_wipeWhatIsNotDry, Cond.selects RX0 yX0_wipeWhatIsNotDry yX0_wipeWhatIsNotDry, Cond.code yX0_wipeWhatIsNotDry cX0_wipeWhatIsNotDry 2 none, Cond.methodLink RX0 184 yX0_stateByLines, Cond.instanceMethod yX0_stateByLines, Cond.selects RX0 yX0_stateByLines yX0_stateByLines, Cond.code yX0_stateByLines cX0_stateByLines 5 (some .int), Cond.methodLink RX0 216 yX0_stateAfter, Cond.static yX0_stateAfter, Cond.code yX0_stateAfter cX0_stateAfter 2 (some .int), Cond.methodLink RX0 135 yX0_doAnew, Cond.instanceMethod yX0_doAnew]
def wsL_law0_r13 : List Cond := [Cond.selects RX0 yX0_doAnew yX0_doAnew, Cond.code yX0_doAnew cX0_doAnew 3 (some .int), Cond.methodLink RX0 181 yX0_isToDoAnew, Cond.instanceMethod yX0_isToDoAnew, Cond.selects RX0 yX0_isToDoAnew yX0_isToDoAnew, Cond.code yX0_isToDoAnew cX0_isToDoAnew 3 (some .boolean), Cond.methodLink RL 86 yX2_fall, Cond.instanceMethod yX2_fall, Cond.selects RX2 yX2_fall yX2_fall, Cond.code yX2_fall cX2_fall 1 (some .int), Cond.fieldLink RX2 85 "ChalkSlateModel" "falls" "I", Cond.methodLink RX2 82 yX1_fall, Cond.instanceMethod yX1_fall, Cond.selects RX1 yX1_fall yX1_fall, Cond.code yX1_fall cX1_fall 2 none, Cond.fieldLink RX1 94 "ChalkSlateModel$State" "anew" "I", Cond.fieldLink RX1 97 "ChalkSlateModel$State" "first" "I", Cond.fieldLink RX1 100 "ChalkSlateModel$State" "back" "I", Cond.methodLink RX1 103 yX1_undo, Cond.methodLink RL 87 yL_pot, Cond.static yL_pot, Cond.codeWith yL_pot cL_pot 5 (some .int) [(0, 10, 13, 19)], Cond.methodLink RL 33 yX0_pot, Cond.instanceMethod yX0_pot]
def wsL_law0_r14 : List Cond := [Cond.selects RX0 yX0_pot yX0_pot, Cond.code yX0_pot cX0_pot 3 (some .int), Cond.methodLink RX0 147 yX0_potAnswer, Cond.instanceMethod yX0_potAnswer, Cond.selects RX0 yX0_potAnswer yX0_potAnswer, Cond.code yX0_potAnswer cX0_potAnswer 3 (some .int), Cond.methodLink RL 90 yX2_pot, Cond.instanceMethod yX2_pot, Cond.selects RX2 yX2_pot yX2_pot, Cond.code yX2_pot cX2_pot 3 (some .int), Cond.methodLink RX2 91 yX2_potTold, Cond.instanceMethod yX2_potTold, Cond.selects RX2 yX2_potTold yX2_potTold, Cond.code yX2_potTold cX2_potTold 4 (some .int), Cond.methodLink RL 91 yL_dish, Cond.static yL_dish, Cond.codeWith yL_dish cL_dish 5 (some .int) [(0, 10, 13, 19)], Cond.methodLink RL 37 yX0_dish, Cond.instanceMethod yX0_dish, Cond.selects RX0 yX0_dish yX0_dish, Cond.code yX0_dish cX0_dish 3 (some .int), Cond.methodLink RX0 153 yX0_dishAnswer, Cond.instanceMethod yX0_dishAnswer, Cond.selects RX0 yX0_dishAnswer yX0_dishAnswer]
def wsL_law0_r15 : List Cond := [Cond.code yX0_dishAnswer cX0_dishAnswer 3 (some .int), Cond.methodLink RX0 201 yX0_linesOf, Cond.instanceMethod yX0_linesOf, Cond.selects RX0 yX0_linesOf yX0_linesOf, Cond.code yX0_linesOf cX0_linesOf 4 (some .int), Cond.methodLink RX0 207 yX0_potsHeldBy, Cond.instanceMethod yX0_potsHeldBy, Cond.selects RX0 yX0_potsHeldBy yX0_potsHeldBy, Cond.code yX0_potsHeldBy cX0_potsHeldBy 4 (some .int), Cond.methodLink RX0 210 yX0_lastLineOf, Cond.instanceMethod yX0_lastLineOf, Cond.selects RX0 yX0_lastLineOf yX0_lastLineOf, Cond.code yX0_lastLineOf cX0_lastLineOf 3 (some .int), Cond.methodLink RL 93 yX2_dish, Cond.instanceMethod yX2_dish, Cond.selects RX2 yX2_dish yX2_dish, Cond.code yX2_dish cX2_dish 3 (some .int), Cond.methodLink RX2 105 yX2_dishTold, Cond.instanceMethod yX2_dishTold, Cond.selects RX2 yX2_dishTold yX2_dishTold, Cond.code yX2_dishTold cX2_dishTold 7 (some .int), Cond.methodLink RX2 98 yX1_isHeld, Cond.methodLink RX2 102 yX1_kept, Cond.methodLink RL 94 yL_line]
def wsL_law0_r16 : List Cond := [Cond.static yL_line, Cond.codeWith yL_line cL_line 5 (some .int) [(0, 10, 13, 19)], Cond.methodLink RL 40 yX0_line, Cond.instanceMethod yX0_line, Cond.selects RX0 yX0_line yX0_line, Cond.code yX0_line cX0_line 3 (some .int), Cond.methodLink RX0 158 yX0_lineAnswer, Cond.instanceMethod yX0_lineAnswer, Cond.selects RX0 yX0_lineAnswer yX0_lineAnswer, Cond.code yX0_lineAnswer cX0_lineAnswer 3 (some .int), Cond.methodLink RL 96 yX2_line, Cond.instanceMethod yX2_line, Cond.selects RX2 yX2_line yX2_line, Cond.code yX2_line cX2_line 3 (some .int), Cond.methodLink RX2 126 yX2_lineTold, Cond.instanceMethod yX2_lineTold, Cond.selects RX2 yX2_lineTold yX2_lineTold, Cond.code yX2_lineTold cX2_lineTold 4 (some .int), Cond.methodLink RL 97 yL_count, Cond.static yL_count, Cond.codeWith yL_count cL_count 4 (some .int) [(0, 9, 12, 19)], Cond.methodLink RL 43 yX0_count, Cond.instanceMethod yX0_count, Cond.selects RX0 yX0_count yX0_count]
def wsL_law0_r17 : List Cond := [Cond.code yX0_count cX0_count 2 (some .int), Cond.methodLink RX0 163 yX0_countAnswer, Cond.instanceMethod yX0_countAnswer, Cond.selects RX0 yX0_countAnswer yX0_countAnswer, Cond.code yX0_countAnswer cX0_countAnswer 2 (some .int), Cond.methodLink RX0 213 yX0_dishesThatAre, Cond.instanceMethod yX0_dishesThatAre, Cond.selects RX0 yX0_dishesThatAre yX0_dishesThatAre, Cond.code yX0_dishesThatAre cX0_dishesThatAre 4 (some .int), Cond.methodLink RX0 191 yX0_sumOf, Cond.static yX0_sumOf, Cond.code yX0_sumOf cX0_sumOf 3 (some .int), Cond.methodLink RL 99 yX2_count, Cond.instanceMethod yX2_count, Cond.selects RX2 yX2_count yX2_count, Cond.code yX2_count cX2_count 2 (some .int), Cond.methodLink RX2 136 yX2_counted, Cond.instanceMethod yX2_counted, Cond.selects RX2 yX2_counted yX2_counted, Cond.code yX2_counted cX2_counted 2 (some .int), Cond.methodLink RX2 129 yX1_are, Cond.instanceMethod yX1_are, Cond.selects RX1 yX1_are yX1_are, Cond.code yX1_are cX1_are 4 (some .int)]
def wsL_law0_r18 : List Cond := [Cond.methodLink RX2 132 yX1_sum, Cond.instanceMethod yX1_sum, Cond.selects RX1 yX1_sum yX1_sum, Cond.code yX1_sum cX1_sum 7 (some .int), Cond.methodLink RL 100 yL_would, Cond.static yL_would, Cond.codeWith yL_would cL_would 4 (some .int) [(0, 9, 12, 19)], Cond.methodLink RL 46 yX0_would, Cond.instanceMethod yX0_would, Cond.selects RX0 yX0_would yX0_would, Cond.code yX0_would cX0_would 2 (some .int), Cond.methodLink RX0 169 yX0_linesToDoAnew, Cond.instanceMethod yX0_linesToDoAnew, Cond.selects RX0 yX0_linesToDoAnew yX0_linesToDoAnew, Cond.code yX0_linesToDoAnew cX0_linesToDoAnew 3 (some .int), Cond.methodLink RX0 172 yX0_linesToTakeBack, Cond.instanceMethod yX0_linesToTakeBack, Cond.selects RX0 yX0_linesToTakeBack yX0_linesToTakeBack, Cond.code yX0_linesToTakeBack cX0_linesToTakeBack 3 (some .int), Cond.methodLink RX0 175 yX0_firstLineToDoAnew, Cond.instanceMethod yX0_firstLineToDoAnew, Cond.selects RX0 yX0_firstLineToDoAnew yX0_firstLineToDoAnew, Cond.code yX0_firstLineToDoAnew cX0_firstLineToDoAnew 2 (some .int), Cond.methodLink RX0 178 yX0_dishesToForget]
def wsL_law0_r19 : List Cond := [Cond.instanceMethod yX0_dishesToForget, Cond.selects RX0 yX0_dishesToForget yX0_dishesToForget, Cond.code yX0_dishesToForget cX0_dishesToForget 4 (some .int), Cond.methodLink RL 102 yX2_would, Cond.instanceMethod yX2_would, Cond.selects RX2 yX2_would yX2_would, Cond.code yX2_would cX2_would 3 (some .int), Cond.methodLink RX2 139 yX1_become, Cond.instanceMethod yX1_become, Cond.selects RX1 yX1_become yX1_become, Cond.code yX1_become cX1_become 2 none, Cond.methodLink RX1 56 yX1_copy, Cond.instanceMethod yX1_copy, Cond.selects RX1 yX1_copy yX1_copy, Cond.code yX1_copy cX1_copy 3 none, Cond.methodLink RX1 43 arraycopyName, Cond.methodLink RL 103 yL_left, Cond.static yL_left, Cond.codeWith yL_left cL_left 4 (some .int) [(0, 9, 12, 19)], Cond.methodLink RL 49 yX0_left, Cond.instanceMethod yX0_left, Cond.selects RX0 yX0_left yX0_left, Cond.code yX0_left cX0_left 4 (some .int), Cond.methodLink RX0 187 yX0_spoonsAfterUndoing]
def wsL_law0_r20 : List Cond := [Cond.instanceMethod yX0_spoonsAfterUndoing, Cond.selects RX0 yX0_spoonsAfterUndoing yX0_spoonsAfterUndoing, Cond.code yX0_spoonsAfterUndoing cX0_spoonsAfterUndoing 6 (some .int), Cond.methodLink RL 105 yX2_left, Cond.instanceMethod yX2_left, Cond.selects RX2 yX2_left yX2_left, Cond.code yX2_left cX2_left 2 (some .int), Cond.methodLink RL 106 yX0_mean, Cond.instanceMethod yX0_mean, Cond.selects RX0 yX0_mean yX0_mean, Cond.code yX0_mean cX0_mean 1 (some .double), Cond.constantDouble RX0 195 (4620693217682128896), Cond.methodLink RL 110 yX2_mean, Cond.instanceMethod yX2_mean, Cond.selects RX2 yX2_mean yX2_mean, Cond.code yX2_mean cX2_mean 1 (some .double), Cond.constantDouble RX2 149 (4620693217682128896), Cond.methodLink RL 111 yX0_digest, Cond.instanceMethod yX0_digest, Cond.selects RX0 yX0_digest yX0_digest, Cond.code yX0_digest cX0_digest 5 (some .long), Cond.constantLong RX0 197 (1291), Cond.constantLong RX0 199 (31), Cond.methodLink RL 115 yX2_digest]
def wsL_law0_r21 : List Cond := [Cond.instanceMethod yX2_digest, Cond.selects RX2 yX2_digest yX2_digest, Cond.code yX2_digest cX2_digest 5 (some .long), Cond.constantLong RX2 151 (1291), Cond.constantLong RX2 153 (31)]
def wsL_law0 : List Cond := (wsL_law0_r1 ++ (wsL_law0_r2 ++ (wsL_law0_r3 ++ (wsL_law0_r4 ++ (wsL_law0_r5 ++ (wsL_law0_r6 ++ (wsL_law0_r7 ++ (wsL_law0_r8 ++ (wsL_law0_r9 ++ (wsL_law0_r10 ++ (wsL_law0_r11 ++ (wsL_law0_r12 ++ (wsL_law0_r13 ++ (wsL_law0_r14 ++ (wsL_law0_r15 ++ (wsL_law0_r16 ++ (wsL_law0_r17 ++ (wsL_law0_r18 ++ (wsL_law0_r19 ++ (wsL_law0_r20 ++ wsL_law0_r21)))))))))))))))))))) ++ wsX00 ++ wsX20 ++ wsX10 ++ ([] : List Cond)
def wsL_law : List Cond := wsL_law0 ++ (vx_atS RX0 57 "java/lang/IllegalStateException" ["java/lang/RuntimeException", "java/lang/Exception"]).filter goodWord ++ (vx_atS RX0 85 "java/lang/IndexOutOfBoundsException" ["java/lang/RuntimeException", "java/lang/Exception"]).filter goodWord ++ (vx_atS RX0 90 "java/lang/IllegalArgumentException" ["java/lang/RuntimeException", "java/lang/Exception"]).filter goodWord
