section
-- ===== PART A: goes FIRST, ahead of the names: the tables' words, and 'selects' of the private methods out of them =====
/-- a private method of a class that the tables say can be made, by its rows of tables_1 -/
def lw_okq (q : MethodName × Nat) : Prop := (q.1.cls ≠ "java/lang/invoke/MethodHandle" ∧ q.1.cls ≠ "java/lang/invoke/VarHandle") ∧ Cond.instantiable q.1.cls q.2 ∈ tables_1 ∧ Cond.privateMethod q.1 ∈ tables_1 ∧ Cond.instanceMethod q.1 ∈ tables_1
theorem lw_p0 : lw_okq (⟨"ChalkSlate", "dryUpTo", "(I)I"⟩, 15) := ⟨⟨by decide +kernel, by decide +kernel⟩, List.mem_of_getElem? (i := 14) (by decide +kernel), List.mem_of_getElem? (i := 76) (by decide +kernel), List.mem_of_getElem? (i := 77) (by decide +kernel)⟩
theorem lw_p1 : lw_okq (⟨"ChalkSlate", "wipeWhatIsNotDry", "()V"⟩, 15) := ⟨⟨by decide +kernel, by decide +kernel⟩, List.mem_of_getElem? (i := 14) (by decide +kernel), List.mem_of_getElem? (i := 87) (by decide +kernel), List.mem_of_getElem? (i := 88) (by decide +kernel)⟩
theorem lw_p2 : lw_okq (⟨"ChalkSlate", "stateByLines", "(II)I"⟩, 15) := ⟨⟨by decide +kernel, by decide +kernel⟩, List.mem_of_getElem? (i := 14) (by decide +kernel), List.mem_of_getElem? (i := 100) (by decide +kernel), List.mem_of_getElem? (i := 101) (by decide +kernel)⟩
theorem lw_p3 : lw_okq (⟨"ChalkSlate", "doAnew", "()I"⟩, 15) := ⟨⟨by decide +kernel, by decide +kernel⟩, List.mem_of_getElem? (i := 14) (by decide +kernel), List.mem_of_getElem? (i := 110) (by decide +kernel), List.mem_of_getElem? (i := 111) (by decide +kernel)⟩
theorem lw_p4 : lw_okq (⟨"ChalkSlate", "isToDoAnew", "(I)Z"⟩, 15) := ⟨⟨by decide +kernel, by decide +kernel⟩, List.mem_of_getElem? (i := 14) (by decide +kernel), List.mem_of_getElem? (i := 114) (by decide +kernel), List.mem_of_getElem? (i := 115) (by decide +kernel)⟩
theorem lw_p5 : lw_okq (⟨"ChalkSlate", "isOpen", "(I)Z"⟩, 15) := ⟨⟨by decide +kernel, by decide +kernel⟩, List.mem_of_getElem? (i := 14) (by decide +kernel), List.mem_of_getElem? (i := 118) (by decide +kernel), List.mem_of_getElem? (i := 119) (by decide +kernel)⟩
theorem lw_p6 : lw_okq (⟨"ChalkSlate", "undo", "(I)I"⟩, 15) := ⟨⟨by decide +kernel, by decide +kernel⟩, List.mem_of_getElem? (i := 14) (by decide +kernel), List.mem_of_getElem? (i := 122) (by decide +kernel), List.mem_of_getElem? (i := 123) (by decide +kernel)⟩
theorem lw_p7 : lw_okq (⟨"ChalkSlate", "isChangeNotTakenBack", "(III)Z"⟩, 15) := ⟨⟨by decide +kernel, by decide +kernel⟩, List.mem_of_getElem? (i := 14) (by decide +kernel), List.mem_of_getElem? (i := 126) (by decide +kernel), List.mem_of_getElem? (i := 127) (by decide +kernel)⟩
theorem lw_p8 : lw_okq (⟨"ChalkSlate", "takeBack", "(I)V"⟩, 15) := ⟨⟨by decide +kernel, by decide +kernel⟩, List.mem_of_getElem? (i := 14) (by decide +kernel), List.mem_of_getElem? (i := 130) (by decide +kernel), List.mem_of_getElem? (i := 131) (by decide +kernel)⟩
theorem lw_p9 : lw_okq (⟨"ChalkSlate", "chalkSpoons", "(IIII)V"⟩, 15) := ⟨⟨by decide +kernel, by decide +kernel⟩, List.mem_of_getElem? (i := 14) (by decide +kernel), List.mem_of_getElem? (i := 134) (by decide +kernel), List.mem_of_getElem? (i := 135) (by decide +kernel)⟩
theorem lw_p10 : lw_okq (⟨"ChalkSlate", "chalk", "(II)V"⟩, 15) := ⟨⟨by decide +kernel, by decide +kernel⟩, List.mem_of_getElem? (i := 14) (by decide +kernel), List.mem_of_getElem? (i := 138) (by decide +kernel), List.mem_of_getElem? (i := 139) (by decide +kernel)⟩
theorem lw_p11 : lw_okq (⟨"ChalkSlate", "countAnswer", "(I)I"⟩, 15) := ⟨⟨by decide +kernel, by decide +kernel⟩, List.mem_of_getElem? (i := 14) (by decide +kernel), List.mem_of_getElem? (i := 156) (by decide +kernel), List.mem_of_getElem? (i := 157) (by decide +kernel)⟩
theorem lw_p12 : lw_okq (⟨"ChalkSlate", "dishesThatAre", "(I)I"⟩, 15) := ⟨⟨by decide +kernel, by decide +kernel⟩, List.mem_of_getElem? (i := 14) (by decide +kernel), List.mem_of_getElem? (i := 160) (by decide +kernel), List.mem_of_getElem? (i := 161) (by decide +kernel)⟩
theorem lw_p13 : lw_okq (⟨"ChalkSlate", "roomLeft", "()I"⟩, 15) := ⟨⟨by decide +kernel, by decide +kernel⟩, List.mem_of_getElem? (i := 14) (by decide +kernel), List.mem_of_getElem? (i := 164) (by decide +kernel), List.mem_of_getElem? (i := 165) (by decide +kernel)⟩
theorem lw_p14 : lw_okq (⟨"ChalkSlate", "changesNotTakenBack", "(II)I"⟩, 15) := ⟨⟨by decide +kernel, by decide +kernel⟩, List.mem_of_getElem? (i := 14) (by decide +kernel), List.mem_of_getElem? (i := 168) (by decide +kernel), List.mem_of_getElem? (i := 169) (by decide +kernel)⟩
theorem lw_p15 : lw_okq (⟨"ChalkSlate", "potAnswer", "(II)I"⟩, 15) := ⟨⟨by decide +kernel, by decide +kernel⟩, List.mem_of_getElem? (i := 14) (by decide +kernel), List.mem_of_getElem? (i := 172) (by decide +kernel), List.mem_of_getElem? (i := 173) (by decide +kernel)⟩
def lw_privs_1 : List (MethodName × Nat) := [(⟨"ChalkSlate", "dryUpTo", "(I)I"⟩, 15), (⟨"ChalkSlate", "wipeWhatIsNotDry", "()V"⟩, 15), (⟨"ChalkSlate", "stateByLines", "(II)I"⟩, 15), (⟨"ChalkSlate", "doAnew", "()I"⟩, 15), (⟨"ChalkSlate", "isToDoAnew", "(I)Z"⟩, 15), (⟨"ChalkSlate", "isOpen", "(I)Z"⟩, 15), (⟨"ChalkSlate", "undo", "(I)I"⟩, 15), (⟨"ChalkSlate", "isChangeNotTakenBack", "(III)Z"⟩, 15), (⟨"ChalkSlate", "takeBack", "(I)V"⟩, 15), (⟨"ChalkSlate", "chalkSpoons", "(IIII)V"⟩, 15), (⟨"ChalkSlate", "chalk", "(II)V"⟩, 15), (⟨"ChalkSlate", "countAnswer", "(I)I"⟩, 15), (⟨"ChalkSlate", "dishesThatAre", "(I)I"⟩, 15), (⟨"ChalkSlate", "roomLeft", "()I"⟩, 15), (⟨"ChalkSlate", "changesNotTakenBack", "(II)I"⟩, 15), (⟨"ChalkSlate", "potAnswer", "(II)I"⟩, 15)]
theorem lw_r1 : ∀ q ∈ lw_privs_1, lw_okq q := List.forall_mem_cons.mpr ⟨lw_p0, List.forall_mem_cons.mpr ⟨lw_p1, List.forall_mem_cons.mpr ⟨lw_p2, List.forall_mem_cons.mpr ⟨lw_p3, List.forall_mem_cons.mpr ⟨lw_p4, List.forall_mem_cons.mpr ⟨lw_p5, List.forall_mem_cons.mpr ⟨lw_p6, List.forall_mem_cons.mpr ⟨lw_p7, List.forall_mem_cons.mpr ⟨lw_p8, List.forall_mem_cons.mpr ⟨lw_p9, List.forall_mem_cons.mpr ⟨lw_p10, List.forall_mem_cons.mpr ⟨lw_p11, List.forall_mem_cons.mpr ⟨lw_p12, List.forall_mem_cons.mpr ⟨lw_p13, List.forall_mem_cons.mpr ⟨lw_p14, List.forall_mem_cons.mpr ⟨lw_p15, fun _ h => absurd h List.not_mem_nil⟩⟩⟩⟩⟩⟩⟩⟩⟩⟩⟩⟩⟩⟩⟩⟩
theorem lw_p16 : lw_okq (⟨"ChalkSlate", "holderOf", "(I)I"⟩, 15) := ⟨⟨by decide +kernel, by decide +kernel⟩, List.mem_of_getElem? (i := 14) (by decide +kernel), List.mem_of_getElem? (i := 176) (by decide +kernel), List.mem_of_getElem? (i := 177) (by decide +kernel)⟩
theorem lw_p17 : lw_okq (⟨"ChalkSlate", "latestLineOf", "(I)I"⟩, 15) := ⟨⟨by decide +kernel, by decide +kernel⟩, List.mem_of_getElem? (i := 14) (by decide +kernel), List.mem_of_getElem? (i := 180) (by decide +kernel), List.mem_of_getElem? (i := 181) (by decide +kernel)⟩
theorem lw_p18 : lw_okq (⟨"ChalkSlate", "dishAnswer", "(II)I"⟩, 15) := ⟨⟨by decide +kernel, by decide +kernel⟩, List.mem_of_getElem? (i := 14) (by decide +kernel), List.mem_of_getElem? (i := 184) (by decide +kernel), List.mem_of_getElem? (i := 185) (by decide +kernel)⟩
theorem lw_p19 : lw_okq (⟨"ChalkSlate", "linesOf", "(I)I"⟩, 15) := ⟨⟨by decide +kernel, by decide +kernel⟩, List.mem_of_getElem? (i := 14) (by decide +kernel), List.mem_of_getElem? (i := 188) (by decide +kernel), List.mem_of_getElem? (i := 189) (by decide +kernel)⟩
theorem lw_p20 : lw_okq (⟨"ChalkSlate", "potsHeldBy", "(I)I"⟩, 15) := ⟨⟨by decide +kernel, by decide +kernel⟩, List.mem_of_getElem? (i := 14) (by decide +kernel), List.mem_of_getElem? (i := 192) (by decide +kernel), List.mem_of_getElem? (i := 193) (by decide +kernel)⟩
theorem lw_p21 : lw_okq (⟨"ChalkSlate", "lastLineOf", "(I)I"⟩, 15) := ⟨⟨by decide +kernel, by decide +kernel⟩, List.mem_of_getElem? (i := 14) (by decide +kernel), List.mem_of_getElem? (i := 196) (by decide +kernel), List.mem_of_getElem? (i := 197) (by decide +kernel)⟩
theorem lw_p22 : lw_okq (⟨"ChalkSlate", "lineAnswer", "(II)I"⟩, 15) := ⟨⟨by decide +kernel, by decide +kernel⟩, List.mem_of_getElem? (i := 14) (by decide +kernel), List.mem_of_getElem? (i := 200) (by decide +kernel), List.mem_of_getElem? (i := 201) (by decide +kernel)⟩
theorem lw_p23 : lw_okq (⟨"java/lang/Throwable", "fillInStackTrace", "(I)Ljava/lang/Throwable;"⟩, 6) := ⟨⟨by decide +kernel, by decide +kernel⟩, List.mem_of_getElem? (i := 250) (by decide +kernel), List.mem_of_getElem? (i := 248) (by decide +kernel), List.mem_of_getElem? (i := 249) (by decide +kernel)⟩
theorem lw_p24 : lw_okq (⟨"ChalkSlate", "isDish", "(I)Z"⟩, 15) := ⟨⟨by decide +kernel, by decide +kernel⟩, List.mem_of_getElem? (i := 14) (by decide +kernel), List.mem_of_getElem? (i := 290) (by decide +kernel), List.mem_of_getElem? (i := 291) (by decide +kernel)⟩
theorem lw_p25 : lw_okq (⟨"ChalkSlate", "linesToDoAnew", "()I"⟩, 15) := ⟨⟨by decide +kernel, by decide +kernel⟩, List.mem_of_getElem? (i := 14) (by decide +kernel), List.mem_of_getElem? (i := 393) (by decide +kernel), List.mem_of_getElem? (i := 394) (by decide +kernel)⟩
theorem lw_p26 : lw_okq (⟨"ChalkSlate", "linesToTakeBack", "()I"⟩, 15) := ⟨⟨by decide +kernel, by decide +kernel⟩, List.mem_of_getElem? (i := 14) (by decide +kernel), List.mem_of_getElem? (i := 397) (by decide +kernel), List.mem_of_getElem? (i := 398) (by decide +kernel)⟩
theorem lw_p27 : lw_okq (⟨"ChalkSlate", "firstLineToDoAnew", "()I"⟩, 15) := ⟨⟨by decide +kernel, by decide +kernel⟩, List.mem_of_getElem? (i := 14) (by decide +kernel), List.mem_of_getElem? (i := 401) (by decide +kernel), List.mem_of_getElem? (i := 402) (by decide +kernel)⟩
theorem lw_p28 : lw_okq (⟨"ChalkSlate", "dishesToForget", "()I"⟩, 15) := ⟨⟨by decide +kernel, by decide +kernel⟩, List.mem_of_getElem? (i := 14) (by decide +kernel), List.mem_of_getElem? (i := 405) (by decide +kernel), List.mem_of_getElem? (i := 406) (by decide +kernel)⟩
theorem lw_p29 : lw_okq (⟨"ChalkSlate", "spoonsAfterUndoing", "(III)I"⟩, 15) := ⟨⟨by decide +kernel, by decide +kernel⟩, List.mem_of_getElem? (i := 14) (by decide +kernel), List.mem_of_getElem? (i := 416) (by decide +kernel), List.mem_of_getElem? (i := 417) (by decide +kernel)⟩
theorem lw_p30 : lw_okq (⟨"ChalkSlateModel$State", "isTakenBack", "(I)Z"⟩, 15) := ⟨⟨by decide +kernel, by decide +kernel⟩, List.mem_of_getElem? (i := 426) (by decide +kernel), List.mem_of_getElem? (i := 533) (by decide +kernel), List.mem_of_getElem? (i := 534) (by decide +kernel)⟩
theorem lw_p31 : lw_okq (⟨"ChalkSlateModel", "no", "(I)I"⟩, 5) := ⟨⟨by decide +kernel, by decide +kernel⟩, List.mem_of_getElem? (i := 420) (by decide +kernel), List.mem_of_getElem? (i := 537) (by decide +kernel), List.mem_of_getElem? (i := 538) (by decide +kernel)⟩
def lw_privs_2 : List (MethodName × Nat) := [(⟨"ChalkSlate", "holderOf", "(I)I"⟩, 15), (⟨"ChalkSlate", "latestLineOf", "(I)I"⟩, 15), (⟨"ChalkSlate", "dishAnswer", "(II)I"⟩, 15), (⟨"ChalkSlate", "linesOf", "(I)I"⟩, 15), (⟨"ChalkSlate", "potsHeldBy", "(I)I"⟩, 15), (⟨"ChalkSlate", "lastLineOf", "(I)I"⟩, 15), (⟨"ChalkSlate", "lineAnswer", "(II)I"⟩, 15), (⟨"java/lang/Throwable", "fillInStackTrace", "(I)Ljava/lang/Throwable;"⟩, 6), (⟨"ChalkSlate", "isDish", "(I)Z"⟩, 15), (⟨"ChalkSlate", "linesToDoAnew", "()I"⟩, 15), (⟨"ChalkSlate", "linesToTakeBack", "()I"⟩, 15), (⟨"ChalkSlate", "firstLineToDoAnew", "()I"⟩, 15), (⟨"ChalkSlate", "dishesToForget", "()I"⟩, 15), (⟨"ChalkSlate", "spoonsAfterUndoing", "(III)I"⟩, 15), (⟨"ChalkSlateModel$State", "isTakenBack", "(I)Z"⟩, 15), (⟨"ChalkSlateModel", "no", "(I)I"⟩, 5)]
theorem lw_r2 : ∀ q ∈ lw_privs_2, lw_okq q := List.forall_mem_cons.mpr ⟨lw_p16, List.forall_mem_cons.mpr ⟨lw_p17, List.forall_mem_cons.mpr ⟨lw_p18, List.forall_mem_cons.mpr ⟨lw_p19, List.forall_mem_cons.mpr ⟨lw_p20, List.forall_mem_cons.mpr ⟨lw_p21, List.forall_mem_cons.mpr ⟨lw_p22, List.forall_mem_cons.mpr ⟨lw_p23, List.forall_mem_cons.mpr ⟨lw_p24, List.forall_mem_cons.mpr ⟨lw_p25, List.forall_mem_cons.mpr ⟨lw_p26, List.forall_mem_cons.mpr ⟨lw_p27, List.forall_mem_cons.mpr ⟨lw_p28, List.forall_mem_cons.mpr ⟨lw_p29, List.forall_mem_cons.mpr ⟨lw_p30, List.forall_mem_cons.mpr ⟨lw_p31, fun _ h => absurd h List.not_mem_nil⟩⟩⟩⟩⟩⟩⟩⟩⟩⟩⟩⟩⟩⟩⟩⟩
theorem lw_p32 : lw_okq (⟨"ChalkSlateModel", "isDish", "(I)Z"⟩, 5) := ⟨⟨by decide +kernel, by decide +kernel⟩, List.mem_of_getElem? (i := 420) (by decide +kernel), List.mem_of_getElem? (i := 549) (by decide +kernel), List.mem_of_getElem? (i := 550) (by decide +kernel)⟩
theorem lw_p33 : lw_okq (⟨"ChalkSlateModel", "potTold", "(II)I"⟩, 5) := ⟨⟨by decide +kernel, by decide +kernel⟩, List.mem_of_getElem? (i := 420) (by decide +kernel), List.mem_of_getElem? (i := 616) (by decide +kernel), List.mem_of_getElem? (i := 617) (by decide +kernel)⟩
theorem lw_p34 : lw_okq (⟨"ChalkSlateModel", "dishTold", "(II)I"⟩, 5) := ⟨⟨by decide +kernel, by decide +kernel⟩, List.mem_of_getElem? (i := 420) (by decide +kernel), List.mem_of_getElem? (i := 624) (by decide +kernel), List.mem_of_getElem? (i := 625) (by decide +kernel)⟩
theorem lw_p35 : lw_okq (⟨"ChalkSlateModel", "lineTold", "(II)I"⟩, 5) := ⟨⟨by decide +kernel, by decide +kernel⟩, List.mem_of_getElem? (i := 420) (by decide +kernel), List.mem_of_getElem? (i := 634) (by decide +kernel), List.mem_of_getElem? (i := 635) (by decide +kernel)⟩
theorem lw_p36 : lw_okq (⟨"ChalkSlateModel", "counted", "(I)I"⟩, 5) := ⟨⟨by decide +kernel, by decide +kernel⟩, List.mem_of_getElem? (i := 420) (by decide +kernel), List.mem_of_getElem? (i := 642) (by decide +kernel), List.mem_of_getElem? (i := 643) (by decide +kernel)⟩
theorem lw_p37 : lw_okq (⟨"ChalkSlateModel$State", "copy", "([I[I)V"⟩, 15) := ⟨⟨by decide +kernel, by decide +kernel⟩, List.mem_of_getElem? (i := 426) (by decide +kernel), List.mem_of_getElem? (i := 662) (by decide +kernel), List.mem_of_getElem? (i := 663) (by decide +kernel)⟩
def lw_privs_3 : List (MethodName × Nat) := [(⟨"ChalkSlateModel", "isDish", "(I)Z"⟩, 5), (⟨"ChalkSlateModel", "potTold", "(II)I"⟩, 5), (⟨"ChalkSlateModel", "dishTold", "(II)I"⟩, 5), (⟨"ChalkSlateModel", "lineTold", "(II)I"⟩, 5), (⟨"ChalkSlateModel", "counted", "(I)I"⟩, 5), (⟨"ChalkSlateModel$State", "copy", "([I[I)V"⟩, 15)]
theorem lw_r3 : ∀ q ∈ lw_privs_3, lw_okq q := List.forall_mem_cons.mpr ⟨lw_p32, List.forall_mem_cons.mpr ⟨lw_p33, List.forall_mem_cons.mpr ⟨lw_p34, List.forall_mem_cons.mpr ⟨lw_p35, List.forall_mem_cons.mpr ⟨lw_p36, List.forall_mem_cons.mpr ⟨lw_p37, fun _ h => absurd h List.not_mem_nil⟩⟩⟩⟩⟩⟩
def lw_privs : List (MethodName × Nat) := lw_privs_1 ++ (lw_privs_2 ++ (lw_privs_3))
def lw_tbl : List Cond := k2_sels lw_privs ++ tables_1
theorem lw_privs_ok : ∀ q ∈ lw_privs, lw_okq q := by
  show ∀ q ∈ lw_privs_1 ++ (lw_privs_2 ++ (lw_privs_3)), lw_okq q
  exact List.forall_mem_append.mpr ⟨lw_r1, List.forall_mem_append.mpr ⟨lw_r2, lw_r3⟩⟩
/-- the streams that the claim lets the run draw from -/
abbrev lw_cs : List Choice := [Jvm.Choice.named "NaN.bits"]
theorem lw_bits : nanBits ∈ lw_cs := by first | decide | exact List.mem_cons_self | simp [lw_cs, nanBits]
end
section
/-! ===== BEGIN words of one list among another's, by their places ===== -/
theorem goodIn_r {big : List Cond} (ws : List Cond) (ps : List Nat) (hp : ws = ps.filterMap (fun i => big[i]?)) (h : ws.all goodWord = true) : GoodIn big ws := by
  intro w hw
  have h1 := List.all_eq_true.mp h w hw
  rw [hp] at hw
  obtain ⟨i, -, hi⟩ := List.mem_filterMap.mp hw
  have hm : w ∈ big := by first | exact List.mem_of_getElem? hi | exact List.getElem?_mem hi
  exact ⟨hm, good_of_word h1⟩
theorem goodIn_app {big a b : List Cond} (ha : GoodIn big a) (hb : GoodIn big b) : GoodIn big (a ++ b) := fun w h => (List.mem_append.mp h).elim (ha w) (hb w)
theorem goodIn_ca {big a b : List Cond} {c : Cond} (ha : GoodIn big (c :: a)) (hb : GoodIn big b) : GoodIn big (c :: (a ++ b)) := fun w h => (List.mem_cons.mp h).elim (fun e => ha w (List.mem_cons.mpr (Or.inl e))) (fun h => (List.mem_append.mp h).elim (fun h => ha w (List.mem_cons.mpr (Or.inr h))) (hb w))
theorem goodIn_sub {big ws : List Cond} (hm : ∀ w ∈ ws, w ∈ big) (h : ws.all goodWord = true) : GoodIn big ws := fun w hw => ⟨hm w hw, good_of_word (List.all_eq_true.mp h w hw)⟩
/-! ===== END ===== -/

/-! ===== BEGIN exceptions that leave a method, and their catching by the caller (launches without stack traces) ===== -/
section VXA
/-! The laws vx_back, vx_callV, vx_callS, vx_callSW, vx_throw0, vx_throwS follow proofs of the library, with one case more: JvmDerived/Free/Laws.lean (Back.of_free), Shelf42/LK1.lean (callV, callS), Shelf/KitTraced.lean (throwNew0V, throwNewS). -/
/-- where a method has thrown q: the class by its name, the cell, what was written, the world -/
def vx_T (XC : String → State → State → Prop) (st : State) (q : Addr) (t : State) (mc ms : Nat) (free : Addr → Prop) : Prop :=
  ∃ (E : String) (ce : Cell) (L : List Loc), XC E st t ∧ t.heap[q]? = some ce ∧ ce.vm = .none ∧ st.vm.findClass E = some ce.cls ∧ st.WarmedH t.vm ∧ st.sameButNew ({ t with vm := st.vm } : State) L mc ms ∧ ∀ z ∈ L, free z.base
def vx_Q (Qc : Array Value → State → Outcome → State → Prop) (XC : String → State → State → Prop) (mc ms : Nat) (free : Addr → Prop) : Array Value → State → Outcome → State → Prop := fun a st o t =>
  (Qc a st o t ∧ ∃ L, FrameEnd st o t L mc ms ∧ ∀ q ∈ L, free q.base) ∨ ∃ q, o = .threw q ∧ vx_T XC st q t mc ms free
/-- a callee that returns or throws -/
def vx_Met (l : Launch) (y : MethodName) (ws : List Cond) (rm : Room) (Pc : Array Value → State → Prop) (Qc : Array Value → State → Outcome → State → Prop) (XC : String → State → State → Prop) (mc ms : Nat) (free : Addr → Prop) : Prop :=
  MetFree l y (headSpec ws rm) Pc (fun _ _ _ _ _ => True) (vx_Q Qc XC mc ms free)
def vx_Post (XC : String → State → State → Prop) (mc ms : Nat) (free : Addr → Prop) : Pt → Array Value → Addr → Pt → Prop := fun A a q B =>
  ∃ (g : JFrame) (mk : MethodId) (t : State) (L : List Loc) (E : String) (ce : Cell), B.U.heap = t.heap ∧ B.U.vm = t.vm ∧ XC E (A.U.calling g mk a) t ∧ t.heap[q]? = some ce ∧ ce.vm = .none ∧ A.U.vm.findClass E = some ce.cls ∧ B.locs = A.locs ++ L ∧ (∀ z ∈ L, free z.base) ∧ B.cells = A.cells + mc ∧ B.slots = A.slots + ms
def vx_Back (l : Launch) (R : Room) (p : Program) (e : Env) (below : List Frame) (s : State) (sargs : Array Value) (y : MethodName) (len W9 : Nat)
    (Pre : Pt → Array Value → Prop) (Post : Pt → Array Value → Option Value → Pt → Prop) (PostX : Pt → Array Value → Addr → Pt → Prop) : Prop :=
  ∀ (m : MethodId) (meth : Method) (c : Code) (A : Pt) (g : JFrame) (ig : Instr) (mk : MethodId) (a : Array Value),
    Stand p l e R s m sargs below meth c A.U A.locs A.cells A.slots → g.method = m → g.locals.size = c.maxLocals → decode c.code g.pc = .ok (ig, len) →
    2 * g.monitorRoom + (g.stack.map fun v => v.category).sum ≤ W9 → A.U.methodNamed? y = some mk → Pre A a →
    (∃ (v : Option Value) (B : Pt), Stand p l e R s m sargs below meth c B.U B.locs B.cells B.slots ∧ Post A a v B ∧
      Steps p.tables e below (doInvoke e (A.U.setTop g) [] mk a).1 (B.U.setTop { g with pc := g.pc + len, stack := v.toList ++ g.stack })) ∨
    (∃ (q : Addr) (B : Pt), Stand p l e R s m sargs below meth c B.U B.locs B.cells B.slots ∧ PostX A a q B ∧
      Steps p.tables e below (doInvoke e (A.U.setTop g) [] mk a).1 ((B.U.setTop g).pushFrame (.throwing q)))
section Payer
variable {l : Launch} {R : Room} {p : Program} {e : Env} {below : List Frame} {s : State} {sargs : Array Value} {y : MethodName} {len W9 : Nat}
theorem vx_back {ws : List Cond} {rm : Room} {Pc : Array Value → State → Prop} {Qc : Array Value → State → Outcome → State → Prop} {XC : String → State → State → Prop} {mc ms : Nat} {free : Addr → Prop} {bytes : ByteArray} {maxL : Nat} {ret : Option FieldType}
    (hM : vx_Met l y ws rm Pc Qc XC mc ms free) (hblind : FrameBlind Pc) (hrc : rm.cells = mc) (hrs : rm.slots = ms)
    (hframes : rm.frames + 1 ≤ R.frames) (hlocals : W9 + (maxL + 11) + rm.locals ≤ R.locals)
    (hws : ∀ w ∈ ws, ∀ a' U, s.WarmedH U.vm → w.before a' U = true) (hcode : Cond.code y bytes maxL ret ∈ ws) (hinit : ∀ a' U, s.WarmedH U.vm → (Cond.initialized y.cls).before a' U = true) :
    vx_Back l R p e below s sargs y len W9 (PreOf R mc ms Pc) (PostOf Qc mc ms free) (vx_Post XC mc ms free) := by
  intro m meth c A g ig mk a X hg hsize hdg hW hn hp
  have h1 : (headSpec ws rm).pre.before a A.U = true := atoms_intro fun w hw => hws w hw _ _ X.warmed
  have h2 : (Cond.code y bytes maxL ret).before a A.U = true := hws _ hcode _ _ X.warmed
  have h3 : (Cond.initialized y.cls).before a A.U = true := hinit _ _ X.warmed
  have h4 : A.cells + (headSpec ws rm).room.cells ≤ R.cells := by rw [show (headSpec ws rm).room.cells = mc from hrc]; exact hp.1
  have h5 : A.slots + (headSpec ws rm).room.slots ≤ R.slots := by rw [show (headSpec ws rm).room.slots = ms from hrs]; exact hp.2.1
  have hPc : Pc a (A.U.calling g mk a) := hblind _ _ _ _ hp.2.2
  obtain ⟨U, Ls, c0, s0⟩ := A
  dsimp only [Pt.U, Pt.locs, Pt.cells, Pt.slots] at h1 h2 h3 h4 h5 X hn hPc ⊢
  obtain ⟨methY, cY, hmY, hcY, -, hlY, -, -, -, -⟩ := Cond.code_spec hn h2
  obtain ⟨kY, hkY, -⟩ := className_of_methodNamed hn
  have hinitY : kY.init = .initialized := Cond.initialized_spec (findClass_of_methodNamed hn) hkY h3
  have h : At U g.method c below := by rw [hg]; exact X.here
  have hlocals9 : W9 + (maxL + 11) + (headSpec ws rm).room.locals ≤ R.locals := hlocals
  have happ : (headSpec ws rm).appliesLoose y e.platform (U.calling g mk a) = true :=
    Spec.appliesLoose_calling (g := g) h hdg hn hkY hinitY
      (X.room_calling (g := g) (R' := (headSpec ws rm).room) hsize hmY hcY hframes (by rw [hlY]; omega) h4 h5) h1
  obtain ⟨mid, hmid⟩ := h.above
  have hfr : (U.setTop g).frames = (.java g :: mid) ++ below := by rw [State.frames_setTop' g h.top, hmid]; rfl
  obtain ⟨o, s₂, hsteps, -, hend, hq⟩ := Steps.callFree hM p X.admits X.cas X.clock (acts := []) hfr happ hPc trivial
  have hq' : vx_Q Qc XC mc ms free a (U.calling g mk a) o s₂ := hq
  rw [State.frames_setTop' g h.top] at hend
  obtain ⟨g₀, hg0⟩ := Option.isSome_iff_exists.mp h.top
  obtain ⟨r, hr⟩ := State.topJava?_eq_some.mp hg0
  have hr' : (({ U with heap := s₂.heap, slotsUsed := s₂.slotsUsed } : State).setVm s₂.vm).frames = .java g₀ :: r := hr
  rcases hq' with ⟨hqc, L, hfe, hL⟩ | ⟨q, rfl, E, ce, L, hx, hce, hcv, hcl, hW₂, hsm, hL⟩
  · obtain ⟨⟨v, rfl⟩, hW₂, e2, q2, q3, q4, q5, q6⟩ := id hfe
    have e3 : s₂ = ({ (U.calling g mk a).setFrames s₂.frames with heap := s₂.heap, slotsUsed := s₂.slotsUsed } : State).setVm s₂.vm := by
      have : s₂ = ({ s₂ with vm := (U.calling g mk a).vm } : State).setVm s₂.vm := rfl
      rw [e2] at this
      exact this
    obtain ⟨c₂, i₂, len₂, hc₂, hd₂, hf₂⟩ := hend
    have hW' : U.WarmedH s₂.vm := hW₂
    have hcc : c₂ = c := by
      have h1 : s₂.code? g.method = U.code? g.method := by
        rw [State.code?_eq, State.code?_eq, hW'.alike.method?]
      exact Option.some.inj (hc₂.symm.trans (h1.trans h.code))
    subst hcc
    have hlen : len₂ = len := by rw [hdg] at hd₂; cases hd₂; rfl
    subst hlen
    have hs₂ : s₂ = (({ U with heap := s₂.heap, slotsUsed := s₂.slotsUsed } : State).setVm s₂.vm).setTop { g with pc := g.pc + len₂, stack := v.toList ++ g.stack } := by
      refine e3.trans ?_
      rw [hf₂, State.calling_eq h.top, State.setFrames_setFrames, State.setTop_of_frames _ hr', hr]
      rfl
    have hsame : U.sameButNew ({ U with heap := s₂.heap, slotsUsed := s₂.slotsUsed } : State) L mc ms := by
      refine ⟨?_, q2, q3, q4, q5, q6⟩
      obtain ⟨t, ht, -⟩ := State.frames_cons hr
      show ({ U with heap := s₂.heap, slotsUsed := s₂.slotsUsed } : State) = { U.setFrames U.frames with heap := s₂.heap, slotsUsed := s₂.slotsUsed }
      rw [State.setFrames_self ht]
    subst hg
    refine Or.inl ⟨v, ⟨(({ U with heap := s₂.heap, slotsUsed := s₂.slotsUsed } : State).setVm s₂.vm), Ls ++ L, c0 + mc, s0 + ms⟩,
      ⟨X.admits, X.cas, X.clock, X.frames, X.room, X.hears, X.method, X.code, (X.here.setHeapUsed s₂.heap s₂.slotsUsed).setVm hW'.alike, X.tail, State.WarmedH.trans X.warmed hW', X.limits, X.bytes, X.same.trans (hsame.setVm s.vm)⟩,
      ⟨g, mk, s₂, L, rfl, rfl, hqc, rfl, hL, rfl, rfl⟩, ?_⟩
    show Steps p.tables e below _ ((({ U with heap := s₂.heap, slotsUsed := s₂.slotsUsed } : State).setVm s₂.vm).setTop { g with pc := g.pc + len₂, stack := v.toList ++ g.stack })
    rw [← hs₂]
    exact hsteps
  · obtain ⟨e2, q2, q3, q4, q5, q6⟩ := id hsm
    have e3 : s₂ = ({ (U.calling g mk a).setFrames s₂.frames with heap := s₂.heap, slotsUsed := s₂.slotsUsed } : State).setVm s₂.vm := by
      have : s₂ = ({ s₂ with vm := (U.calling g mk a).vm } : State).setVm s₂.vm := rfl
      rw [e2] at this
      exact this
    have hf₂ : s₂.frames = .throwing q :: .java g :: U.frames.tail := hend
    have hW' : U.WarmedH s₂.vm := hW₂
    have hs₂ : s₂ = ((({ U with heap := s₂.heap, slotsUsed := s₂.slotsUsed } : State).setVm s₂.vm).setTop g).pushFrame (.throwing q) := by
      refine e3.trans ?_
      rw [hf₂, State.calling_eq h.top, State.setFrames_setFrames, State.pushFrame, State.frames_setTop _ hr', State.setTop_of_frames _ hr', State.setFrames_setFrames, hr]
      rfl
    have hsame : U.sameButNew ({ U with heap := s₂.heap, slotsUsed := s₂.slotsUsed } : State) L mc ms := by
      refine ⟨?_, q2, q3, q4, q5, q6⟩
      obtain ⟨t, ht, -⟩ := State.frames_cons hr
      show ({ U with heap := s₂.heap, slotsUsed := s₂.slotsUsed } : State) = { U.setFrames U.frames with heap := s₂.heap, slotsUsed := s₂.slotsUsed }
      rw [State.setFrames_self ht]
    subst hg
    refine Or.inr ⟨q, ⟨(({ U with heap := s₂.heap, slotsUsed := s₂.slotsUsed } : State).setVm s₂.vm), Ls ++ L, c0 + mc, s0 + ms⟩,
      ⟨X.admits, X.cas, X.clock, X.frames, X.room, X.hears, X.method, X.code, (X.here.setHeapUsed s₂.heap s₂.slotsUsed).setVm hW'.alike, X.tail, State.WarmedH.trans X.warmed hW', X.limits, X.bytes, X.same.trans (hsame.setVm s.vm)⟩,
      ⟨g, mk, s₂, L, E, ce, rfl, rfl, hx, hce, hcv, hcl, rfl, hL, rfl, rfl⟩, ?_⟩
    show Steps p.tables e below _ (((({ U with heap := s₂.heap, slotsUsed := s₂.slotsUsed } : State).setVm s₂.vm).setTop g).pushFrame (.throwing q))
    rw [← hs₂]
    exact hsteps
end Payer
section Calls
variable {p : Program} {l : Launch} {e : Env} {R : Room} {s : State} {m : MethodId} {args : Array Value} {below : List Frame} {meth : Method} {c : Code} {T : State} {locs : List Loc} {cells slots : Nat}
theorem vx_callV (X : Stand p l e R s m args below meth c T locs cells slots) (hexec : p.tables.exec = Jvm.exec) {own C : String} {index : Nat} {y : MethodName} {bytes : ByteArray} {maxL : Nat} {ret : Option FieldType}
    (hown : s.vm.findClass own = some m.cls) (hlink : (Cond.methodLink own index y).before args s = true) (hinst : (Cond.instanceMethod y).before args s = true) (hsel : (Cond.selects C y y).before args s = true)
    (hcode : (Cond.code y bytes maxL ret).before args s = true) (hy : y.cls ≠ "java/lang/invoke/MethodHandle" ∧ y.cls ≠ "java/lang/invoke/VarHandle")
    {W9 : Nat} {Pre : Pt → Array Value → Prop} {Post : Pt → Array Value → Option Value → Pt → Prop} {PostX : Pt → Array Value → Addr → Pt → Prop} (hK : vx_Back l R p e below s args y 3 W9 Pre Post PostX)
    {b : Addr} {cellB : Cell} (hcell : T.heap[b]? = some cellB) (hobj : cellB.vm.isStatics = false) (hcls : s.vm.findClass C = some cellB.cls)
    {g : JFrame} (hg : g.method = m) (hsize : g.locals.size = c.maxLocals) {argsL rest : List Value} (hlen : ∀ sig, parseMethodDescriptor y.desc = some sig → argsL.length = sig.parameters.length)
    (hstack : g.stack = argsL.reverse ++ .ref b :: rest) (hW : 2 * g.monitorRoom + (rest.map fun v => v.category).sum ≤ W9) (hdg : decode c.code g.pc = .ok (.invokevirtual index, 3))
    (hpre : ∀ vm₁, s.WarmedH vm₁ → Pre ⟨T.setVm vm₁, locs, cells, slots⟩ (Value.ref b :: argsL).toArray) :
    (∃ (v : Option Value) (vm₁ : Vm) (B : Pt), s.WarmedH vm₁ ∧ Stand p l e R s m args below meth c B.U B.locs B.cells B.slots ∧ Post ⟨T.setVm vm₁, locs, cells, slots⟩ (Value.ref b :: argsL).toArray v B ∧
      ∀ target, Steps p.tables e below (B.U.setTop { g with pc := g.pc + 3, stack := v.toList ++ rest }) target → Steps p.tables e below (T.setTop g) target) ∨
    (∃ (q : Addr) (vm₁ : Vm) (B : Pt), s.WarmedH vm₁ ∧ Stand p l e R s m args below meth c B.U B.locs B.cells B.slots ∧ PostX ⟨T.setVm vm₁, locs, cells, slots⟩ (Value.ref b :: argsL).toArray q B ∧
      Steps p.tables e below (T.setTop g) ((B.U.setTop { g with stack := rest }).pushFrame (.throwing q))) := by
  obtain ⟨mk, methM, hnamed, hmethM, hstM, habM⟩ := Cond.instanceMethod_spec hinst
  obtain ⟨methM', cM, hmethM', -, -, -, -, -, -, hsigM⟩ := Cond.code_spec hnamed hcode
  cases hmethM.symm.trans hmethM'
  obtain ⟨c2, r2, m2, q1, q2, q3, q4, kP, hkP, hkPi⟩ := Cond.selects_spec hsel
  cases hcls.symm.trans q1
  cases (State.methodFound?_of_named hnamed hy).symm.trans q2
  cases hnamed.symm.trans q3
  have hselP : selectMethod e.platform s.vm cellB.cls mk = .method mk := by rw [Launch.admits_selectMethod X.admits]; exact q4
  obtain ⟨vm₁, X₁, hstep₁⟩ := X.invokevirtual hexec hown hlink hnamed hmethM hstM hkP hkPi hy (a := b) (cell := cellB) hcell
    (fun z h => by rw [h] at hobj; cases hobj) hselP hmethM habM hkP hkPi (g := g) hg (argsL := argsL) (rest := rest) (hlen _ hsigM) hstack hdg
  rcases hK m meth c ⟨T.setVm vm₁, locs, cells, slots⟩ { g with stack := rest } (.invokevirtual index) mk (Value.ref b :: argsL).toArray X₁ hg hsize hdg hW (X₁.named hnamed) (hpre vm₁ X₁.warmed) with ⟨v, B, X', hpost, hsteps⟩ | ⟨q, B, X', hpost, hsteps⟩
  · exact Or.inl ⟨v, vm₁, B, X₁.warmed, X', hpost, fun target h => hstep₁ _ fun acts => by rw [doInvoke_state]; exact hsteps.trans h⟩
  · exact Or.inr ⟨q, vm₁, B, X₁.warmed, X', hpost, hstep₁ _ fun acts => by rw [doInvoke_state]; exact hsteps⟩
theorem vx_callS (X : Stand p l e R s m args below meth c T locs cells slots) (hexec : p.tables.exec = Jvm.exec) {own : String} {index : Nat} {y : MethodName} {bytes : ByteArray} {maxL : Nat} {ret : Option FieldType}
    (hown : s.vm.findClass own = some m.cls) (hlink : (Cond.methodLink own index y).before args s = true) (hstat : (Cond.static y).before args s = true) (hinit : (Cond.initialized y.cls).before args s = true)
    (hcode : (Cond.code y bytes maxL ret).before args s = true) (hy : y.cls ≠ "java/lang/invoke/MethodHandle" ∧ y.cls ≠ "java/lang/invoke/VarHandle")
    {W9 : Nat} {Pre : Pt → Array Value → Prop} {Post : Pt → Array Value → Option Value → Pt → Prop} {PostX : Pt → Array Value → Addr → Pt → Prop} (hK : vx_Back l R p e below s args y 3 W9 Pre Post PostX)
    {g : JFrame} (hg : g.method = m) (hsize : g.locals.size = c.maxLocals) {argsL rest : List Value} (hlen : ∀ sig, parseMethodDescriptor y.desc = some sig → argsL.length = sig.parameters.length)
    (hstack : g.stack = argsL.reverse ++ rest) (hW : 2 * g.monitorRoom + (rest.map fun v => v.category).sum ≤ W9) (hdg : decode c.code g.pc = .ok (.invokestatic index, 3))
    (hpre : ∀ vm₁, s.WarmedH vm₁ → Pre ⟨T.setVm vm₁, locs, cells, slots⟩ argsL.toArray) :
    (∃ (v : Option Value) (vm₁ : Vm) (B : Pt), s.WarmedH vm₁ ∧ Stand p l e R s m args below meth c B.U B.locs B.cells B.slots ∧ Post ⟨T.setVm vm₁, locs, cells, slots⟩ argsL.toArray v B ∧
      ∀ target, Steps p.tables e below (B.U.setTop { g with pc := g.pc + 3, stack := v.toList ++ rest }) target → Steps p.tables e below (T.setTop g) target) ∨
    (∃ (q : Addr) (vm₁ : Vm) (B : Pt), s.WarmedH vm₁ ∧ Stand p l e R s m args below meth c B.U B.locs B.cells B.slots ∧ PostX ⟨T.setVm vm₁, locs, cells, slots⟩ argsL.toArray q B ∧
      Steps p.tables e below (T.setTop g) ((B.U.setTop { g with stack := rest }).pushFrame (.throwing q))) := by
  obtain ⟨mk, hnamed⟩ := Cond.code_named hcode
  obtain ⟨methM, cM, hmethM, -, -, -, -, -, -, hsigM⟩ := Cond.code_spec hnamed hcode
  have hstatic : methM.isStatic = true := Cond.static_spec hnamed hmethM hstat
  obtain ⟨kP, hkP, -⟩ := className_of_methodNamed hnamed
  have hinitP : kP.init = .initialized := Cond.initialized_spec (findClass_of_methodNamed hnamed) hkP hinit
  obtain ⟨vm₁, X₁, hstep₁⟩ := X.invokestatic hexec hown hlink hnamed hmethM hstatic hkP hinitP hy (g := g) hg (argsL := argsL) (rest := rest) (hlen _ hsigM) hstack hdg
  rcases hK m meth c ⟨T.setVm vm₁, locs, cells, slots⟩ { g with stack := rest } (.invokestatic index) mk argsL.toArray X₁ hg hsize hdg hW (X₁.named hnamed) (hpre vm₁ X₁.warmed) with ⟨v, B, X', hpost, hsteps⟩ | ⟨q, B, X', hpost, hsteps⟩
  · exact Or.inl ⟨v, vm₁, B, X₁.warmed, X', hpost, fun target h => hstep₁ _ fun acts => by rw [doInvoke_state]; exact hsteps.trans h⟩
  · exact Or.inr ⟨q, vm₁, B, X₁.warmed, X', hpost, hstep₁ _ fun acts => by rw [doInvoke_state]; exact hsteps⟩
end Calls
theorem vx_cls {s : State} {T : State} {vm₁ : Vm} {E : String} {k : ClassId} (hW : s.WarmedH vm₁) (h : (T.setVm vm₁).vm.findClass E = some k) : s.vm.findClass E = some k := by
  have h1 : vm₁.findClass E = some k := h
  rw [hW.alike.findClass] at h1
  exact h1
/-- the method's frame g, with q thrown over it -/
def vx_W (p : Program) (l : Launch) (e : Env) (R : Room) (s : State) (m : MethodId) (args : Array Value) (below : List Frame) (meth : Method) (c : Code) (H : Heap) (locs : List Loc) (cells slots : Nat) (Q : State → Prop) (g : JFrame) (q : Addr) : Prop :=
  ∀ T : State, T.heap = H → Stand p l e R s m args below meth c T locs cells slots → ∃ t, Steps p.tables e below ((T.setTop g).pushFrame (.throwing q)) t ∧ Q t
def vx_Run (p : Program) (l : Launch) (e : Env) (R : Room) (s : State) (m : MethodId) (args : Array Value) (below : List Frame) (meth : Method) (c : Code) (H : Heap) (locs : List Loc) (cells slots mc ms : Nat) (g : JFrame) (rest : List Value) (Qa : State → Outcome → State → Prop) (XC : String → State → State → Prop) (free : Addr → Prop) : Prop :=
  ∀ T : State, T.heap = H → Stand p l e R s m args below meth c T locs cells slots →
    (∃ (v : Option Value) (st₀ t T' : State) (L : List Loc), st₀.heap = H ∧ Stand p l e R s m args below meth c T' (locs ++ L) (cells + mc) (slots + ms) ∧ (∀ q ∈ L, free q.base) ∧ T'.heap = t.heap ∧ T'.vm = t.vm ∧ Qa st₀ (.returned v) t ∧
      Goes p e below T g T' { g with pc := g.pc + 3, stack := v.toList ++ rest }) ∨
    (∃ (q : Addr) (st₀ t T' : State) (L : List Loc) (E : String) (ce : Cell), st₀.heap = H ∧ Stand p l e R s m args below meth c T' (locs ++ L) (cells + mc) (slots + ms) ∧ (∀ z ∈ L, free z.base) ∧ T'.heap = t.heap ∧ T'.vm = t.vm ∧ XC E st₀ t ∧ t.heap[q]? = some ce ∧ ce.vm = .none ∧ s.vm.findClass E = some ce.cls ∧
      Steps p.tables e below (T.setTop g) ((T'.setTop { g with stack := rest }).pushFrame (.throwing q)))
def vx_X {S : Type} (px : S → Prop) (B : String → S → State → Prop) (A : Nat → Prop) : String → State → State → Prop := fun E st t => ∃ u : S, px u ∧ B E u t ∧ va_F A st t
section Runs
variable {p : Program} {l : Launch} {e : Env} {R : Room} {s : State} {m : MethodId} {args : Array Value} {below : List Frame} {meth : Method} {c : Code} {H : Heap} {locs : List Loc} {cells slots : Nat}
variable {y : MethodName} {bytes cc : ByteArray} {maxL nL mc ms n index : Nat} {ret : Option FieldType} {ws : List Cond} {rm : Room} {Pc : Array Value → State → Prop} {Qc : Array Value → State → Outcome → State → Prop} {XC : String → State → State → Prop} {free : Addr → Prop} {Ts : List Cond} {own C : String} {b : Addr} {As rest : List Value} {g : JFrame}
theorem vx_callBack (cb : CallB R s args own index y bytes maxL ret ws rm mc ms n) (hM : vx_Met l y ws rm Pc Qc XC mc ms free) (hbl : FrameBlind Pc) : vx_Back l R p e below s args y 3 8 (PreOf R mc ms Pc) (PostOf Qc mc ms free) (vx_Post XC mc ms free) := by
  obtain ⟨hrc, hrs, hfr, hlo, hws, hcw, -, hini, -⟩ := cb
  exact vx_back (bytes := bytes) (maxL := maxL) (ret := ret) hM hbl hrc hrs hfr hlo hws hcw (fun a' U hW => word_at hW (Or.inl (by first | rfl | simp [Cond.onTables, Cond.keeps, Cond.steady])) hini)
theorem vx_runV (S : CallFix p m c cc nL s args Ts own) (hM : vx_Met l y ws rm Pc Qc XC mc ms free) (cw : CallW R s args own C index y bytes maxL ret ws rm mc ms n) (hp : PreV s H C b Pc As)
    (hg : g.method = m) (hn : As.length = n) (hsize : g.locals.size = nL) (hstack : g.stack = As.reverse ++ .ref b :: rest) (hW : 2 * g.monitorRoom + (rest.map fun v => v.category).sum ≤ 8) (hdg : decode cc g.pc = .ok (.invokevirtual index, 3)) (hf : cells + mc ≤ R.cells ∧ slots + ms ≤ R.slots) :
    vx_Run p l e R s m args below meth c H locs cells slots mc ms g rest (Qc (Value.ref b :: As).toArray) XC free := by
  have hK : vx_Back l R p e below s args y 3 8 (PreOf R mc ms Pc) (PostOf Qc mc ms free) (vx_Post XC mc ms free) := vx_callBack cw.1 hM hp.1
  obtain ⟨⟨-, -, -, -, -, -, hcode, -, hy, hlen, hl⟩, hin, hse⟩ := cw
  obtain ⟨hx, hb, hml, ho, -⟩ := S
  obtain ⟨-, ⟨cellB, hcB, hoB, hclB⟩, hPc⟩ := hp
  intro T hT X
  rcases vx_callV X hx (C := C) (bytes := bytes) (maxL := maxL) (ret := ret) ho hl hin hse hcode hy hK (by rw [hT]; exact hcB) hoB hclB hg (hsize.trans hml.symm) (argsL := As) (rest := rest) (fun sig h => hn.trans (hlen sig h)) hstack hW (by rw [hb]; exact hdg)
    (fun vm₁ hW₁ => ⟨hf.1, hf.2, hPc (T.setVm vm₁) hT hW₁⟩) with ⟨v, vm₁, ⟨U', l2, c2, s2⟩, hW₁, X', ⟨g', mk, t, L, e1, e2, hq, h1, hL, h2, h3⟩, st⟩ | ⟨q, vm₁, ⟨U', l2, c2, s2⟩, hW₁, X', ⟨g', mk, t, L, E, ce, e1, e2, hq, hce, hcv, hcl, h1, hL, h2, h3⟩, st⟩
  · dsimp only [Pt.U, Pt.locs, Pt.cells, Pt.slots] at X' e1 e2 h1 h2 h3 st
    subst h1; subst h2; subst h3
    exact Or.inl ⟨v, (T.setVm vm₁).calling g' mk (Value.ref b :: As).toArray, t, U', L, hT, X', hL, e1, e2, hq, st⟩
  · dsimp only [Pt.U, Pt.locs, Pt.cells, Pt.slots] at X' e1 e2 h1 h2 h3 st hcl
    subst h1; subst h2; subst h3
    exact Or.inr ⟨q, (T.setVm vm₁).calling g' mk (Value.ref b :: As).toArray, t, U', L, E, ce, hT, X', hL, e1, e2, hq, hce, hcv, vx_cls hW₁ hcl, st⟩
theorem vx_runS (S : CallFix p m c cc nL s args Ts own) (hM : vx_Met l y ws rm Pc Qc XC mc ms free) (cw : CallB R s args own index y bytes maxL ret ws rm mc ms n ∧ (Cond.static y).before args s = true) (hp : PreS s H Pc As)
    (hg : g.method = m) (hn : As.length = n) (hsize : g.locals.size = nL) (hstack : g.stack = As.reverse ++ rest) (hW : 2 * g.monitorRoom + (rest.map fun v => v.category).sum ≤ 8) (hdg : decode cc g.pc = .ok (.invokestatic index, 3)) (hf : cells + mc ≤ R.cells ∧ slots + ms ≤ R.slots) :
    vx_Run p l e R s m args below meth c H locs cells slots mc ms g rest (Qc As.toArray) XC free := by
  have hK : vx_Back l R p e below s args y 3 8 (PreOf R mc ms Pc) (PostOf Qc mc ms free) (vx_Post XC mc ms free) := vx_callBack cw.1 hM hp.1
  obtain ⟨⟨-, -, -, -, -, -, hcode, hini, hy, hlen, hl⟩, hstt⟩ := cw
  obtain ⟨hx, hb, hml, ho, -⟩ := S
  intro T hT X
  rcases vx_callS X hx (bytes := bytes) (maxL := maxL) (ret := ret) ho hl hstt hini hcode hy hK hg (hsize.trans hml.symm) (argsL := As) (rest := rest) (fun sig h => hn.trans (hlen sig h)) hstack hW (by rw [hb]; exact hdg)
    (fun vm₁ hW₁ => ⟨hf.1, hf.2, hp.2 (T.setVm vm₁) hT hW₁⟩) with ⟨v, vm₁, ⟨U', l2, c2, s2⟩, hW₁, X', ⟨g', mk, t, L, e1, e2, hq, h1, hL, h2, h3⟩, st⟩ | ⟨q, vm₁, ⟨U', l2, c2, s2⟩, hW₁, X', ⟨g', mk, t, L, E, ce, e1, e2, hq, hce, hcv, hcl, h1, hL, h2, h3⟩, st⟩
  · dsimp only [Pt.U, Pt.locs, Pt.cells, Pt.slots] at X' e1 e2 h1 h2 h3 st
    subst h1; subst h2; subst h3
    exact Or.inl ⟨v, (T.setVm vm₁).calling g' mk As.toArray, t, U', L, hT, X', hL, e1, e2, hq, st⟩
  · dsimp only [Pt.U, Pt.locs, Pt.cells, Pt.slots] at X' e1 e2 h1 h2 h3 st hcl
    subst h1; subst h2; subst h3
    exact Or.inr ⟨q, (T.setVm vm₁).calling g' mk As.toArray, t, U', L, E, ce, hT, X', hL, e1, e2, hq, hce, hcv, vx_cls hW₁ hcl, st⟩
end Runs
section Rows
variable {p : Program} {l : Launch} {e : Env} {R : Room} {s : State} {m : MethodId} {args : Array Value} {below : List Frame} {meth : Method} {c : Code} {H : Heap} {locs : List Loc} {cells slots : Nat} {Q : State → Prop}
variable {mc ms : Nat} {free : Addr → Prop} {A0 A1 : Nat → Prop} {H0 : Heap} {a : Array Value} {pc : Nat} {ls : Array Slot} {st0 rest : List Value}
theorem vx_keep {st₀ t T' : State} {L : List Loc} (h0 : st₀.heap = H) (e1 : T'.heap = t.heap) (hS : va_S A0 H0 H locs) (hA : ∀ q, q < H.size → A1 q → A0 q) (hf : ∀ q, free q → A0 q) (hL : ∀ q ∈ L, free q.base) (hF : va_F A1 st₀ t) :
    H.size ≤ T'.heap.size ∧ (∀ q : Nat, q < H.size → ¬ A1 q → T'.heap[q]? = H[q]?) ∧ va_S A0 H0 T'.heap (locs ++ L) := by
  obtain ⟨hz, hk⟩ := hF
  rw [h0] at hz hk
  exact ⟨by rw [e1]; exact hz, fun q h1 h2 => by rw [e1]; exact hk q h1 h2,
    ⟨Nat.le_trans hS.1 (by rw [e1]; exact hz), fun q h1 h2 => by rw [e1, hk q (Nat.lt_of_lt_of_le h1 hS.1) (fun z => h2 (hA q (Nat.lt_of_lt_of_le h1 hS.1) z))]; exact hS.2.1 q h1 h2, fun q hq => by
      rcases List.mem_append.mp hq with h | h
      · exact hS.2.2 q h
      · exact hf _ (hL q h)⟩⟩
theorem vx_calli {S SX : Type} {post : Int32 → S → Prop} {px : SX → Prop} {B : S → State → Prop} {BX : String → SX → State → Prop} {AX : Nat → Prop} (hr : vx_Run p l e R s m args below meth c H locs cells slots mc ms (F0 m pc ls st0) rest (va_Qi post B A1 a) (vx_X px BX AX) free) (hS : va_S A0 H0 H locs) (hA : ∀ q, q < H.size → A1 q → A0 q) (hf : ∀ q, free q → A0 q) (hAX : ∀ q, q < H.size → AX q → A0 q)
    (kx : ∀ (E : String) (ce : Cell) (q9 : Addr) (u : SX) (t : State) (H1 : Heap) (locs1 : List Loc), t.heap = H1 → s.vm.Alike t.vm → px u → BX E u t → H.size ≤ H1.size → (∀ q : Nat, q < H.size → ¬ AX q → H1[q]? = H[q]?) → va_S A0 H0 H1 locs1 → H1[q9]? = some ce → ce.vm = .none → s.vm.findClass E = some ce.cls → vx_W p l e R s m args below meth c H1 locs1 (cells + mc) (slots + ms) Q (F0 m pc ls rest) q9)
    (kk : ∀ (r : Int32) (u : S) (t : State) (H1 : Heap) (locs1 : List Loc), t.heap = H1 → s.vm.Alike t.vm → post r u → B u t → H.size ≤ H1.size → (∀ q : Nat, q < H.size → ¬ A1 q → H1[q]? = H[q]?) → va_S A0 H0 H1 locs1 → W p l e R s m args below meth c H1 locs1 (cells + mc) (slots + ms) Q (F0 m (pc + 3) ls (.int r :: rest))) : W p l e R s m args below meth c H locs cells slots Q (F0 m pc ls st0) := by
  intro T hT X
  rcases hr T hT X with ⟨v, st₀, t, T', L, h0, X', hL, e1, e2, ⟨⟨r, u, hv, hp, hb⟩, hF⟩, st⟩ | ⟨q, st₀, t, T', L, E, ce, h0, X', hL, e1, e2, ⟨u, hp, hb, hF⟩, hce, hcv, hcl, st⟩
  · cases hv
    obtain ⟨k1, k2, k3⟩ := vx_keep h0 e1 hS hA hf hL hF
    obtain ⟨t2, a1, b1⟩ := kk r u t T'.heap (locs ++ L) e1.symm (by rw [← e2]; exact X'.warmed.alike) hp hb k1 k2 k3 T' rfl X'
    exact ⟨t2, st t2 a1, b1⟩
  · obtain ⟨k1, k2, k3⟩ := vx_keep h0 e1 hS hAX hf hL hF
    obtain ⟨t2, a1, b1⟩ := kx E ce q u t T'.heap (locs ++ L) e1.symm (by rw [← e2]; exact X'.warmed.alike) hp hb k1 k2 k3 (by rw [e1]; exact hce) hcv hcl T' rfl X'
    exact ⟨t2, st.trans a1, b1⟩
theorem vx_calll {S SX : Type} {post : Int64 → S → Prop} {px : SX → Prop} {B : S → State → Prop} {BX : String → SX → State → Prop} {AX : Nat → Prop} (hr : vx_Run p l e R s m args below meth c H locs cells slots mc ms (F0 m pc ls st0) rest (va_Ql post B A1 a) (vx_X px BX AX) free) (hS : va_S A0 H0 H locs) (hA : ∀ q, q < H.size → A1 q → A0 q) (hf : ∀ q, free q → A0 q) (hAX : ∀ q, q < H.size → AX q → A0 q)
    (kx : ∀ (E : String) (ce : Cell) (q9 : Addr) (u : SX) (t : State) (H1 : Heap) (locs1 : List Loc), t.heap = H1 → s.vm.Alike t.vm → px u → BX E u t → H.size ≤ H1.size → (∀ q : Nat, q < H.size → ¬ AX q → H1[q]? = H[q]?) → va_S A0 H0 H1 locs1 → H1[q9]? = some ce → ce.vm = .none → s.vm.findClass E = some ce.cls → vx_W p l e R s m args below meth c H1 locs1 (cells + mc) (slots + ms) Q (F0 m pc ls rest) q9)
    (kk : ∀ (r : Int64) (u : S) (t : State) (H1 : Heap) (locs1 : List Loc), t.heap = H1 → s.vm.Alike t.vm → post r u → B u t → H.size ≤ H1.size → (∀ q : Nat, q < H.size → ¬ A1 q → H1[q]? = H[q]?) → va_S A0 H0 H1 locs1 → W p l e R s m args below meth c H1 locs1 (cells + mc) (slots + ms) Q (F0 m (pc + 3) ls (.long r :: rest))) : W p l e R s m args below meth c H locs cells slots Q (F0 m pc ls st0) := by
  intro T hT X
  rcases hr T hT X with ⟨v, st₀, t, T', L, h0, X', hL, e1, e2, ⟨⟨r, u, hv, hp, hb⟩, hF⟩, st⟩ | ⟨q, st₀, t, T', L, E, ce, h0, X', hL, e1, e2, ⟨u, hp, hb, hF⟩, hce, hcv, hcl, st⟩
  · cases hv
    obtain ⟨k1, k2, k3⟩ := vx_keep h0 e1 hS hA hf hL hF
    obtain ⟨t2, a1, b1⟩ := kk r u t T'.heap (locs ++ L) e1.symm (by rw [← e2]; exact X'.warmed.alike) hp hb k1 k2 k3 T' rfl X'
    exact ⟨t2, st t2 a1, b1⟩
  · obtain ⟨k1, k2, k3⟩ := vx_keep h0 e1 hS hAX hf hL hF
    obtain ⟨t2, a1, b1⟩ := kx E ce q u t T'.heap (locs ++ L) e1.symm (by rw [← e2]; exact X'.warmed.alike) hp hb k1 k2 k3 (by rw [e1]; exact hce) hcv hcl T' rfl X'
    exact ⟨t2, st.trans a1, b1⟩
theorem vx_callf {S SX : Type} {post : UInt32 → S → Prop} {px : SX → Prop} {B : S → State → Prop} {BX : String → SX → State → Prop} {AX : Nat → Prop} (hr : vx_Run p l e R s m args below meth c H locs cells slots mc ms (F0 m pc ls st0) rest (va_Qf post B A1 a) (vx_X px BX AX) free) (hS : va_S A0 H0 H locs) (hA : ∀ q, q < H.size → A1 q → A0 q) (hf : ∀ q, free q → A0 q) (hAX : ∀ q, q < H.size → AX q → A0 q)
    (kx : ∀ (E : String) (ce : Cell) (q9 : Addr) (u : SX) (t : State) (H1 : Heap) (locs1 : List Loc), t.heap = H1 → s.vm.Alike t.vm → px u → BX E u t → H.size ≤ H1.size → (∀ q : Nat, q < H.size → ¬ AX q → H1[q]? = H[q]?) → va_S A0 H0 H1 locs1 → H1[q9]? = some ce → ce.vm = .none → s.vm.findClass E = some ce.cls → vx_W p l e R s m args below meth c H1 locs1 (cells + mc) (slots + ms) Q (F0 m pc ls rest) q9)
    (kk : ∀ (r : UInt32) (u : S) (t : State) (H1 : Heap) (locs1 : List Loc), t.heap = H1 → s.vm.Alike t.vm → post r u → B u t → H.size ≤ H1.size → (∀ q : Nat, q < H.size → ¬ A1 q → H1[q]? = H[q]?) → va_S A0 H0 H1 locs1 → W p l e R s m args below meth c H1 locs1 (cells + mc) (slots + ms) Q (F0 m (pc + 3) ls (.float r :: rest))) : W p l e R s m args below meth c H locs cells slots Q (F0 m pc ls st0) := by
  intro T hT X
  rcases hr T hT X with ⟨v, st₀, t, T', L, h0, X', hL, e1, e2, ⟨⟨r, u, hv, hp, hb⟩, hF⟩, st⟩ | ⟨q, st₀, t, T', L, E, ce, h0, X', hL, e1, e2, ⟨u, hp, hb, hF⟩, hce, hcv, hcl, st⟩
  · cases hv
    obtain ⟨k1, k2, k3⟩ := vx_keep h0 e1 hS hA hf hL hF
    obtain ⟨t2, a1, b1⟩ := kk r u t T'.heap (locs ++ L) e1.symm (by rw [← e2]; exact X'.warmed.alike) hp hb k1 k2 k3 T' rfl X'
    exact ⟨t2, st t2 a1, b1⟩
  · obtain ⟨k1, k2, k3⟩ := vx_keep h0 e1 hS hAX hf hL hF
    obtain ⟨t2, a1, b1⟩ := kx E ce q u t T'.heap (locs ++ L) e1.symm (by rw [← e2]; exact X'.warmed.alike) hp hb k1 k2 k3 (by rw [e1]; exact hce) hcv hcl T' rfl X'
    exact ⟨t2, st.trans a1, b1⟩
theorem vx_calld {S SX : Type} {post : UInt64 → S → Prop} {px : SX → Prop} {B : S → State → Prop} {BX : String → SX → State → Prop} {AX : Nat → Prop} (hr : vx_Run p l e R s m args below meth c H locs cells slots mc ms (F0 m pc ls st0) rest (va_Qd post B A1 a) (vx_X px BX AX) free) (hS : va_S A0 H0 H locs) (hA : ∀ q, q < H.size → A1 q → A0 q) (hf : ∀ q, free q → A0 q) (hAX : ∀ q, q < H.size → AX q → A0 q)
    (kx : ∀ (E : String) (ce : Cell) (q9 : Addr) (u : SX) (t : State) (H1 : Heap) (locs1 : List Loc), t.heap = H1 → s.vm.Alike t.vm → px u → BX E u t → H.size ≤ H1.size → (∀ q : Nat, q < H.size → ¬ AX q → H1[q]? = H[q]?) → va_S A0 H0 H1 locs1 → H1[q9]? = some ce → ce.vm = .none → s.vm.findClass E = some ce.cls → vx_W p l e R s m args below meth c H1 locs1 (cells + mc) (slots + ms) Q (F0 m pc ls rest) q9)
    (kk : ∀ (r : UInt64) (u : S) (t : State) (H1 : Heap) (locs1 : List Loc), t.heap = H1 → s.vm.Alike t.vm → post r u → B u t → H.size ≤ H1.size → (∀ q : Nat, q < H.size → ¬ A1 q → H1[q]? = H[q]?) → va_S A0 H0 H1 locs1 → W p l e R s m args below meth c H1 locs1 (cells + mc) (slots + ms) Q (F0 m (pc + 3) ls (.double r :: rest))) : W p l e R s m args below meth c H locs cells slots Q (F0 m pc ls st0) := by
  intro T hT X
  rcases hr T hT X with ⟨v, st₀, t, T', L, h0, X', hL, e1, e2, ⟨⟨r, u, hv, hp, hb⟩, hF⟩, st⟩ | ⟨q, st₀, t, T', L, E, ce, h0, X', hL, e1, e2, ⟨u, hp, hb, hF⟩, hce, hcv, hcl, st⟩
  · cases hv
    obtain ⟨k1, k2, k3⟩ := vx_keep h0 e1 hS hA hf hL hF
    obtain ⟨t2, a1, b1⟩ := kk r u t T'.heap (locs ++ L) e1.symm (by rw [← e2]; exact X'.warmed.alike) hp hb k1 k2 k3 T' rfl X'
    exact ⟨t2, st t2 a1, b1⟩
  · obtain ⟨k1, k2, k3⟩ := vx_keep h0 e1 hS hAX hf hL hF
    obtain ⟨t2, a1, b1⟩ := kx E ce q u t T'.heap (locs ++ L) e1.symm (by rw [← e2]; exact X'.warmed.alike) hp hb k1 k2 k3 (by rw [e1]; exact hce) hcv hcl T' rfl X'
    exact ⟨t2, st.trans a1, b1⟩
theorem vx_callv {S SX : Type} {post : S → Prop} {px : SX → Prop} {B : S → State → Prop} {BX : String → SX → State → Prop} {AX : Nat → Prop} (hr : vx_Run p l e R s m args below meth c H locs cells slots mc ms (F0 m pc ls st0) rest (va_Qv post B A1 a) (vx_X px BX AX) free) (hS : va_S A0 H0 H locs) (hA : ∀ q, q < H.size → A1 q → A0 q) (hf : ∀ q, free q → A0 q) (hAX : ∀ q, q < H.size → AX q → A0 q)
    (kx : ∀ (E : String) (ce : Cell) (q9 : Addr) (u : SX) (t : State) (H1 : Heap) (locs1 : List Loc), t.heap = H1 → s.vm.Alike t.vm → px u → BX E u t → H.size ≤ H1.size → (∀ q : Nat, q < H.size → ¬ AX q → H1[q]? = H[q]?) → va_S A0 H0 H1 locs1 → H1[q9]? = some ce → ce.vm = .none → s.vm.findClass E = some ce.cls → vx_W p l e R s m args below meth c H1 locs1 (cells + mc) (slots + ms) Q (F0 m pc ls rest) q9)
    (kk : ∀ (u : S) (t : State) (H1 : Heap) (locs1 : List Loc), t.heap = H1 → s.vm.Alike t.vm → post u → B u t → H.size ≤ H1.size → (∀ q : Nat, q < H.size → ¬ A1 q → H1[q]? = H[q]?) → va_S A0 H0 H1 locs1 → W p l e R s m args below meth c H1 locs1 (cells + mc) (slots + ms) Q (F0 m (pc + 3) ls (rest))) : W p l e R s m args below meth c H locs cells slots Q (F0 m pc ls st0) := by
  intro T hT X
  rcases hr T hT X with ⟨v, st₀, t, T', L, h0, X', hL, e1, e2, ⟨⟨u, hv, hp, hb⟩, hF⟩, st⟩ | ⟨q, st₀, t, T', L, E, ce, h0, X', hL, e1, e2, ⟨u, hp, hb, hF⟩, hce, hcv, hcl, st⟩
  · cases hv
    obtain ⟨k1, k2, k3⟩ := vx_keep h0 e1 hS hA hf hL hF
    obtain ⟨t2, a1, b1⟩ := kk u t T'.heap (locs ++ L) e1.symm (by rw [← e2]; exact X'.warmed.alike) hp hb k1 k2 k3 T' rfl X'
    exact ⟨t2, st t2 a1, b1⟩
  · obtain ⟨k1, k2, k3⟩ := vx_keep h0 e1 hS hAX hf hL hF
    obtain ⟨t2, a1, b1⟩ := kx E ce q u t T'.heap (locs ++ L) e1.symm (by rw [← e2]; exact X'.warmed.alike) hp hb k1 k2 k3 (by rw [e1]; exact hce) hcv hcl T' rfl X'
    exact ⟨t2, st.trans a1, b1⟩
/-- caught by the row x of this method's table; the rows ahead don't take it -/
theorem vx_catch {own name : String} {E : String} {ce : Cell} {q : Addr} (hown : s.vm.findClass own = some m.cls) (pre : List ExceptionTableEntry) (x : ExceptionTableEntry) (suf : List ExceptionTableEntry) (hsplit : c.exceptionTable.toList = pre ++ x :: suf)
    (hpass : ∀ z ∈ pre, covers z pc = false ∨ (z.catchType ≠ 0 ∧ ∃ nm : String, (Cond.classLink own z.catchType nm).before args s = true ∧ va_Nc E nm s)) (hx : covers x pc = true) (h0 : x.catchType ≠ 0)
    (hlink : (Cond.classLink own x.catchType name).before args s = true) (hcast : (Cond.castable E name).before args s = true) (hcell : H[q]? = some ce) (hv : ce.vm = .none) (hcl : s.vm.findClass E = some ce.cls)
    (kk : W p l e R s m args below meth c H locs cells slots Q (F0 m x.handlerPc ls [.ref q])) : vx_W p l e R s m args below meth c H locs cells slots Q (F0 m pc ls rest) q := by
  intro T hT X
  have hpl : e.platform.magicAccessors = ({} : Platform).magicAccessors := by rw [X.admits.platform]
  obtain ⟨c3, c4, hc3, hc4, hasg⟩ := Cond.castable_spec hcast
  cases Option.some.inj (hc3.symm.trans hcl)
  obtain ⟨c5, hc5, hcl5⟩ := Cond.classLink_spec hown hlink e.platform hpl
  cases Option.some.inj (hc4.symm.trans hc5)
  obtain ⟨vm', X', st⟩ := X.thenCaughtThrough q (g := F0 m pc ls rest) rfl (Steps.refl _) (by rw [hT]; exact hcell) (by rw [hv]; rfl) (by obtain ⟨k9, h9, -⟩ := Vm.findClass_spec hcl; exact ⟨k9, h9⟩) pre x suf hsplit
    (fun z hz => by
      rcases hpass z hz with h | ⟨hz0, nm, hl1, hn1⟩
      · exact Or.inl h
      · obtain ⟨c6, hc6, hcl6⟩ := Cond.classLink_spec hown hl1 e.platform hpl
        obtain ⟨a8, b8, h1, h2, h3⟩ := hn1
        cases Option.some.inj (h1.symm.trans hcl)
        cases Option.some.inj (h2.symm.trans hc6)
        exact Or.inr ⟨hz0, _, hcl6, h3⟩) hx (Or.inr ⟨h0, c4, hcl5, hasg⟩)
  obtain ⟨t, a1, b1⟩ := kk (T.setVm vm') hT X'
  exact ⟨t, st.trans a1, b1⟩
end Rows
section Ends
variable {p : Program} {l : Launch} {e : Env} {R : Room} {s : State} {m : MethodId} {args : Array Value} {below : List Frame} {meth : Method} {c : Code} {H : Heap} {locs : List Loc} {cells slots : Nat} {Q : State → Prop}
variable {mc ms : Nat} {free : Addr → Prop} {A0 A1 : Nat → Prop} {H0 : Heap} {a : Array Value} {ls : Array Slot} {st0 rest : List Value}
variable {Qc : Array Value → State → Outcome → State → Prop} {XC : String → State → State → Prop}
/-- what a body that may throw owes at its end -/
def vx_MQ (below : List Frame) (Qc : Array Value → State → Outcome → State → Prop) (XC : String → State → State → Prop) (a : Array Value) (s : State) (mc ms : Nat) (free : Addr → Prop) : State → Prop := fun t =>
  ∃ o, t.status = .running ∧ Ended t below o ∧ vx_Q Qc XC mc ms free a s o t
theorem vx_ret {g : JFrame} {mc ms : Nat} (k : W p l e R s m args below meth c H locs cells slots (MQ below Qc args s mc ms free) g) : W p l e R s m args below meth c H locs cells slots (vx_MQ below Qc XC args s mc ms free) g := by
  intro T hT X
  obtain ⟨t, a1, o, b1, b2, b3, b4⟩ := k T hT X
  exact ⟨t, a1, o, b1, b2, Or.inl ⟨b3, b4⟩⟩
/-- not caught here: it goes on to the caller -/
theorem vx_widen {g : JFrame} {q : Addr} {k n : Nat} (h1 : cells ≤ k) (h2 : slots ≤ n) (kk : vx_W p l e R s m args below meth c H locs k n Q g q) : vx_W p l e R s m args below meth c H locs cells slots Q g q := fun T hT X => kk T hT (stand_widen X h1 h2)
theorem vx_out {pc : Nat} {E : String} {ce : Cell} {q : Addr} {mc ms : Nat} (hout : ∀ x ∈ c.exceptionTable.toList, covers x pc = false) (hlocks : meth.locks = false) (hcell : H[q]? = some ce) (hv : ce.vm = .none) (hcl : s.vm.findClass E = some ce.cls)
    (hx : ∀ t : State, t.heap = H → s.vm.Alike t.vm → XC E s t) (hf : ∀ z ∈ locs, free z.base) (hc : cells ≤ mc) (hs : slots ≤ ms) :
    vx_W p l e R s m args below meth c H locs cells slots (vx_MQ below Qc XC args s mc ms free) (F0 m pc ls rest) q := by
  intro T hT X
  obtain ⟨st1, hrun, hend, hW, hsm⟩ := X.leaveThrown q (g := F0 m pc ls rest) rfl rfl rfl hout hlocks
  have hcell9 : (T.setFrames (.throwing q :: below)).heap[q]? = some ce := by
    show T.heap[q]? = some ce
    rw [hT]; exact hcell
  exact ⟨_, st1, .threw q, hrun, hend, Or.inr ⟨q, rfl, E, ce, locs, hx _ hT hW.alike, hcell9, hv, hcl, hW, hsm.mono hc hs, hf⟩⟩
theorem vx_frame {U : State} {k n : Nat} (h : s.sameButNew ({ U with vm := s.vm } : State) locs k n) : s.heap.size ≤ U.heap.size ∧ ∀ q : Nat, q < s.heap.size → (∀ z ∈ locs, z.base ≠ q) → U.heap[q]? = s.heap[q]? := by
  obtain ⟨-, h2, -, -, -, h6⟩ := h
  refine ⟨h2, fun q hq hz => ?_⟩
  obtain ⟨c9, e1, e2, e3, e4⟩ := h6 q _ (Array.getElem?_eq_getElem hq)
  have hs : c9.slots = (s.heap[q]).slots := Array.ext_getElem? fun i => e4 i fun hm => hz _ hm rfl
  have h9 : c9 = s.heap[q] := by
    rw [hs] at e2
    exact e2
  have e5 : U.heap[q]? = some c9 := e1
  rw [e5, h9, Array.getElem?_eq_getElem hq]
/-- the words of a throw but the four that speak of the heap -/
def vx_no (w : Cond) : Bool := decide (w ≠ .isRef (.static Bundle.tN "UNASSIGNED_STACK" Bundle.steD)) && decide (w ≠ .isRef (.static Bundle.tN "SUPPRESSED_SENTINEL" Bundle.listD)) && decide (w ≠ .laysStatic Bundle.tN "UNASSIGNED_STACK" Bundle.steD) && decide (w ≠ .laysStatic Bundle.tN "SUPPRESSED_SENTINEL" Bundle.listD)
def vx_at0 (own : String) (ic : Nat) (X : String) (names : List String) : List Cond := (Bundle.ownAtoms0 own ic X names).filter vx_no
def vx_atS (own : String) (ic : Nat) (X : String) (names : List String) : List Cond := (Bundle.ownAtoms own ic X names).filter vx_no
/-- a word that the tables alone decide, or a good one -/
def vx_ot (w : Cond) : Bool := w.onTables || goodWord w
theorem vx_ot_at {args a' : Array Value} {s U : State} {w : Cond} (hW : s.WarmedH U.vm) (hvm : s.vm = U.vm) (hg : vx_ot w = true) (h : w.before args s = true) : w.before a' U = true := by
  simp only [vx_ot, Bool.or_eq_true] at hg
  rcases hg with hg | hg
  · exact va_tabs hg hvm h
  · exact word_at hW (good_of_word hg) h
/-- a list's words: the good ones out of the method's own list, the others by premises of their own -/
theorem vx_hat {args : Array Value} {s : State} {L B : List Cond} (h1 : ∀ w ∈ L.filter goodWord, w.before args s = true) (h2 : ∀ w ∈ L.filter (fun w => !goodWord w), w ∈ B) (h3 : ∀ w ∈ B, w.before args s = true) : ∀ w ∈ L, w.before args s = true := by
  intro w hw
  by_cases g : goodWord w = true
  · exact h1 w (List.mem_filter.mpr ⟨hw, g⟩)
  · refine h3 w (h2 w (List.mem_filter.mpr ⟨hw, ?_⟩))
    show (!goodWord w) = true
    cases hgw : goodWord w
    · rfl
    · exact absurd hgw g
theorem vx_c {args : Array Value} {s : State} {w : Cond} {B : List Cond} (h : w.before args s = true) (t : ∀ w ∈ B, w.before args s = true) : ∀ w' ∈ w :: B, w'.before args s = true := fun w' h' => (List.mem_cons.mp h').elim (fun e => by rw [e]; exact h) (t w')
theorem vx_n {args : Array Value} {s : State} : ∀ w ∈ ([] : List Cond), w.before args s = true := fun _ h => nomatch h
theorem vx_own {args : Array Value} {s : State} {L : List Cond} (h1 : ∀ w ∈ L.filter vx_no, w.before args s = true)
    (hU : (Cond.isRef (.static Bundle.tN "UNASSIGNED_STACK" Bundle.steD)).before args s = true) (hN : (Cond.isRef (.static Bundle.tN "SUPPRESSED_SENTINEL" Bundle.listD)).before args s = true)
    (lU : (Cond.laysStatic Bundle.tN "UNASSIGNED_STACK" Bundle.steD).before args s = true) (lN : (Cond.laysStatic Bundle.tN "SUPPRESSED_SENTINEL" Bundle.listD).before args s = true) : ∀ w ∈ L, w.before args s = true := by
  intro w hw
  by_cases e1 : w = .isRef (.static Bundle.tN "UNASSIGNED_STACK" Bundle.steD)
  · rw [e1]; exact hU
  · by_cases e2 : w = .isRef (.static Bundle.tN "SUPPRESSED_SENTINEL" Bundle.listD)
    · rw [e2]; exact hN
    · by_cases e3 : w = .laysStatic Bundle.tN "UNASSIGNED_STACK" Bundle.steD
      · rw [e3]; exact lU
      · by_cases e4 : w = .laysStatic Bundle.tN "SUPPRESSED_SENTINEL" Bundle.listD
        · rw [e4]; exact lN
        · exact h1 w (List.mem_filter.mpr ⟨hw, by unfold vx_no; rw [decide_eq_true e1, decide_eq_true e2, decide_eq_true e3, decide_eq_true e4]; rfl⟩)
/-- where a static field lies, its class's statics cell in H -/
def vx_L (C n d : String) (A : Nat → Prop) (U : State) (H : Heap) : Prop := ∃ (c : ClassId) (k : Class) (i : Nat) (f : Field) (a : Nat) (cell : Cell), U.vm.findClass C = some c ∧ U.fieldFound? C n d = some (c, k, i, f) ∧ f.isStatic = true ∧ k.statics = some a ∧ H[a]? = some cell ∧ cell.vm.isStatics = true ∧ cell.cls = c ∧ f.slot < cell.slots.size ∧ k.staticTypes[f.slot]? = some f.type ∧ ¬ A a
theorem vx_L.moved {C n d : String} {A : Nat → Prop} {u U : State} {H : Heap} (hvm : u.vm.Alike U.vm) (h : vx_L C n d A u H) : vx_L C n d A U H := by
  obtain ⟨c, k, i, f, a, cell, h1, h2, h3, h4, h5, h6, h7, h8, h9, h10⟩ := h
  obtain ⟨k', hi', he⟩ := State.fieldFound?_setVm hvm h2
  exact ⟨c, k', i, f, a, cell, by rw [hvm.findClass]; exact h1, hi', h3, by rw [he]; exact h4, h5, h6, h7, h8, by rw [he]; exact h9, h10⟩
theorem vx_L.kept {C n d : String} {A : Nat → Prop} {U : State} {H H1 : Heap} (h : vx_L C n d A U H) (hq : ∀ a : Nat, a < H.size → ¬ A a → H1[a]? = H[a]?) : vx_L C n d A U H1 := by
  obtain ⟨c, k, i, f, a, cell, h1, h2, h3, h4, h5, h6, h7, h8, h9, h10⟩ := h
  exact ⟨c, k, i, f, a, cell, h1, h2, h3, h4, by rw [hq a (Array.getElem?_eq_some_iff.mp h5).1 h10]; exact h5, h6, h7, h8, h9, h10⟩
theorem vx_L.narrow {C n d : String} {A B : Nat → Prop} {U : State} {H : Heap} (h : vx_L C n d A U H) (hAB : ∀ q, B q → A q) : vx_L C n d B U H := by
  obtain ⟨c, k, i, f, a, cell, h1, h2, h3, h4, h5, h6, h7, h8, h9, h10⟩ := h
  exact ⟨c, k, i, f, a, cell, h1, h2, h3, h4, h5, h6, h7, h8, h9, fun z => h10 (hAB _ z)⟩
theorem vx_L.word {C n d : String} {A : Nat → Prop} {s : State} {args : Array Value} (h : vx_L C n d A s s.heap) : (Cond.laysStatic C n d).before args s = true := by
  obtain ⟨c, k, i, f, a, cell, h1, h2, h3, h4, h5, h6, h7, h8, h9, -⟩ := h
  show (Cond.laysStatic C n d).holds args s none s [] = true
  exact Cond.laysStatic_of h1 h2 h3 h4 h5 h6 h7 h8 h9
/-- .. and what it holds: null or some reference -/
def vx_Zq (C n d : String) (A : Nat → Prop) (U : State) (H : Heap) : Prop := va_Zq C n d A U H ∧ vx_L C n d A U H
theorem vx_Zq.moved {C n d : String} {A : Nat → Prop} {u U : State} {H : Heap} (hvm : u.vm.Alike U.vm) (h : vx_Zq C n d A u H) : vx_Zq C n d A U H := ⟨va_Zq.moved hvm h.1, vx_L.moved hvm h.2⟩
theorem vx_Zq.kept {C n d : String} {A : Nat → Prop} {U : State} {H H1 : Heap} (h : vx_Zq C n d A U H) (hq : ∀ a : Nat, a < H.size → ¬ A a → H1[a]? = H[a]?) : vx_Zq C n d A U H1 := ⟨va_Zq.kept h.1 hq, vx_L.kept h.2 hq⟩
theorem vx_Zq.narrow {C n d : String} {A B : Nat → Prop} {U : State} {H : Heap} (h : vx_Zq C n d A U H) (hAB : ∀ q, B q → A q) : vx_Zq C n d B U H := ⟨va_Zq.narrow h.1 hAB, vx_L.narrow h.2 hAB⟩
theorem vx_Zqof {args : Array Value} {s : State} {C n d : String} {A : Nat → Prop} (hl : (Cond.laysStatic C n d).before args s = true) (hini : (Cond.initialized C).before args s = true) (h : (Cond.isRef (.static C n d)).before args s = true) (hA : ∀ a : Nat, a < s.heap.size → ¬ A a) : vx_Zq C n d A s s.heap := by
  refine ⟨va_Zqof hl hini h hA, ?_⟩
  obtain ⟨c, k, i, f, a, cell, h1, h2, h3, h4, h5, h6, h7, h8, h9⟩ := Cond.laysStatic_spec hl
  exact ⟨c, k, i, f, a, cell, h1, h2, h3, h4, h5, h6, h7, h8, h9, hA a (Array.getElem?_eq_some_iff.mp h5).1⟩
theorem vx_isRef {C n d : String} {v : Value} {A : Nat → Prop} {s : State} {args : Array Value} (h : va_Z C n d v A s s.heap) (hv : v.isRef = true) : (Cond.isRef (.static C n d)).before args s = true := by
  obtain ⟨cf, kf, fi, f, a, cell, h1, h2, h3, h4, h5, h6, h7, -⟩ := h
  have he : (Term.static C n d).eval args s none [] s = some v := by
    simp [Term.eval, State.fieldNamed?, h1, h2, h4, h5, h6, h7]
  simp only [Cond.before, Cond.holds, Cond.value, he]
  cases v <;> simp_all [Value.isRef]
theorem vx_isRefq {C n d : String} {A : Nat → Prop} {s : State} {args : Array Value} (h : va_Zq C n d A s s.heap) : (Cond.isRef (.static C n d)).before args s = true := by
  rcases h with h | ⟨t, h⟩
  · exact vx_isRef h rfl
  · exact vx_isRef h rfl
/-- the same frame, seen from here: as if the method were called anew in this heap -/
theorem vx_rebase {T : State} (X : Stand p l e R s m args below meth c T locs cells slots) {R' : Room} (hf : R'.frames ≤ R.frames) (hl : R'.locals ≤ R.locals) (hc : cells + R'.cells ≤ R.cells) (hs : slots + R'.slots ≤ R.slots) :
    Stand p l e R' ((T.setVm s.vm).setFrames (.invoking m args :: below)) m args below meth c T [] 0 0 := by
  have htop : (T.setVm s.vm).topJava?.isSome := X.here.top
  have hF : ((T.setVm s.vm).setFrames (.invoking m args :: below)).frames = .invoking m args :: below := State.frames_setFrames _ (State.cur_lt_of_top htop)
  obtain ⟨g₀, hg0⟩ := Option.isSome_iff_exists.mp htop
  obtain ⟨r, hr⟩ := State.topJava?_eq_some.mp hg0
  have hl9 : e.platform.stackLimits (T.setVm s.vm).me = e.platform.stackLimits s.me := X.limits
  have hb9 : (T.setVm s.vm).me.stackBytes = s.me.stackBytes := X.bytes
  refine ⟨X.admits, X.cas, X.clock, hF, ?_, X.hears, X.method, X.code, X.here, X.tail, X.warmed, ?_, ?_, ?_⟩
  · have h := X.room
    have hU : ((T.setVm s.vm).setFrames (.invoking m args :: below)).localsInUse = s.localsInUse := by
      rw [State.localsInUse_invoking hF (meth := meth) (c := c) X.method X.code, State.localsInUse_invoking X.frames X.method X.code]
    simp only [State.hasRoom, Bool.and_eq_true, decide_eq_true_eq] at h ⊢
    obtain ⟨⟨⟨⟨h1, h2, h3, h4, h5, h6⟩, h7⟩, h8⟩, h9⟩ := h
    rw [X.frames, List.length_cons] at h2 h3
    have q1 := X.heapSize
    have q2 := X.used
    simp only [hF, hU, List.length_cons, State.stackLimits_setFrames, State.stackBytes_setFrames, hl9, hb9]
    refine ⟨⟨⟨⟨by omega, by omega, by omega, by omega, by omega, h6⟩, ?_⟩, ?_⟩, X.book⟩
    · show T.heap.size + R'.cells ≤ e.platform.maxCells
      omega
    · show T.slotsUsed + R'.slots ≤ e.platform.maxSlots
      omega
  · rw [State.stackLimits_setFrames]; rfl
  · rw [State.stackBytes_setFrames]; rfl
  · refine ⟨?_, Nat.le_refl _, Nat.le_refl _, ?_, ?_, fun a c9 h9 => ⟨c9, h9, rfl, rfl, fun _ _ => rfl⟩⟩
    · obtain ⟨t, ht, -⟩ := State.frames_cons hr
      show T.setVm s.vm = { ((T.setVm s.vm).setFrames (.invoking m args :: below)).setFrames (T.setVm s.vm).frames with heap := T.heap, slotsUsed := T.slotsUsed }
      rw [State.setFrames_setFrames, State.setFrames_self ht]
      rfl
    · show T.slotsUsed = T.slotsUsed + ((T.heap.toList.drop T.heap.size).map (·.slots.size)).sum
      rw [List.drop_eq_nil_of_le (Nat.le_of_eq Array.length_toList)]
      rfl
    · show ((T.heap.toList.drop T.heap.size).map (·.slots.size)).sum ≤ 0
      rw [List.drop_eq_nil_of_le (Nat.le_of_eq Array.length_toList)]
      exact Nat.le_refl _
/-- 'throw new E()': new; dup; invokespecial; athrow -/
theorem vx_throw0 {cc : ByteArray} {pc : Nat} (hexec : p.tables.exec = Jvm.exec) (hb : c.code = cc) (hl : l.stackTraces = false) {own cls : String} {names : List String} {ik ic mc ms : Nat} {A : Nat → Prop}
    (hown : s.vm.findClass own = some m.cls) (hcls : Bundle.fit cls = true) (hnames : ∀ n ∈ names, Bundle.fit n = true)
    (hk : (Cond.classLink own ik cls).before args s = true) (hini : (Cond.initialized cls).before args s = true) (hat : ∀ w ∈ vx_at0 own ic cls names, w.before args s = true)
    (hgood : ∀ w ∈ Cond.classLink own ik cls :: Cond.initialized cls :: vx_at0 own ic cls names, vx_ot w = true)
    (hU : vx_Zq Bundle.tN "UNASSIGNED_STACK" Bundle.steD A s s.heap) (hN : vx_Zq Bundle.tN "SUPPRESSED_SENTINEL" Bundle.listD A s s.heap) (hS : va_S A s.heap H locs) (hsize : ls.size = c.maxLocals)
    (d0 : decode cc pc = .ok (.new ik, 3)) (d3 : decode cc (pc + 3) = .ok (.dup, 1)) (d4 : decode cc (pc + 4) = .ok (.invokespecial ic, 3)) (d7 : decode cc (pc + 7) = .ok (.athrow, 1))
    (hout : ∀ x ∈ c.exceptionTable.toList, covers x (pc + 7) = false)
    (hRframes : names.length + 3 < R.frames) (hRlocals : (rest.map fun v => v.category).sum + (13 * (names.length + 1) + 42) ≤ R.locals) (hRcells : cells + 1 ≤ R.cells) (hRslots : slots + 6 ≤ R.slots) (hlocks : meth.locks = false)
    (hx : ∀ t : State, s.vm.Alike t.vm → H.size ≤ t.heap.size → (∀ q : Nat, q < H.size → t.heap[q]? = H[q]?) → XC cls s t)
    (hf : ∀ z ∈ locs, free z.base) (hc : cells + 1 ≤ mc) (hs : slots + 6 ≤ ms) :
    W p l e R s m args below meth c H locs cells slots (vx_MQ below Qc XC args s mc ms free) (F0 m pc ls rest) := by
  intro T hT X
  have htr : e.platform.stackTraces = false := (show e.platform.stackTraces = l.stackTraces by rw [X.admits.platform]).trans hl
  have Y := vx_rebase X (R' := { frames := R.frames, locals := R.locals, cells := 1, slots := 6 }) (Nat.le_refl _) (Nat.le_refl _) hRcells hRslots
  obtain ⟨s', hA⟩ : ∃ z, z = (T.setVm s.vm).setFrames (.invoking m args :: below) := ⟨_, rfl⟩
  rw [← hA] at Y
  have hvm : s'.vm = s.vm := by rw [hA]; rfl
  have hhp : s'.heap = H := by rw [hA]; exact hT
  have hW0 : s.WarmedH s'.vm := by rw [hvm]; exact State.WarmedH.refl s
  have hat' : ∀ w ∈ vx_at0 own ic cls names, w.before args s' = true := fun w hw => vx_ot_at hW0 hvm.symm (hgood w (List.mem_cons_of_mem _ (List.mem_cons_of_mem _ hw))) (hat w hw)
  have hk' : (Cond.classLink own ik cls).before args s' = true := vx_ot_at hW0 hvm.symm (hgood _ List.mem_cons_self) hk
  have hini' : (Cond.initialized cls).before args s' = true := vx_ot_at hW0 hvm.symm (hgood _ (List.mem_cons_of_mem _ List.mem_cons_self)) hini
  have hU' : vx_Zq Bundle.tN "UNASSIGNED_STACK" Bundle.steD A s' s'.heap := by rw [hhp]; exact vx_Zq.moved hW0.alike (hU.kept hS.2.1)
  have hN' : vx_Zq Bundle.tN "SUPPRESSED_SENTINEL" Bundle.listD A s' s'.heap := by rw [hhp]; exact vx_Zq.moved hW0.alike (hN.kept hS.2.1)
  have h : ∀ w ∈ Bundle.ownAtoms0 own ic cls names, w.before args s' = true := vx_own hat' (vx_isRefq hU'.1) (vx_isRefq hN'.1) hU'.2.word hN'.2.word
  have hown' : s'.vm.findClass own = some m.cls := by rw [hvm]; exact hown
  have hins : (Cond.instantiable cls 6).before args s' = true := h _ (by simp [Bundle.ownAtoms0])
  obtain ⟨vm₁, cX, kX, hfX, hkX, -, -, X₁, st1⟩ := Y.newCold hexec (own := own) (C := cls) (index := ik) (n := 6) hown' hk' hins hini'
    (g := F0 m pc ls rest) rfl (by rw [hb]; exact d0) (Nat.le_refl _) (Nat.le_refl _)
  generalize hT1 : (T.setVm vm₁).pushCell { cls := cX, slots := kX.instanceTypes.map defaultValue, vm := .none } = T1 at X₁ st1
  have hcat : (Value.ref T.heap.size).category = 1 := rfl
  have hcellA : T1.heap[T.heap.size]? = some (freshCell cX kX) := by rw [← hT1]; exact State.heap_pushCell_size _ _
  have d3' : decode c.code (pc + 3) = .ok (.dup, 1) := by rw [hb]; exact d3
  obtain ⟨U, hsteps, hrun, hend, hW, hsame, ce, hce, hO⟩ := X₁.ctorThrow0 hexec htr (own := own) (cls := cls) (names := names) (ic := ic) hown' hcls hnames h (fun x hx => nomatch hx) hfX hkX hcellA (by rw [hhp, hT]; exact Nat.le_refl _)
    (g := { method := m, pc := pc + 4, locals := ls, stack := .ref T.heap.size :: .ref T.heap.size :: rest, locked := none }) rfl hsize rfl rfl (rest := rest) rfl
    (by rw [hb]; exact d4) (by rw [hb]; exact d7) hout hRframes (by simp only [List.map_cons, List.sum_cons, hcat]; omega) hlocks
  obtain ⟨f1, f2⟩ := vx_frame hsame
  rw [hhp] at f1 f2
  have hWs : s.WarmedH U.vm := State.WarmedH.trans hW0 hW
  have hcl : s.vm.findClass cls = some ce.cls := by
    have h9 := hO.cls
    rw [hvm] at h9
    exact h9
  have hall : s.sameButNew ({ U with vm := s.vm } : State) locs mc ms := by
    subst hA
    obtain ⟨e1, e2⟩ := hsame
    rw [State.setFrames_setFrames] at e1
    have h2 : (T.setVm s.vm).sameButNew ({ U with vm := s.vm } : State) [] (0 + 1) (0 + 6) := ⟨e1, e2⟩
    have h3 := X.same.trans h2
    rw [List.append_nil] at h3
    exact h3.mono hc hs
  refine ⟨U, ?_, .threw T.heap.size, hrun, hend, Or.inr ⟨T.heap.size, rfl, cls, ce, locs, hx U hWs.alike f1 (fun q hq => f2 q hq (fun z hz => nomatch hz)), hce, hO.vm, hcl, hWs, hall, hf⟩⟩
  refine st1 _ ?_
  show Steps p.tables e below (T1.setTop { method := m, pc := pc + 3, locals := ls, stack := .ref T.heap.size :: rest, locked := none }) _
  jvm_step X₁.here [X₁.here.top, hexec, d3', Value.category]
  exact hsteps
/-- 'throw new E("text")': new; dup; ldc; invokespecial; athrow -/
theorem vx_throwS {cc : ByteArray} {pc : Nat} (hexec : p.tables.exec = Jvm.exec) (hb : c.code = cc) (hl : l.stackTraces = false) {own cls text : String} {names : List String} {ik is ic mc ms sa : Nat} {A : Nat → Prop}
    (hown : s.vm.findClass own = some m.cls) (hcls : Bundle.fit cls = true) (hnames : ∀ n ∈ names, Bundle.fit n = true)
    (hk : (Cond.classLink own ik cls).before args s = true) (hini : (Cond.initialized cls).before args s = true) (hstr : vk_R own is text sa s) (hat : ∀ w ∈ vx_atS own ic cls names, w.before args s = true)
    (hgood : ∀ w ∈ Cond.classLink own ik cls :: Cond.initialized cls :: vx_atS own ic cls names, vx_ot w = true)
    (hU : vx_Zq Bundle.tN "UNASSIGNED_STACK" Bundle.steD A s s.heap) (hN : vx_Zq Bundle.tN "SUPPRESSED_SENTINEL" Bundle.listD A s s.heap) (hS : va_S A s.heap H locs) (hsize : ls.size = c.maxLocals)
    (d0 : decode cc pc = .ok (.new ik, 3)) (d3 : decode cc (pc + 3) = .ok (.dup, 1)) (d4 : decode cc (pc + 4) = .ok (.ldc is, 2)) (d6 : decode cc (pc + 6) = .ok (.invokespecial ic, 3)) (d9 : decode cc (pc + 9) = .ok (.athrow, 1))
    (hout : ∀ x ∈ c.exceptionTable.toList, covers x (pc + 9) = false)
    (hRframes : names.length + 3 < R.frames) (hRlocals : (rest.map fun v => v.category).sum + (13 * (names.length + 1) + 43) ≤ R.locals) (hRcells : cells + 1 ≤ R.cells) (hRslots : slots + 6 ≤ R.slots) (hlocks : meth.locks = false)
    (hx : ∀ t : State, s.vm.Alike t.vm → H.size ≤ t.heap.size → (∀ q : Nat, q < H.size → t.heap[q]? = H[q]?) → XC cls s t)
    (hf : ∀ z ∈ locs, free z.base) (hc : cells + 1 ≤ mc) (hs : slots + 6 ≤ ms) :
    W p l e R s m args below meth c H locs cells slots (vx_MQ below Qc XC args s mc ms free) (F0 m pc ls rest) := by
  intro T hT X
  have htr : e.platform.stackTraces = false := (show e.platform.stackTraces = l.stackTraces by rw [X.admits.platform]).trans hl
  have Y := vx_rebase X (R' := { frames := R.frames, locals := R.locals, cells := 1, slots := 6 }) (Nat.le_refl _) (Nat.le_refl _) hRcells hRslots
  obtain ⟨s', hA⟩ : ∃ z, z = (T.setVm s.vm).setFrames (.invoking m args :: below) := ⟨_, rfl⟩
  rw [← hA] at Y
  have hvm : s'.vm = s.vm := by rw [hA]; rfl
  have hhp : s'.heap = H := by rw [hA]; exact hT
  have hW0 : s.WarmedH s'.vm := by rw [hvm]; exact State.WarmedH.refl s
  have hat' : ∀ w ∈ vx_atS own ic cls names, w.before args s' = true := fun w hw => vx_ot_at hW0 hvm.symm (hgood w (List.mem_cons_of_mem _ (List.mem_cons_of_mem _ hw))) (hat w hw)
  have hk' : (Cond.classLink own ik cls).before args s' = true := vx_ot_at hW0 hvm.symm (hgood _ List.mem_cons_self) hk
  have hini' : (Cond.initialized cls).before args s' = true := vx_ot_at hW0 hvm.symm (hgood _ (List.mem_cons_of_mem _ List.mem_cons_self)) hini
  have hU' : vx_Zq Bundle.tN "UNASSIGNED_STACK" Bundle.steD A s' s'.heap := by rw [hhp]; exact vx_Zq.moved hW0.alike (hU.kept hS.2.1)
  have hN' : vx_Zq Bundle.tN "SUPPRESSED_SENTINEL" Bundle.listD A s' s'.heap := by rw [hhp]; exact vx_Zq.moved hW0.alike (hN.kept hS.2.1)
  have h : ∀ w ∈ Bundle.ownAtoms own ic cls names, w.before args s' = true := vx_own hat' (vx_isRefq hU'.1) (vx_isRefq hN'.1) hU'.2.word hN'.2.word
  have hown' : s'.vm.findClass own = some m.cls := by rw [hvm]; exact hown
  have hins : (Cond.instantiable cls 6).before args s' = true := h _ (by simp [Bundle.ownAtoms])
  obtain ⟨vm₁, cX, kX, hfX, hkX, -, -, X₁, st1⟩ := Y.newCold hexec (own := own) (C := cls) (index := ik) (n := 6) hown' hk' hins hini'
    (g := F0 m pc ls rest) rfl (by rw [hb]; exact d0) (Nat.le_refl _) (Nat.le_refl _)
  generalize hT1 : (T.setVm vm₁).pushCell { cls := cX, slots := kX.instanceTypes.map defaultValue, vm := .none } = T1 at X₁ st1
  have hcat : (Value.ref T.heap.size).category = 1 := rfl
  have hcellA : T1.heap[T.heap.size]? = some (freshCell cX kX) := by rw [← hT1]; exact State.heap_pushCell_size _ _
  have d3' : decode c.code (pc + 3) = .ok (.dup, 1) := by rw [hb]; exact d3
  have d4' : decode c.code (pc + 4) = .ok (.ldc is, 2) := by rw [hb]; exact d4
  have hstr' : vk_R own is text sa s' := vk_R.warm hW0 hstr
  obtain ⟨U, hsteps, hrun, hend, hW, hsame, ce, hce, hO⟩ := X₁.ctorThrowS hexec htr (own := own) (cls := cls) (names := names) (ic := ic) hown' hcls hnames h (fun x hx => nomatch hx) hfX hkX hcellA (by rw [hhp, hT]; exact Nat.le_refl _) (msg := .ref sa) rfl
    (g := { method := m, pc := pc + 6, locals := ls, stack := .ref sa :: .ref T.heap.size :: .ref T.heap.size :: rest, locked := none }) rfl hsize rfl rfl (rest := rest) rfl
    (by rw [hb]; exact d6) (by rw [hb]; exact d9) hout hRframes (by simp only [List.map_cons, List.sum_cons, hcat]; omega) hlocks
  obtain ⟨f1, f2⟩ := vx_frame hsame
  rw [hhp] at f1 f2
  have hWs : s.WarmedH U.vm := State.WarmedH.trans hW0 hW
  have hcl : s.vm.findClass cls = some ce.cls := by
    have h9 := hO.cls
    rw [hvm] at h9
    exact h9
  have hall : s.sameButNew ({ U with vm := s.vm } : State) locs mc ms := by
    subst hA
    obtain ⟨e1, e2⟩ := hsame
    rw [State.setFrames_setFrames] at e1
    have h2 : (T.setVm s.vm).sameButNew ({ U with vm := s.vm } : State) [] (0 + 1) (0 + 6) := ⟨e1, e2⟩
    have h3 := X.same.trans h2
    rw [List.append_nil] at h3
    exact h3.mono hc hs
  refine ⟨U, ?_, .threw T.heap.size, hrun, hend, Or.inr ⟨T.heap.size, rfl, cls, ce, locs, hx U hWs.alike f1 (fun q hq => f2 q hq (fun z hz => nomatch hz)), hce, hO.vm, hcl, hWs, hall, hf⟩⟩
  refine st1 _ ?_
  show Steps p.tables e below (T1.setTop { method := m, pc := pc + 3, locals := ls, stack := .ref T.heap.size :: rest, locked := none }) _
  jvm_step X₁.here [X₁.here.top, hexec, d3', Value.category]
  exact X₁.ldcString hexec (own := own) (text := text) (index := is) (a := sa) hown' hstr'.1 hstr'.2
    (g := { method := m, pc := pc + 4, locals := ls, stack := .ref T.heap.size :: .ref T.heap.size :: rest, locked := none }) rfl d4' _ hsteps
/-- 'throw new E("text")', the text by a wide index -/
theorem vx_throwSW {cc : ByteArray} {pc : Nat} (hexec : p.tables.exec = Jvm.exec) (hb : c.code = cc) (hl : l.stackTraces = false) {own cls text : String} {names : List String} {ik is ic mc ms sa : Nat} {A : Nat → Prop}
    (hown : s.vm.findClass own = some m.cls) (hcls : Bundle.fit cls = true) (hnames : ∀ n ∈ names, Bundle.fit n = true)
    (hk : (Cond.classLink own ik cls).before args s = true) (hini : (Cond.initialized cls).before args s = true) (hstr : vk_R own is text sa s) (hat : ∀ w ∈ vx_atS own ic cls names, w.before args s = true)
    (hgood : ∀ w ∈ Cond.classLink own ik cls :: Cond.initialized cls :: vx_atS own ic cls names, vx_ot w = true)
    (hU : vx_Zq Bundle.tN "UNASSIGNED_STACK" Bundle.steD A s s.heap) (hN : vx_Zq Bundle.tN "SUPPRESSED_SENTINEL" Bundle.listD A s s.heap) (hS : va_S A s.heap H locs) (hsize : ls.size = c.maxLocals)
    (d0 : decode cc pc = .ok (.new ik, 3)) (d3 : decode cc (pc + 3) = .ok (.dup, 1)) (d4 : decode cc (pc + 4) = .ok (.ldc_w is, 3)) (d7 : decode cc (pc + 7) = .ok (.invokespecial ic, 3)) (d10 : decode cc (pc + 10) = .ok (.athrow, 1))
    (hout : ∀ x ∈ c.exceptionTable.toList, covers x (pc + 10) = false)
    (hRframes : names.length + 3 < R.frames) (hRlocals : (rest.map fun v => v.category).sum + (13 * (names.length + 1) + 43) ≤ R.locals) (hRcells : cells + 1 ≤ R.cells) (hRslots : slots + 6 ≤ R.slots) (hlocks : meth.locks = false)
    (hx : ∀ t : State, s.vm.Alike t.vm → H.size ≤ t.heap.size → (∀ q : Nat, q < H.size → t.heap[q]? = H[q]?) → XC cls s t)
    (hf : ∀ z ∈ locs, free z.base) (hc : cells + 1 ≤ mc) (hs : slots + 6 ≤ ms) :
    W p l e R s m args below meth c H locs cells slots (vx_MQ below Qc XC args s mc ms free) (F0 m pc ls rest) := by
  intro T hT X
  have htr : e.platform.stackTraces = false := (show e.platform.stackTraces = l.stackTraces by rw [X.admits.platform]).trans hl
  have Y := vx_rebase X (R' := { frames := R.frames, locals := R.locals, cells := 1, slots := 6 }) (Nat.le_refl _) (Nat.le_refl _) hRcells hRslots
  obtain ⟨s', hA⟩ : ∃ z, z = (T.setVm s.vm).setFrames (.invoking m args :: below) := ⟨_, rfl⟩
  rw [← hA] at Y
  have hvm : s'.vm = s.vm := by rw [hA]; rfl
  have hhp : s'.heap = H := by rw [hA]; exact hT
  have hW0 : s.WarmedH s'.vm := by rw [hvm]; exact State.WarmedH.refl s
  have hat' : ∀ w ∈ vx_atS own ic cls names, w.before args s' = true := fun w hw => vx_ot_at hW0 hvm.symm (hgood w (List.mem_cons_of_mem _ (List.mem_cons_of_mem _ hw))) (hat w hw)
  have hk' : (Cond.classLink own ik cls).before args s' = true := vx_ot_at hW0 hvm.symm (hgood _ List.mem_cons_self) hk
  have hini' : (Cond.initialized cls).before args s' = true := vx_ot_at hW0 hvm.symm (hgood _ (List.mem_cons_of_mem _ List.mem_cons_self)) hini
  have hU' : vx_Zq Bundle.tN "UNASSIGNED_STACK" Bundle.steD A s' s'.heap := by rw [hhp]; exact vx_Zq.moved hW0.alike (hU.kept hS.2.1)
  have hN' : vx_Zq Bundle.tN "SUPPRESSED_SENTINEL" Bundle.listD A s' s'.heap := by rw [hhp]; exact vx_Zq.moved hW0.alike (hN.kept hS.2.1)
  have h : ∀ w ∈ Bundle.ownAtoms own ic cls names, w.before args s' = true := vx_own hat' (vx_isRefq hU'.1) (vx_isRefq hN'.1) hU'.2.word hN'.2.word
  have hown' : s'.vm.findClass own = some m.cls := by rw [hvm]; exact hown
  have hins : (Cond.instantiable cls 6).before args s' = true := h _ (by simp [Bundle.ownAtoms])
  obtain ⟨vm₁, cX, kX, hfX, hkX, -, -, X₁, st1⟩ := Y.newCold hexec (own := own) (C := cls) (index := ik) (n := 6) hown' hk' hins hini'
    (g := F0 m pc ls rest) rfl (by rw [hb]; exact d0) (Nat.le_refl _) (Nat.le_refl _)
  generalize hT1 : (T.setVm vm₁).pushCell { cls := cX, slots := kX.instanceTypes.map defaultValue, vm := .none } = T1 at X₁ st1
  have hcat : (Value.ref T.heap.size).category = 1 := rfl
  have hcellA : T1.heap[T.heap.size]? = some (freshCell cX kX) := by rw [← hT1]; exact State.heap_pushCell_size _ _
  have d3' : decode c.code (pc + 3) = .ok (.dup, 1) := by rw [hb]; exact d3
  have d4' : decode c.code (pc + 4) = .ok (.ldc_w is, 3) := by rw [hb]; exact d4
  have hstr' : vk_R own is text sa s' := vk_R.warm hW0 hstr
  obtain ⟨U, hsteps, hrun, hend, hW, hsame, ce, hce, hO⟩ := X₁.ctorThrowS hexec htr (own := own) (cls := cls) (names := names) (ic := ic) hown' hcls hnames h (fun x hx => nomatch hx) hfX hkX hcellA (by rw [hhp, hT]; exact Nat.le_refl _) (msg := .ref sa) rfl
    (g := { method := m, pc := pc + 7, locals := ls, stack := .ref sa :: .ref T.heap.size :: .ref T.heap.size :: rest, locked := none }) rfl hsize rfl rfl (rest := rest) rfl
    (by rw [hb]; exact d7) (by rw [hb]; exact d10) hout hRframes (by simp only [List.map_cons, List.sum_cons, hcat]; omega) hlocks
  obtain ⟨f1, f2⟩ := vx_frame hsame
  rw [hhp] at f1 f2
  have hWs : s.WarmedH U.vm := State.WarmedH.trans hW0 hW
  have hcl : s.vm.findClass cls = some ce.cls := by
    have h9 := hO.cls
    rw [hvm] at h9
    exact h9
  have hall : s.sameButNew ({ U with vm := s.vm } : State) locs mc ms := by
    subst hA
    obtain ⟨e1, e2⟩ := hsame
    rw [State.setFrames_setFrames] at e1
    have h2 : (T.setVm s.vm).sameButNew ({ U with vm := s.vm } : State) [] (0 + 1) (0 + 6) := ⟨e1, e2⟩
    have h3 := X.same.trans h2
    rw [List.append_nil] at h3
    exact h3.mono hc hs
  refine ⟨U, ?_, .threw T.heap.size, hrun, hend, Or.inr ⟨T.heap.size, rfl, cls, ce, locs, hx U hWs.alike f1 (fun q hq => f2 q hq (fun z hz => nomatch hz)), hce, hO.vm, hcl, hWs, hall, hf⟩⟩
  refine st1 _ ?_
  show Steps p.tables e below (T1.setTop { method := m, pc := pc + 3, locals := ls, stack := .ref T.heap.size :: rest, locked := none }) _
  jvm_step X₁.here [X₁.here.top, hexec, d3', Value.category]
  exact X₁.ldcStringW hexec (own := own) (text := text) (index := is) (a := sa) hown' hstr'.1 hstr'.2
    (g := { method := m, pc := pc + 4, locals := ls, stack := .ref T.heap.size :: .ref T.heap.size :: rest, locked := none }) rfl d4' _ hsteps
end Ends
section Bodies
variable {l : Launch}
theorem vx_ofW {y : MethodName} {ws ws' : List Cond} {rm : Room} {Pc : Array Value → State → Prop} {Qc : Array Value → State → Outcome → State → Prop} {XC : String → State → State → Prop} {mc ms : Nat} {free : Addr → Prop} {cc : ByteArray} {maxL : Nat} {ret : Option FieldType}
    (hy : plainName y.cls = true) (hw : ws = Cond.code y cc maxL ret :: ws')
    (body : ∀ p e s m args below meth c s₁, BodyLoose p l y (headSpec ws rm) cc maxL ret e s m args below meth c s₁ → c.maxLocals = maxL → (∀ x ∈ c.exceptionTable.toList, False) → Pc args s →
      W p l e (headSpec ws rm).room s m args below meth c s.heap [] 0 0 (vx_MQ below Qc XC args s mc ms free) (entryFrame m args maxL)) : vx_Met l y ws rm Pc Qc XC mc ms free := by
  refine MetFree.of_bodyS (code := cc) (maxLocals := maxL) (ret := ret) hy ?_ ?_
  · intro args s m h hn
    obtain ⟨meth, c, h1, h2, h3, h4, h5, h6, -, -⟩ := Cond.code_spec hn (atoms_spec (ws := ws) h _ (by rw [hw]; exact List.mem_cons_self))
    exact ⟨meth, c, h1, h2, h3, h4, h5, h6⟩
  · intro p e s m args below meth c s₁ B hml hP _
    have hh0 : s₁.heap = s.heap := by rw [B.state]; rfl
    have ht : ∀ x ∈ c.exceptionTable.toList, False := by
      obtain ⟨meth9, c9, h1, h2, -, -, -, -, h7, -⟩ := Cond.code_spec B.named (atoms_spec (ws := ws) B.pre _ (by rw [hw]; exact List.mem_cons_self))
      cases Option.some.inj (h1.symm.trans B.method)
      cases Option.some.inj (h2.symm.trans (Stand.of_body B).code)
      intro x hx
      rw [Array.isEmpty_iff.mp h7] at hx
      cases hx
    obtain ⟨t, a1, o, b1, b2, b3⟩ := body p e s m args below meth c s₁ B hml ht hP s₁ hh0 (Stand.of_body B)
    exact ⟨t, o, a1, b1, b2, b3⟩
/-- the table of a body with handlers -/
theorem vx_table {p : Program} {x y : MethodName} {S : Spec} {cc bytes : ByteArray} {maxL maxL' : Nat} {ret ret' : Option FieldType} {e : Env} {s s₁ : State} {m : MethodId} {args : Array Value} {below : List Frame} {meth : Method} {c : Code} {hh : List (Nat × Nat × Nat × Nat)}
    (B : BodyLoose p l y S cc maxL ret e s m args below meth c s₁) (h : (Cond.codeWith y bytes maxL' ret' hh).before args s = true) : c.exceptionTable.toList = tableOf hh := by
  obtain ⟨m9, meth9, c9, hn9, h1, h2, -, -, h6, -⟩ := Cond.codeWith_spec h
  cases Option.some.inj (hn9.symm.trans B.named)
  cases Option.some.inj (h1.symm.trans B.method)
  cases Option.some.inj (h2.symm.trans (Stand.of_body B).code)
  rw [← h6, table_eq]
end Bodies
end VXA
/-! ===== END ===== -/
/-! ===== BEGIN a static call of a method with an exception table ===== -/
section VXS
variable {p : Program} {l : Launch} {e : Env} {R : Room} {s : State} {m : MethodId} {args : Array Value} {below : List Frame} {meth : Method} {c : Code} {T : State} {H : Heap} {locs : List Loc} {cells slots : Nat}
abbrev vx_CSW (R : Room) (s : State) (args : Array Value) (own : String) (index : Nat) (y : MethodName) (bytes : ByteArray) (maxL : Nat) (ret : Option FieldType) (hh : List (Nat × Nat × Nat × Nat)) (ws : List Cond) (rm : Room) (mc ms n : Nat) : Prop :=
  (rm.cells = mc ∧ rm.slots = ms ∧ rm.frames + 1 ≤ R.frames ∧ 8 + (maxL + 11) + rm.locals ≤ R.locals ∧ (∀ w ∈ ws, ∀ (a' : Array Value) (U : State), s.WarmedH U.vm → w.before a' U = true) ∧ Cond.codeWith y bytes maxL ret hh ∈ ws) ∧
  (Cond.codeWith y bytes maxL ret hh).before args s = true ∧ (Cond.initialized y.cls).before args s = true ∧ (y.cls ≠ "java/lang/invoke/MethodHandle" ∧ y.cls ≠ "java/lang/invoke/VarHandle") ∧
  (∀ sig, parseMethodDescriptor y.desc = some sig → n = sig.parameters.length) ∧ (Cond.methodLink own index y).before args s = true ∧ (Cond.static y).before args s = true
theorem vx_cwSW {own : String} {index maxL mc ms : Nat} {y : MethodName} {bytes : ByteArray} {ret : Option FieldType} {hh : List (Nat × Nat × Nat × Nat)} {Ts ws ws' : List Cond} {rm : Room} (n : Nat) (ht : ∀ w ∈ Ts, w.before args s = true) (hT : GoodIn Ts (va_wsS own index y ws)) (hw : ws = Cond.codeWith y bytes maxL ret hh :: ws') (hrc : rm.cells = mc) (hrs : rm.slots = ms)
    (hd : y.cls ≠ "java/lang/invoke/MethodHandle" ∧ y.cls ≠ "java/lang/invoke/VarHandle" ∧ (parseMethodDescriptor y.desc).map (fun d => d.parameters.length) = some n) (hR : rm.frames + 1 ≤ R.frames ∧ 8 + (maxL + 11) + rm.locals ≤ R.locals) :
    vx_CSW R s args own index y bytes maxL ret hh ws rm mc ms n := by
  have ok : ∀ w ∈ va_wsS own index y ws, w.before args s = true := fun w h => ht w (hT w h).1
  have hG : GoodIn Ts ws := fun w h => hT w (by unfold va_wsS; exact List.mem_append_right _ h)
  have hc : Cond.codeWith y bytes maxL ret hh ∈ ws := by rw [hw]; exact List.mem_cons_self
  refine ⟨⟨hrc, hrs, hR.1, hR.2, pay_in ht hG, hc⟩, ht _ (hG _ hc).1, ok _ (by simp [va_wsS]), ⟨hd.1, hd.2.1⟩, fun sig h => ?_, ok _ (by simp [va_wsS]), ok _ (by simp [va_wsS])⟩
  have h2 := hd.2.2
  rw [h] at h2
  exact (Option.some.inj h2).symm
theorem vx_callSW (X : Stand p l e R s m args below meth c T locs cells slots) (hexec : p.tables.exec = Jvm.exec) {own : String} {index : Nat} {y : MethodName} {bytes : ByteArray} {maxL : Nat} {ret : Option FieldType} {hh : List (Nat × Nat × Nat × Nat)}
    (hown : s.vm.findClass own = some m.cls) (hlink : (Cond.methodLink own index y).before args s = true) (hstat : (Cond.static y).before args s = true) (hinit : (Cond.initialized y.cls).before args s = true)
    (hcode : (Cond.codeWith y bytes maxL ret hh).before args s = true) (hy : y.cls ≠ "java/lang/invoke/MethodHandle" ∧ y.cls ≠ "java/lang/invoke/VarHandle")
    {W9 : Nat} {Pre : Pt → Array Value → Prop} {Post : Pt → Array Value → Option Value → Pt → Prop} (hK : Back l R p e below s args y 3 W9 Pre Post)
    {g : JFrame} (hg : g.method = m) (hsize : g.locals.size = c.maxLocals) {argsL rest : List Value} (hlen : ∀ sig, parseMethodDescriptor y.desc = some sig → argsL.length = sig.parameters.length)
    (hstack : g.stack = argsL.reverse ++ rest) (hW : 2 * g.monitorRoom + (rest.map fun v => v.category).sum ≤ W9) (hdg : decode c.code g.pc = .ok (.invokestatic index, 3))
    (hpre : ∀ vm₁, s.WarmedH vm₁ → Pre ⟨T.setVm vm₁, locs, cells, slots⟩ argsL.toArray) :
    ∃ (v : Option Value) (vm₁ : Vm) (B : Pt), s.WarmedH vm₁ ∧ Stand p l e R s m args below meth c B.U B.locs B.cells B.slots ∧ Post ⟨T.setVm vm₁, locs, cells, slots⟩ argsL.toArray v B ∧
      ∀ target, Steps p.tables e below (B.U.setTop { g with pc := g.pc + 3, stack := v.toList ++ rest }) target → Steps p.tables e below (T.setTop g) target := by
  obtain ⟨mk, methM, cM, hnamed, hmethM, -, -, -, -, -, -, hsigM⟩ := Cond.codeWith_spec hcode
  have hstatic : methM.isStatic = true := Cond.static_spec hnamed hmethM hstat
  obtain ⟨kP, hkP, -⟩ := className_of_methodNamed hnamed
  have hinitP : kP.init = .initialized := Cond.initialized_spec (findClass_of_methodNamed hnamed) hkP hinit
  obtain ⟨vm₁, X₁, hstep₁⟩ := X.invokestatic hexec hown hlink hnamed hmethM hstatic hkP hinitP hy (g := g) hg (argsL := argsL) (rest := rest) (hlen _ hsigM) hstack hdg
  obtain ⟨v, B, X', hpost, hsteps⟩ := hK m meth c ⟨T.setVm vm₁, locs, cells, slots⟩ { g with stack := rest } (.invokestatic index) mk argsL.toArray X₁ hg hsize hdg hW (X₁.named hnamed) (hpre vm₁ X₁.warmed)
  exact ⟨v, vm₁, B, X₁.warmed, X', hpost, fun target h => hstep₁ _ fun acts => by rw [doInvoke_state]; exact hsteps.trans h⟩
theorem vx_runSW {y : MethodName} {bytes cc : ByteArray} {maxL nL mc ms n index : Nat} {ret : Option FieldType} {hh : List (Nat × Nat × Nat × Nat)} {ws : List Cond} {rm : Room} {Pc : Array Value → State → Prop} {Qc : Array Value → State → Outcome → State → Prop} {free : Addr → Prop} {Ts : List Cond} {own : String} {As rest : List Value} {g : JFrame}
    (S : CallFix p m c cc nL s args Ts own) (hM : Met l y ws rm Pc Qc mc ms free) (cw : vx_CSW R s args own index y bytes maxL ret hh ws rm mc ms n) (hp : PreS s H Pc As)
    (hg : g.method = m) (hn : As.length = n) (hsize : g.locals.size = nL) (hstack : g.stack = As.reverse ++ rest) (hW : 2 * g.monitorRoom + (rest.map fun v => v.category).sum ≤ 8) (hdg : decode cc g.pc = .ok (.invokestatic index, 3)) (hf : cells + mc ≤ R.cells ∧ slots + ms ≤ R.slots) :
    va_Run p l e R s m args below meth c H locs cells slots mc ms g rest (Qc As.toArray) (free) := by
  obtain ⟨⟨hrc, hrs, hfr, hlo, hws, hcw⟩, hcode, hini, hy, hlen, hl, hstt⟩ := cw
  have hK : Back l R p e below s args y 3 8 (PreOf R mc ms Pc) (PostOf Qc mc ms free) := va_backW (hh := hh) (bytes := bytes) (maxL := maxL) (ret := ret) hM hp.1 hrc hrs hfr hlo hws hcw (fun a' U hW => word_at hW (Or.inl (by first | rfl | simp [Cond.onTables, Cond.keeps, Cond.steady])) hini)
  obtain ⟨hx, hb, hml, ho, -⟩ := S
  intro T hT X
  obtain ⟨v, vm₁, ⟨U', l2, c2, s2⟩, hW₁, X', ⟨g', mk, t, L, e1, e2, hq, h1, hL, h2, h3⟩, st⟩ := vx_callSW X hx (hh := hh) (bytes := bytes) (maxL := maxL) (ret := ret) ho hl hstt hini hcode hy hK hg (hsize.trans hml.symm) (argsL := As) (rest := rest) (fun sig h => hn.trans (hlen sig h)) hstack hW (by rw [hb]; exact hdg)
    (fun vm₁ hW₁ => ⟨hf.1, hf.2, hp.2 (T.setVm vm₁) hT hW₁⟩)
  dsimp only [Pt.U, Pt.locs, Pt.cells, Pt.slots] at X' e1 e2 h1 h2 h3 st
  subst h1; subst h2; subst h3
  exact ⟨v, (T.setVm vm₁).calling g' mk As.toArray, t, U', L, hT, X', hL, e1, e2, hq, st⟩
/-- not caught here, past rows that name other classes: it goes on to the caller -/
theorem vx_outP {p : Program} {l : Launch} {e : Env} {R : Room} {s : State} {m : MethodId} {args : Array Value} {below : List Frame} {meth : Method} {c : Code} {H : Heap} {locs : List Loc} {cells slots : Nat} {free : Addr → Prop} {ls : Array Slot} {rest : List Value} {Qc : Array Value → State → Outcome → State → Prop} {XC : String → State → State → Prop}
    {pc : Nat} {own E : String} {ce : Cell} {q : Addr} {mc ms : Nat} (hown : s.vm.findClass own = some m.cls) (hlocks : meth.locks = false)
    (hpass : ∀ z ∈ c.exceptionTable.toList, covers z pc = false ∨ (z.catchType ≠ 0 ∧ ∃ nm : String, (Cond.classLink own z.catchType nm).before args s = true ∧ va_Nc E nm s)) (hcell : H[q]? = some ce) (hv : ce.vm = .none) (hcl : s.vm.findClass E = some ce.cls)
    (hx : ∀ t : State, t.heap = H → s.vm.Alike t.vm → XC E s t) (hf : ∀ z ∈ locs, free z.base) (hc : cells ≤ mc) (hs : slots ≤ ms) :
    vx_W p l e R s m args below meth c H locs cells slots (vx_MQ below Qc XC args s mc ms free) (F0 m pc ls rest) q := by
  intro T hT X
  have hpl : e.platform.magicAccessors = ({} : Platform).magicAccessors := by rw [X.admits.platform]
  obtain ⟨vm', hW', X', st⟩ := X.outThrough hlocks q (g := F0 m pc ls rest) rfl rfl rfl (cell := ce) (by rw [hT]; exact hcell) (by rw [hv]; rfl)
    (by obtain ⟨k9, h9, -⟩ := Vm.findClass_spec hcl; exact ⟨k9, h9⟩) (fun z hz => by
      rcases hpass z hz with h | ⟨hz0, nm, hl1, hn1⟩
      · exact Or.inl h
      · obtain ⟨c6, hc6, hcl6⟩ := Cond.classLink_spec hown hl1 e.platform hpl
        obtain ⟨a8, b8, h1, h2, h3⟩ := hn1
        cases Option.some.inj (h1.symm.trans hcl)
        cases Option.some.inj (h2.symm.trans hc6)
        exact Or.inr ⟨hz0, _, hcl6, h3⟩)
  obtain ⟨g₀, hfr⟩ := X'.frames_eq
  have hcell9 : ((T.setVm vm').setFrames (.throwing q :: below)).heap[q]? = some ce := by
    show T.heap[q]? = some ce
    rw [hT]; exact hcell
  have hend : Ended ((T.setVm vm').setFrames (.throwing q :: below)) below (.threw q) := State.frames_setFrames _ (State.cur_lt_of_frames hfr)
  refine ⟨(T.setVm vm').setFrames (.throwing q :: below), ?_, .threw q, X'.here.running, hend, Or.inr ⟨q, rfl, E, ce, locs, hx _ hT (X'.ends _).1.alike, hcell9, hv, hcl, (X'.ends _).1, (X'.ends _).2.mono hc hs, hf⟩⟩
  rw [X.pushThrowing_eq]
  exact st
/-- a thing of a world lies in the heap -/
theorem vx_lt {D : va_G} {cl : List vw_C} {ws : va_W} {H1 : Heap} (h : va_P D cl ws H1) {k : Nat} {q : Nat × va_E} (hk : ws[k]? = some q) : q.1 < H1.size := (h k q hk).lt
end VXS
/-! ===== END ===== -/
/-! ===== BEGIN methods with a table of their own: called by a name, returning or throwing ===== -/
section VXH
/-! vx_backW, vx_callVX, vx_callSX, vx_callVW, vx_runVW, vx_runVX, vx_runSX, vx_ofWH follow the same proofs as their sisters above (Free/Laws.lean, Shelf42/LK1.lean); vx_outP calls Shelf42/NT130.lean (outThrough). -/
section
variable {l : Launch} {R : Room} {p : Program} {e : Env} {below : List Frame} {s : State} {sargs : Array Value} {y : MethodName} {len W9 : Nat}
theorem vx_backW {ws : List Cond} {rm : Room} {Pc : Array Value → State → Prop} {Qc : Array Value → State → Outcome → State → Prop} {XC : String → State → State → Prop} {mc ms : Nat} {free : Addr → Prop} {bytes : ByteArray} {maxL : Nat} {ret : Option FieldType} {hh : List (Nat × Nat × Nat × Nat)}
    (hM : vx_Met l y ws rm Pc Qc XC mc ms free) (hblind : FrameBlind Pc) (hrc : rm.cells = mc) (hrs : rm.slots = ms)
    (hframes : rm.frames + 1 ≤ R.frames) (hlocals : W9 + (maxL + 11) + rm.locals ≤ R.locals)
    (hws : ∀ w ∈ ws, ∀ a' U, s.WarmedH U.vm → w.before a' U = true) (hcode : Cond.codeWith y bytes maxL ret hh ∈ ws) (hinit : ∀ a' U, s.WarmedH U.vm → (Cond.initialized y.cls).before a' U = true) :
    vx_Back l R p e below s sargs y len W9 (PreOf R mc ms Pc) (PostOf Qc mc ms free) (vx_Post XC mc ms free) := by
  intro m meth c A g ig mk a X hg hsize hdg hW hn hp
  have h1 : (headSpec ws rm).pre.before a A.U = true := atoms_intro fun w hw => hws w hw _ _ X.warmed
  have h2 : (Cond.codeWith y bytes maxL ret hh).before a A.U = true := hws _ hcode _ _ X.warmed
  have h3 : (Cond.initialized y.cls).before a A.U = true := hinit _ _ X.warmed
  have h4 : A.cells + (headSpec ws rm).room.cells ≤ R.cells := by rw [show (headSpec ws rm).room.cells = mc from hrc]; exact hp.1
  have h5 : A.slots + (headSpec ws rm).room.slots ≤ R.slots := by rw [show (headSpec ws rm).room.slots = ms from hrs]; exact hp.2.1
  have hPc : Pc a (A.U.calling g mk a) := hblind _ _ _ _ hp.2.2
  obtain ⟨U, Ls, c0, s0⟩ := A
  dsimp only [Pt.U, Pt.locs, Pt.cells, Pt.slots] at h1 h2 h3 h4 h5 X hn hPc ⊢
  obtain ⟨m9, methY, cY, hn9, hmY, hcY, -, hlY, -⟩ := Cond.codeWith_spec h2
  cases Option.some.inj (hn9.symm.trans hn)
  obtain ⟨kY, hkY, -⟩ := className_of_methodNamed hn
  have hinitY : kY.init = .initialized := Cond.initialized_spec (findClass_of_methodNamed hn) hkY h3
  have h : At U g.method c below := by rw [hg]; exact X.here
  have hlocals9 : W9 + (maxL + 11) + (headSpec ws rm).room.locals ≤ R.locals := hlocals
  have happ : (headSpec ws rm).appliesLoose y e.platform (U.calling g mk a) = true :=
    Spec.appliesLoose_calling (g := g) h hdg hn hkY hinitY
      (X.room_calling (g := g) (R' := (headSpec ws rm).room) hsize hmY hcY hframes (by rw [hlY]; omega) h4 h5) h1
  obtain ⟨mid, hmid⟩ := h.above
  have hfr : (U.setTop g).frames = (.java g :: mid) ++ below := by rw [State.frames_setTop' g h.top, hmid]; rfl
  obtain ⟨o, s₂, hsteps, -, hend, hq⟩ := Steps.callFree hM p X.admits X.cas X.clock (acts := []) hfr happ hPc trivial
  have hq' : vx_Q Qc XC mc ms free a (U.calling g mk a) o s₂ := hq
  rw [State.frames_setTop' g h.top] at hend
  obtain ⟨g₀, hg0⟩ := Option.isSome_iff_exists.mp h.top
  obtain ⟨r, hr⟩ := State.topJava?_eq_some.mp hg0
  have hr' : (({ U with heap := s₂.heap, slotsUsed := s₂.slotsUsed } : State).setVm s₂.vm).frames = .java g₀ :: r := hr
  rcases hq' with ⟨hqc, L, hfe, hL⟩ | ⟨q, rfl, E, ce, L, hx, hce, hcv, hcl, hW₂, hsm, hL⟩
  · obtain ⟨⟨v, rfl⟩, hW₂, e2, q2, q3, q4, q5, q6⟩ := id hfe
    have e3 : s₂ = ({ (U.calling g mk a).setFrames s₂.frames with heap := s₂.heap, slotsUsed := s₂.slotsUsed } : State).setVm s₂.vm := by
      have : s₂ = ({ s₂ with vm := (U.calling g mk a).vm } : State).setVm s₂.vm := rfl
      rw [e2] at this
      exact this
    obtain ⟨c₂, i₂, len₂, hc₂, hd₂, hf₂⟩ := hend
    have hW' : U.WarmedH s₂.vm := hW₂
    have hcc : c₂ = c := by
      have h1 : s₂.code? g.method = U.code? g.method := by
        rw [State.code?_eq, State.code?_eq, hW'.alike.method?]
      exact Option.some.inj (hc₂.symm.trans (h1.trans h.code))
    subst hcc
    have hlen : len₂ = len := by rw [hdg] at hd₂; cases hd₂; rfl
    subst hlen
    have hs₂ : s₂ = (({ U with heap := s₂.heap, slotsUsed := s₂.slotsUsed } : State).setVm s₂.vm).setTop { g with pc := g.pc + len₂, stack := v.toList ++ g.stack } := by
      refine e3.trans ?_
      rw [hf₂, State.calling_eq h.top, State.setFrames_setFrames, State.setTop_of_frames _ hr', hr]
      rfl
    have hsame : U.sameButNew ({ U with heap := s₂.heap, slotsUsed := s₂.slotsUsed } : State) L mc ms := by
      refine ⟨?_, q2, q3, q4, q5, q6⟩
      obtain ⟨t, ht, -⟩ := State.frames_cons hr
      show ({ U with heap := s₂.heap, slotsUsed := s₂.slotsUsed } : State) = { U.setFrames U.frames with heap := s₂.heap, slotsUsed := s₂.slotsUsed }
      rw [State.setFrames_self ht]
    subst hg
    refine Or.inl ⟨v, ⟨(({ U with heap := s₂.heap, slotsUsed := s₂.slotsUsed } : State).setVm s₂.vm), Ls ++ L, c0 + mc, s0 + ms⟩,
      ⟨X.admits, X.cas, X.clock, X.frames, X.room, X.hears, X.method, X.code, (X.here.setHeapUsed s₂.heap s₂.slotsUsed).setVm hW'.alike, X.tail, State.WarmedH.trans X.warmed hW', X.limits, X.bytes, X.same.trans (hsame.setVm s.vm)⟩,
      ⟨g, mk, s₂, L, rfl, rfl, hqc, rfl, hL, rfl, rfl⟩, ?_⟩
    show Steps p.tables e below _ ((({ U with heap := s₂.heap, slotsUsed := s₂.slotsUsed } : State).setVm s₂.vm).setTop { g with pc := g.pc + len₂, stack := v.toList ++ g.stack })
    rw [← hs₂]
    exact hsteps
  · obtain ⟨e2, q2, q3, q4, q5, q6⟩ := id hsm
    have e3 : s₂ = ({ (U.calling g mk a).setFrames s₂.frames with heap := s₂.heap, slotsUsed := s₂.slotsUsed } : State).setVm s₂.vm := by
      have : s₂ = ({ s₂ with vm := (U.calling g mk a).vm } : State).setVm s₂.vm := rfl
      rw [e2] at this
      exact this
    have hf₂ : s₂.frames = .throwing q :: .java g :: U.frames.tail := hend
    have hW' : U.WarmedH s₂.vm := hW₂
    have hs₂ : s₂ = ((({ U with heap := s₂.heap, slotsUsed := s₂.slotsUsed } : State).setVm s₂.vm).setTop g).pushFrame (.throwing q) := by
      refine e3.trans ?_
      rw [hf₂, State.calling_eq h.top, State.setFrames_setFrames, State.pushFrame, State.frames_setTop _ hr', State.setTop_of_frames _ hr', State.setFrames_setFrames, hr]
      rfl
    have hsame : U.sameButNew ({ U with heap := s₂.heap, slotsUsed := s₂.slotsUsed } : State) L mc ms := by
      refine ⟨?_, q2, q3, q4, q5, q6⟩
      obtain ⟨t, ht, -⟩ := State.frames_cons hr
      show ({ U with heap := s₂.heap, slotsUsed := s₂.slotsUsed } : State) = { U.setFrames U.frames with heap := s₂.heap, slotsUsed := s₂.slotsUsed }
      rw [State.setFrames_self ht]
    subst hg
    refine Or.inr ⟨q, ⟨(({ U with heap := s₂.heap, slotsUsed := s₂.slotsUsed } : State).setVm s₂.vm), Ls ++ L, c0 + mc, s0 + ms⟩,
      ⟨X.admits, X.cas, X.clock, X.frames, X.room, X.hears, X.method, X.code, (X.here.setHeapUsed s₂.heap s₂.slotsUsed).setVm hW'.alike, X.tail, State.WarmedH.trans X.warmed hW', X.limits, X.bytes, X.same.trans (hsame.setVm s.vm)⟩,
      ⟨g, mk, s₂, L, E, ce, rfl, rfl, hx, hce, hcv, hcl, rfl, hL, rfl, rfl⟩, ?_⟩
    show Steps p.tables e below _ (((({ U with heap := s₂.heap, slotsUsed := s₂.slotsUsed } : State).setVm s₂.vm).setTop g).pushFrame (.throwing q))
    rw [← hs₂]
    exact hsteps
end
variable {p : Program} {l : Launch} {e : Env} {R : Room} {s : State} {m : MethodId} {args : Array Value} {below : List Frame} {meth : Method} {c : Code} {T : State} {H : Heap} {locs : List Loc} {cells slots : Nat}
theorem vx_callVX (X : Stand p l e R s m args below meth c T locs cells slots) (hexec : p.tables.exec = Jvm.exec) {own C : String} {index : Nat} {y : MethodName} {bytes : ByteArray} {maxL : Nat} {ret : Option FieldType} {hh : List (Nat × Nat × Nat × Nat)}
    (hown : s.vm.findClass own = some m.cls) (hlink : (Cond.methodLink own index y).before args s = true) (hinst : (Cond.instanceMethod y).before args s = true) (hsel : (Cond.selects C y y).before args s = true)
    (hcode : (Cond.codeWith y bytes maxL ret hh).before args s = true) (hy : y.cls ≠ "java/lang/invoke/MethodHandle" ∧ y.cls ≠ "java/lang/invoke/VarHandle")
    {W9 : Nat} {Pre : Pt → Array Value → Prop} {Post : Pt → Array Value → Option Value → Pt → Prop} {PostX : Pt → Array Value → Addr → Pt → Prop} (hK : vx_Back l R p e below s args y 3 W9 Pre Post PostX)
    {b : Addr} {cellB : Cell} (hcell : T.heap[b]? = some cellB) (hobj : cellB.vm.isStatics = false) (hcls : s.vm.findClass C = some cellB.cls)
    {g : JFrame} (hg : g.method = m) (hsize : g.locals.size = c.maxLocals) {argsL rest : List Value} (hlen : ∀ sig, parseMethodDescriptor y.desc = some sig → argsL.length = sig.parameters.length)
    (hstack : g.stack = argsL.reverse ++ .ref b :: rest) (hW : 2 * g.monitorRoom + (rest.map fun v => v.category).sum ≤ W9) (hdg : decode c.code g.pc = .ok (.invokevirtual index, 3))
    (hpre : ∀ vm₁, s.WarmedH vm₁ → Pre ⟨T.setVm vm₁, locs, cells, slots⟩ (Value.ref b :: argsL).toArray) :
    (∃ (v : Option Value) (vm₁ : Vm) (B : Pt), s.WarmedH vm₁ ∧ Stand p l e R s m args below meth c B.U B.locs B.cells B.slots ∧ Post ⟨T.setVm vm₁, locs, cells, slots⟩ (Value.ref b :: argsL).toArray v B ∧
      ∀ target, Steps p.tables e below (B.U.setTop { g with pc := g.pc + 3, stack := v.toList ++ rest }) target → Steps p.tables e below (T.setTop g) target) ∨
    (∃ (q : Addr) (vm₁ : Vm) (B : Pt), s.WarmedH vm₁ ∧ Stand p l e R s m args below meth c B.U B.locs B.cells B.slots ∧ PostX ⟨T.setVm vm₁, locs, cells, slots⟩ (Value.ref b :: argsL).toArray q B ∧
      Steps p.tables e below (T.setTop g) ((B.U.setTop { g with stack := rest }).pushFrame (.throwing q))) := by
  obtain ⟨mk, methM, hnamed, hmethM, hstM, habM⟩ := Cond.instanceMethod_spec hinst
  obtain ⟨m8, methM', cM, hn8, hmethM', -, -, -, -, -, -, hsigM⟩ := Cond.codeWith_spec hcode
  cases Option.some.inj (hn8.symm.trans hnamed)
  cases hmethM.symm.trans hmethM'
  obtain ⟨c2, r2, m2, q1, q2, q3, q4, kP, hkP, hkPi⟩ := Cond.selects_spec hsel
  cases hcls.symm.trans q1
  cases (State.methodFound?_of_named hnamed hy).symm.trans q2
  cases hnamed.symm.trans q3
  have hselP : selectMethod e.platform s.vm cellB.cls mk = .method mk := by rw [Launch.admits_selectMethod X.admits]; exact q4
  obtain ⟨vm₁, X₁, hstep₁⟩ := X.invokevirtual hexec hown hlink hnamed hmethM hstM hkP hkPi hy (a := b) (cell := cellB) hcell
    (fun z h => by rw [h] at hobj; cases hobj) hselP hmethM habM hkP hkPi (g := g) hg (argsL := argsL) (rest := rest) (hlen _ hsigM) hstack hdg
  rcases hK m meth c ⟨T.setVm vm₁, locs, cells, slots⟩ { g with stack := rest } (.invokevirtual index) mk (Value.ref b :: argsL).toArray X₁ hg hsize hdg hW (X₁.named hnamed) (hpre vm₁ X₁.warmed) with ⟨v, B, X', hpost, hsteps⟩ | ⟨q, B, X', hpost, hsteps⟩
  · exact Or.inl ⟨v, vm₁, B, X₁.warmed, X', hpost, fun target h => hstep₁ _ fun acts => by rw [doInvoke_state]; exact hsteps.trans h⟩
  · exact Or.inr ⟨q, vm₁, B, X₁.warmed, X', hpost, hstep₁ _ fun acts => by rw [doInvoke_state]; exact hsteps⟩
theorem vx_callSX (X : Stand p l e R s m args below meth c T locs cells slots) (hexec : p.tables.exec = Jvm.exec) {own : String} {index : Nat} {y : MethodName} {bytes : ByteArray} {maxL : Nat} {ret : Option FieldType} {hh : List (Nat × Nat × Nat × Nat)}
    (hown : s.vm.findClass own = some m.cls) (hlink : (Cond.methodLink own index y).before args s = true) (hstat : (Cond.static y).before args s = true) (hinit : (Cond.initialized y.cls).before args s = true)
    (hcode : (Cond.codeWith y bytes maxL ret hh).before args s = true) (hy : y.cls ≠ "java/lang/invoke/MethodHandle" ∧ y.cls ≠ "java/lang/invoke/VarHandle")
    {W9 : Nat} {Pre : Pt → Array Value → Prop} {Post : Pt → Array Value → Option Value → Pt → Prop} {PostX : Pt → Array Value → Addr → Pt → Prop} (hK : vx_Back l R p e below s args y 3 W9 Pre Post PostX)
    {g : JFrame} (hg : g.method = m) (hsize : g.locals.size = c.maxLocals) {argsL rest : List Value} (hlen : ∀ sig, parseMethodDescriptor y.desc = some sig → argsL.length = sig.parameters.length)
    (hstack : g.stack = argsL.reverse ++ rest) (hW : 2 * g.monitorRoom + (rest.map fun v => v.category).sum ≤ W9) (hdg : decode c.code g.pc = .ok (.invokestatic index, 3))
    (hpre : ∀ vm₁, s.WarmedH vm₁ → Pre ⟨T.setVm vm₁, locs, cells, slots⟩ argsL.toArray) :
    (∃ (v : Option Value) (vm₁ : Vm) (B : Pt), s.WarmedH vm₁ ∧ Stand p l e R s m args below meth c B.U B.locs B.cells B.slots ∧ Post ⟨T.setVm vm₁, locs, cells, slots⟩ argsL.toArray v B ∧
      ∀ target, Steps p.tables e below (B.U.setTop { g with pc := g.pc + 3, stack := v.toList ++ rest }) target → Steps p.tables e below (T.setTop g) target) ∨
    (∃ (q : Addr) (vm₁ : Vm) (B : Pt), s.WarmedH vm₁ ∧ Stand p l e R s m args below meth c B.U B.locs B.cells B.slots ∧ PostX ⟨T.setVm vm₁, locs, cells, slots⟩ argsL.toArray q B ∧
      Steps p.tables e below (T.setTop g) ((B.U.setTop { g with stack := rest }).pushFrame (.throwing q))) := by
  obtain ⟨mk, methM, cM, hnamed, hmethM, -, -, -, -, -, -, hsigM⟩ := Cond.codeWith_spec hcode
  have hstatic : methM.isStatic = true := Cond.static_spec hnamed hmethM hstat
  obtain ⟨kP, hkP, -⟩ := className_of_methodNamed hnamed
  have hinitP : kP.init = .initialized := Cond.initialized_spec (findClass_of_methodNamed hnamed) hkP hinit
  obtain ⟨vm₁, X₁, hstep₁⟩ := X.invokestatic hexec hown hlink hnamed hmethM hstatic hkP hinitP hy (g := g) hg (argsL := argsL) (rest := rest) (hlen _ hsigM) hstack hdg
  rcases hK m meth c ⟨T.setVm vm₁, locs, cells, slots⟩ { g with stack := rest } (.invokestatic index) mk argsL.toArray X₁ hg hsize hdg hW (X₁.named hnamed) (hpre vm₁ X₁.warmed) with ⟨v, B, X', hpost, hsteps⟩ | ⟨q, B, X', hpost, hsteps⟩
  · exact Or.inl ⟨v, vm₁, B, X₁.warmed, X', hpost, fun target h => hstep₁ _ fun acts => by rw [doInvoke_state]; exact hsteps.trans h⟩
  · exact Or.inr ⟨q, vm₁, B, X₁.warmed, X', hpost, hstep₁ _ fun acts => by rw [doInvoke_state]; exact hsteps⟩
theorem vx_callVW (X : Stand p l e R s m args below meth c T locs cells slots) (hexec : p.tables.exec = Jvm.exec) {own C : String} {index : Nat} {y : MethodName} {bytes : ByteArray} {maxL : Nat} {ret : Option FieldType} {hh : List (Nat × Nat × Nat × Nat)}
    (hown : s.vm.findClass own = some m.cls) (hlink : (Cond.methodLink own index y).before args s = true) (hinst : (Cond.instanceMethod y).before args s = true) (hsel : (Cond.selects C y y).before args s = true)
    (hcode : (Cond.codeWith y bytes maxL ret hh).before args s = true) (hy : y.cls ≠ "java/lang/invoke/MethodHandle" ∧ y.cls ≠ "java/lang/invoke/VarHandle")
    {W9 : Nat} {Pre : Pt → Array Value → Prop} {Post : Pt → Array Value → Option Value → Pt → Prop} (hK : Back l R p e below s args y 3 W9 Pre Post)
    {b : Addr} {cellB : Cell} (hcell : T.heap[b]? = some cellB) (hobj : cellB.vm.isStatics = false) (hcls : s.vm.findClass C = some cellB.cls)
    {g : JFrame} (hg : g.method = m) (hsize : g.locals.size = c.maxLocals) {argsL rest : List Value} (hlen : ∀ sig, parseMethodDescriptor y.desc = some sig → argsL.length = sig.parameters.length)
    (hstack : g.stack = argsL.reverse ++ .ref b :: rest) (hW : 2 * g.monitorRoom + (rest.map fun v => v.category).sum ≤ W9) (hdg : decode c.code g.pc = .ok (.invokevirtual index, 3))
    (hpre : ∀ vm₁, s.WarmedH vm₁ → Pre ⟨T.setVm vm₁, locs, cells, slots⟩ (Value.ref b :: argsL).toArray) :
    ∃ (v : Option Value) (vm₁ : Vm) (B : Pt), s.WarmedH vm₁ ∧ Stand p l e R s m args below meth c B.U B.locs B.cells B.slots ∧ Post ⟨T.setVm vm₁, locs, cells, slots⟩ (Value.ref b :: argsL).toArray v B ∧
      ∀ target, Steps p.tables e below (B.U.setTop { g with pc := g.pc + 3, stack := v.toList ++ rest }) target → Steps p.tables e below (T.setTop g) target := by
  obtain ⟨mk, methM, hnamed, hmethM, hstM, habM⟩ := Cond.instanceMethod_spec hinst
  obtain ⟨m8, methM', cM, hn8, hmethM', -, -, -, -, -, -, hsigM⟩ := Cond.codeWith_spec hcode
  cases Option.some.inj (hn8.symm.trans hnamed)
  cases hmethM.symm.trans hmethM'
  obtain ⟨c2, r2, m2, q1, q2, q3, q4, kP, hkP, hkPi⟩ := Cond.selects_spec hsel
  cases hcls.symm.trans q1
  cases (State.methodFound?_of_named hnamed hy).symm.trans q2
  cases hnamed.symm.trans q3
  have hselP : selectMethod e.platform s.vm cellB.cls mk = .method mk := by rw [Launch.admits_selectMethod X.admits]; exact q4
  obtain ⟨vm₁, X₁, hstep₁⟩ := X.invokevirtual hexec hown hlink hnamed hmethM hstM hkP hkPi hy (a := b) (cell := cellB) hcell
    (fun z h => by rw [h] at hobj; cases hobj) hselP hmethM habM hkP hkPi (g := g) hg (argsL := argsL) (rest := rest) (hlen _ hsigM) hstack hdg
  obtain ⟨v, B, X', hpost, hsteps⟩ := hK m meth c ⟨T.setVm vm₁, locs, cells, slots⟩ { g with stack := rest } (.invokevirtual index) mk (Value.ref b :: argsL).toArray X₁ hg hsize hdg hW (X₁.named hnamed) (hpre vm₁ X₁.warmed)
  exact ⟨v, vm₁, B, X₁.warmed, X', hpost, fun target h => hstep₁ _ fun acts => by rw [doInvoke_state]; exact hsteps.trans h⟩
abbrev vx_CVW (R : Room) (s : State) (args : Array Value) (own C : String) (index : Nat) (y : MethodName) (bytes : ByteArray) (maxL : Nat) (ret : Option FieldType) (hh : List (Nat × Nat × Nat × Nat)) (ws : List Cond) (rm : Room) (mc ms n : Nat) : Prop :=
  (rm.cells = mc ∧ rm.slots = ms ∧ rm.frames + 1 ≤ R.frames ∧ 8 + (maxL + 11) + rm.locals ≤ R.locals ∧ (∀ w ∈ ws, ∀ (a' : Array Value) (U : State), s.WarmedH U.vm → w.before a' U = true) ∧ Cond.codeWith y bytes maxL ret hh ∈ ws) ∧
  (Cond.codeWith y bytes maxL ret hh).before args s = true ∧ (Cond.initialized y.cls).before args s = true ∧ (y.cls ≠ "java/lang/invoke/MethodHandle" ∧ y.cls ≠ "java/lang/invoke/VarHandle") ∧
  (∀ sig, parseMethodDescriptor y.desc = some sig → n = sig.parameters.length) ∧ (Cond.methodLink own index y).before args s = true ∧ (Cond.instanceMethod y).before args s = true ∧ (Cond.selects C y y).before args s = true
theorem vx_cwVW {own C : String} {index maxL mc ms : Nat} {y : MethodName} {bytes : ByteArray} {ret : Option FieldType} {hh : List (Nat × Nat × Nat × Nat)} {Ts ws ws' : List Cond} {rm : Room} (n : Nat) (ht : ∀ w ∈ Ts, w.before args s = true) (hT : GoodIn Ts (wsV own index C y ws)) (hw : ws = Cond.codeWith y bytes maxL ret hh :: ws') (hrc : rm.cells = mc) (hrs : rm.slots = ms)
    (hd : y.cls = C ∧ y.cls ≠ "java/lang/invoke/MethodHandle" ∧ y.cls ≠ "java/lang/invoke/VarHandle" ∧ (parseMethodDescriptor y.desc).map (fun d => d.parameters.length) = some n) (hR : rm.frames + 1 ≤ R.frames ∧ 8 + (maxL + 11) + rm.locals ≤ R.locals) :
    vx_CVW R s args own C index y bytes maxL ret hh ws rm mc ms n := by
  obtain ⟨hC, hd⟩ := hd
  subst hC
  have ok : ∀ w ∈ wsV own index y.cls y ws, w.before args s = true := fun w h => ht w (hT w h).1
  have hG : GoodIn Ts ws := fun w h => hT w (by unfold wsV; exact List.mem_append_right _ h)
  have hc : Cond.codeWith y bytes maxL ret hh ∈ ws := by rw [hw]; exact List.mem_cons_self
  refine ⟨⟨hrc, hrs, hR.1, hR.2, pay_in ht hG, hc⟩, ht _ (hG _ hc).1, ok _ (by simp [wsV]), ⟨hd.1, hd.2.1⟩, fun sig h => ?_, ok _ (by simp [wsV]), ok _ (by simp [wsV]), ok _ (by simp [wsV])⟩
  have h2 := hd.2.2
  rw [h] at h2
  exact (Option.some.inj h2).symm
theorem vx_runVW {y : MethodName} {bytes cc : ByteArray} {maxL nL mc ms n index : Nat} {ret : Option FieldType} {hh : List (Nat × Nat × Nat × Nat)} {ws : List Cond} {rm : Room} {Pc : Array Value → State → Prop} {Qc : Array Value → State → Outcome → State → Prop} {free : Addr → Prop} {Ts : List Cond} {own C : String} {b : Addr} {As rest : List Value} {g : JFrame}
    (S : CallFix p m c cc nL s args Ts own) (hM : Met l y ws rm Pc Qc mc ms free) (cw : vx_CVW R s args own C index y bytes maxL ret hh ws rm mc ms n) (hp : PreV s H C b Pc As)
    (hg : g.method = m) (hn : As.length = n) (hsize : g.locals.size = nL) (hstack : g.stack = As.reverse ++ .ref b :: rest) (hW : 2 * g.monitorRoom + (rest.map fun v => v.category).sum ≤ 8) (hdg : decode cc g.pc = .ok (.invokevirtual index, 3)) (hf : cells + mc ≤ R.cells ∧ slots + ms ≤ R.slots) :
    va_Run p l e R s m args below meth c H locs cells slots mc ms g rest (Qc (Value.ref b :: As).toArray) free := by
  obtain ⟨⟨hrc, hrs, hfr, hlo, hws, hcw⟩, hcode, hini, hy, hlen, hl, hin, hse⟩ := cw
  have hK : Back l R p e below s args y 3 8 (PreOf R mc ms Pc) (PostOf Qc mc ms free) := va_backW (hh := hh) (bytes := bytes) (maxL := maxL) (ret := ret) hM hp.1 hrc hrs hfr hlo hws hcw (fun a' U hW => word_at hW (Or.inl (by first | rfl | simp [Cond.onTables, Cond.keeps, Cond.steady])) hini)
  obtain ⟨hx, hb, hml, ho, -⟩ := S
  obtain ⟨-, ⟨cellB, hcB, hoB, hclB⟩, hPc⟩ := hp
  intro T hT X
  obtain ⟨v, vm₁, ⟨U', l2, c2, s2⟩, hW₁, X', ⟨g', mk, t, L, e1, e2, hq, h1, hL, h2, h3⟩, st⟩ := vx_callVW X hx (C := C) (hh := hh) (bytes := bytes) (maxL := maxL) (ret := ret) ho hl hin hse hcode hy hK (by rw [hT]; exact hcB) hoB hclB hg (hsize.trans hml.symm) (argsL := As) (rest := rest) (fun sig h => hn.trans (hlen sig h)) hstack hW (by rw [hb]; exact hdg)
    (fun vm₁ hW₁ => ⟨hf.1, hf.2, hPc (T.setVm vm₁) hT hW₁⟩)
  dsimp only [Pt.U, Pt.locs, Pt.cells, Pt.slots] at X' e1 e2 h1 h2 h3 st
  subst h1; subst h2; subst h3
  exact ⟨v, (T.setVm vm₁).calling g' mk (Value.ref b :: As).toArray, t, U', L, hT, X', hL, e1, e2, hq, st⟩
section
variable {y : MethodName} {bytes cc : ByteArray} {maxL nL mc ms n index : Nat} {ret : Option FieldType} {ws : List Cond} {rm : Room} {Pc : Array Value → State → Prop} {Qc : Array Value → State → Outcome → State → Prop} {XC : String → State → State → Prop} {free : Addr → Prop} {Ts : List Cond} {own C : String} {b : Addr} {As rest : List Value} {g : JFrame}
theorem vx_runVX {hh : List (Nat × Nat × Nat × Nat)} (S : CallFix p m c cc nL s args Ts own) (hM : vx_Met l y ws rm Pc Qc XC mc ms free) (cw : vx_CVW R s args own C index y bytes maxL ret hh ws rm mc ms n) (hp : PreV s H C b Pc As)
    (hg : g.method = m) (hn : As.length = n) (hsize : g.locals.size = nL) (hstack : g.stack = As.reverse ++ .ref b :: rest) (hW : 2 * g.monitorRoom + (rest.map fun v => v.category).sum ≤ 8) (hdg : decode cc g.pc = .ok (.invokevirtual index, 3)) (hf : cells + mc ≤ R.cells ∧ slots + ms ≤ R.slots) :
    vx_Run p l e R s m args below meth c H locs cells slots mc ms g rest (Qc (Value.ref b :: As).toArray) XC free := by
  obtain ⟨⟨hrc, hrs, hfr, hlo, hws, hcw⟩, hcode, hini, hy, hlen, hl, hin, hse⟩ := cw
  have hK : vx_Back l R p e below s args y 3 8 (PreOf R mc ms Pc) (PostOf Qc mc ms free) (vx_Post XC mc ms free) := vx_backW (hh := hh) (bytes := bytes) (maxL := maxL) (ret := ret) hM hp.1 hrc hrs hfr hlo hws hcw (fun a' U hW => word_at hW (Or.inl (by first | rfl | simp [Cond.onTables, Cond.keeps, Cond.steady])) hini)
  obtain ⟨hx, hb, hml, ho, -⟩ := S
  obtain ⟨-, ⟨cellB, hcB, hoB, hclB⟩, hPc⟩ := hp
  intro T hT X
  rcases vx_callVX X hx (C := C) (hh := hh) (bytes := bytes) (maxL := maxL) (ret := ret) ho hl hin hse hcode hy hK (by rw [hT]; exact hcB) hoB hclB hg (hsize.trans hml.symm) (argsL := As) (rest := rest) (fun sig h => hn.trans (hlen sig h)) hstack hW (by rw [hb]; exact hdg)
    (fun vm₁ hW₁ => ⟨hf.1, hf.2, hPc (T.setVm vm₁) hT hW₁⟩) with ⟨v, vm₁, ⟨U', l2, c2, s2⟩, hW₁, X', ⟨g', mk, t, L, e1, e2, hq, h1, hL, h2, h3⟩, st⟩ | ⟨q, vm₁, ⟨U', l2, c2, s2⟩, hW₁, X', ⟨g', mk, t, L, E, ce, e1, e2, hq, hce, hcv, hcl, h1, hL, h2, h3⟩, st⟩
  · dsimp only [Pt.U, Pt.locs, Pt.cells, Pt.slots] at X' e1 e2 h1 h2 h3 st
    subst h1; subst h2; subst h3
    exact Or.inl ⟨v, (T.setVm vm₁).calling g' mk (Value.ref b :: As).toArray, t, U', L, hT, X', hL, e1, e2, hq, st⟩
  · dsimp only [Pt.U, Pt.locs, Pt.cells, Pt.slots] at X' e1 e2 h1 h2 h3 st hcl
    subst h1; subst h2; subst h3
    exact Or.inr ⟨q, (T.setVm vm₁).calling g' mk (Value.ref b :: As).toArray, t, U', L, E, ce, hT, X', hL, e1, e2, hq, hce, hcv, vx_cls hW₁ hcl, st⟩
theorem vx_runSX {hh : List (Nat × Nat × Nat × Nat)} (S : CallFix p m c cc nL s args Ts own) (hM : vx_Met l y ws rm Pc Qc XC mc ms free) (cw : vx_CSW R s args own index y bytes maxL ret hh ws rm mc ms n) (hp : PreS s H Pc As)
    (hg : g.method = m) (hn : As.length = n) (hsize : g.locals.size = nL) (hstack : g.stack = As.reverse ++ rest) (hW : 2 * g.monitorRoom + (rest.map fun v => v.category).sum ≤ 8) (hdg : decode cc g.pc = .ok (.invokestatic index, 3)) (hf : cells + mc ≤ R.cells ∧ slots + ms ≤ R.slots) :
    vx_Run p l e R s m args below meth c H locs cells slots mc ms g rest (Qc As.toArray) XC free := by
  obtain ⟨⟨hrc, hrs, hfr, hlo, hws, hcw⟩, hcode, hini, hy, hlen, hl, hstt⟩ := cw
  have hK : vx_Back l R p e below s args y 3 8 (PreOf R mc ms Pc) (PostOf Qc mc ms free) (vx_Post XC mc ms free) := vx_backW (hh := hh) (bytes := bytes) (maxL := maxL) (ret := ret) hM hp.1 hrc hrs hfr hlo hws hcw (fun a' U hW => word_at hW (Or.inl (by first | rfl | simp [Cond.onTables, Cond.keeps, Cond.steady])) hini)
  obtain ⟨hx, hb, hml, ho, -⟩ := S
  intro T hT X
  rcases vx_callSX X hx (hh := hh) (bytes := bytes) (maxL := maxL) (ret := ret) ho hl hstt hini hcode hy hK hg (hsize.trans hml.symm) (argsL := As) (rest := rest) (fun sig h => hn.trans (hlen sig h)) hstack hW (by rw [hb]; exact hdg)
    (fun vm₁ hW₁ => ⟨hf.1, hf.2, hp.2 (T.setVm vm₁) hT hW₁⟩) with ⟨v, vm₁, ⟨U', l2, c2, s2⟩, hW₁, X', ⟨g', mk, t, L, e1, e2, hq, h1, hL, h2, h3⟩, st⟩ | ⟨q, vm₁, ⟨U', l2, c2, s2⟩, hW₁, X', ⟨g', mk, t, L, E, ce, e1, e2, hq, hce, hcv, hcl, h1, hL, h2, h3⟩, st⟩
  · dsimp only [Pt.U, Pt.locs, Pt.cells, Pt.slots] at X' e1 e2 h1 h2 h3 st
    subst h1; subst h2; subst h3
    exact Or.inl ⟨v, (T.setVm vm₁).calling g' mk As.toArray, t, U', L, hT, X', hL, e1, e2, hq, st⟩
  · dsimp only [Pt.U, Pt.locs, Pt.cells, Pt.slots] at X' e1 e2 h1 h2 h3 st hcl
    subst h1; subst h2; subst h3
    exact Or.inr ⟨q, (T.setVm vm₁).calling g' mk As.toArray, t, U', L, E, ce, hT, X', hL, e1, e2, hq, hce, hcv, vx_cls hW₁ hcl, st⟩
end
end VXH
theorem vx_ofWH {l : Launch} {y : MethodName} {ws ws' : List Cond} {rm : Room} {Pc : Array Value → State → Prop} {Qc : Array Value → State → Outcome → State → Prop} {XC : String → State → State → Prop} {mc ms : Nat} {free : Addr → Prop} {cc : ByteArray} {maxL : Nat} {ret : Option FieldType} {hh : List (Nat × Nat × Nat × Nat)}
    (hy : plainName y.cls = true) (hw : ws = Cond.codeWith y cc maxL ret hh :: ws')
    (body : ∀ p e s m args below meth c s₁, BodyLoose p l y (headSpec ws rm) cc maxL ret e s m args below meth c s₁ → c.maxLocals = maxL → Pc args s →
      W p l e (headSpec ws rm).room s m args below meth c s.heap [] 0 0 (vx_MQ below Qc XC args s mc ms free) (entryFrame m args maxL)) : vx_Met l y ws rm Pc Qc XC mc ms free := by
  refine MetFree.of_bodyS (code := cc) (maxLocals := maxL) (ret := ret) hy ?_ ?_
  · intro args s m h hn
    obtain ⟨m9, meth, c, hn9, h1, h2, h3, h4, -, h5, h6, -⟩ := Cond.codeWith_spec (atoms_spec (ws := ws) h _ (by rw [hw]; exact List.mem_cons_self))
    cases hn.symm.trans hn9
    exact ⟨meth, c, h1, h2, h3, h4, h5, h6⟩
  · intro p e s m args below meth c s₁ B hml hP _
    have hh0 : s₁.heap = s.heap := by rw [B.state]; rfl
    obtain ⟨t, a1, o, b1, b2, b3⟩ := body p e s m args below meth c s₁ B hml hP s₁ hh0 (Stand.of_body B)
    exact ⟨t, o, a1, b1, b2, b3⟩
/-! ===== END ===== -/

/-! ===== BEGIN printed: names, fields, word lists, decode rows ===== -/
def RX0 : String := "ChalkSlate"
def TX0 : u_T := fun k => match k with
  | 0 => ("ChalkSlate", "stove", "[I", true)
  | 1 => ("ChalkSlate", "shelf", "[I", true)
  | 2 => ("ChalkSlate", "stamp", "[I", true)
  | 3 => ("ChalkSlate", "dishState", "[I", true)
  | 4 => ("ChalkSlate", "dishes", "I", false)
  | 5 => ("ChalkSlate", "lineDish", "[I", true)
  | 6 => ("ChalkSlate", "lineKind", "[I", true)
  | 7 => ("ChalkSlate", "linePot", "[I", true)
  | 8 => ("ChalkSlate", "lineAhead", "[I", true)
  | 9 => ("ChalkSlate", "lineBehind", "[I", true)
  | 10 => ("ChalkSlate", "lineTakesBack", "[I", true)
  | 11 => ("ChalkSlate", "lineTakenBackBy", "[I", true)
  | 12 => ("ChalkSlate", "lines", "I", false)
  | 13 => ("ChalkSlate", "dryLines", "I", false)
  | _ => ("ChalkSlate", "falls", "I", false)
def tyX0 : Nat → FieldType := fun k => match k with
  | 0 => .array .int
  | 1 => .array .int
  | 2 => .array .int
  | 3 => .array .int
  | 4 => .int
  | 5 => .array .int
  | 6 => .array .int
  | 7 => .array .int
  | 8 => .array .int
  | 9 => .array .int
  | 10 => .array .int
  | 11 => .array .int
  | 12 => .int
  | 13 => .int
  | _ => .int
abbrev wsX00 : List Cond := u_ws RX0 TX0 15
theorem nmX0 : ∀ a, a < 15 → ∀ b, b < 15 → a ≠ b → (TX0 a).2.1 ≠ (TX0 b).2.1 := by decide +kernel
theorem tyX0_ok : ∀ k, k < 15 → parseFieldDescriptor (TX0 k).2.2.1 = some (tyX0 k) := by decide +kernel
abbrev cX0_init : ByteArray := prog_1_method_1_code
def yX0_init : MethodName := ⟨RX0, "<init>", "()V"⟩
abbrev cX0_begin : ByteArray := prog_1_method_2_code
def yX0_begin : MethodName := ⟨RX0, "begin", "()I"⟩
abbrev cX0_cook : ByteArray := prog_1_method_3_code
def yX0_cook : MethodName := ⟨RX0, "cook", "(III)I"⟩
abbrev cX0_finish : ByteArray := prog_1_method_4_code
def yX0_finish : MethodName := ⟨RX0, "finish", "(I)I"⟩
abbrev cX0_drop : ByteArray := prog_1_method_5_code
def yX0_drop : MethodName := ⟨RX0, "drop", "(I)I"⟩
abbrev cX0_shelve : ByteArray := prog_1_method_6_code
def yX0_shelve : MethodName := ⟨RX0, "shelve", "(I)I"⟩
abbrev cX0_blow : ByteArray := prog_1_method_7_code
def yX0_blow : MethodName := ⟨RX0, "blow", "()I"⟩
abbrev cX0_fall : ByteArray := prog_1_method_8_code
def yX0_fall : MethodName := ⟨RX0, "fall", "()I"⟩
abbrev cX0_pot : ByteArray := prog_1_method_9_code
def yX0_pot : MethodName := ⟨RX0, "pot", "(II)I"⟩
abbrev cX0_dish : ByteArray := prog_1_method_10_code
def yX0_dish : MethodName := ⟨RX0, "dish", "(II)I"⟩
abbrev cX0_line : ByteArray := prog_1_method_11_code
def yX0_line : MethodName := ⟨RX0, "line", "(II)I"⟩
abbrev cX0_count : ByteArray := prog_1_method_12_code
def yX0_count : MethodName := ⟨RX0, "count", "(I)I"⟩
abbrev cX0_would : ByteArray := prog_1_method_13_code
def yX0_would : MethodName := ⟨RX0, "would", "(I)I"⟩
abbrev cX0_left : ByteArray := prog_1_method_14_code
def yX0_left : MethodName := ⟨RX0, "left", "(I)I"⟩
abbrev cX0_mean : ByteArray := prog_1_method_15_code
def yX0_mean : MethodName := ⟨RX0, "mean", "()D"⟩
abbrev cX0_digest : ByteArray := prog_1_method_16_code
def yX0_digest : MethodName := ⟨RX0, "digest", "()J"⟩
abbrev cX0_at : ByteArray := prog_1_method_17_code
def yX0_at : MethodName := ⟨RX0, "at", "([II)I"⟩
abbrev cX0_put : ByteArray := prog_1_method_18_code
def yX0_put : MethodName := ⟨RX0, "put", "([III)V"⟩
abbrev cX0_isBelow : ByteArray := prog_1_method_19_code
def yX0_isBelow : MethodName := ⟨RX0, "isBelow", "(II)Z"⟩
abbrev cX0_sumOf : ByteArray := prog_1_method_20_code
def yX0_sumOf : MethodName := ⟨RX0, "sumOf", "([I)I"⟩
abbrev cX0_potAnswer : ByteArray := prog_1_method_21_code
def yX0_potAnswer : MethodName := ⟨RX0, "potAnswer", "(II)I"⟩
abbrev cX0_dishAnswer : ByteArray := prog_1_method_22_code
def yX0_dishAnswer : MethodName := ⟨RX0, "dishAnswer", "(II)I"⟩
abbrev cX0_lineAnswer : ByteArray := prog_1_method_23_code
def yX0_lineAnswer : MethodName := ⟨RX0, "lineAnswer", "(II)I"⟩
abbrev cX0_countAnswer : ByteArray := prog_1_method_24_code
def yX0_countAnswer : MethodName := ⟨RX0, "countAnswer", "(I)I"⟩
abbrev cX0_isPot : ByteArray := prog_1_method_25_code
def yX0_isPot : MethodName := ⟨RX0, "isPot", "(I)Z"⟩
abbrev cX0_holderOf : ByteArray := prog_1_method_26_code
def yX0_holderOf : MethodName := ⟨RX0, "holderOf", "(I)I"⟩
abbrev cX0_latestLineOf : ByteArray := prog_1_method_27_code
def yX0_latestLineOf : MethodName := ⟨RX0, "latestLineOf", "(I)I"⟩
abbrev cX0_isDish : ByteArray := prog_1_method_28_code
def yX0_isDish : MethodName := ⟨RX0, "isDish", "(I)Z"⟩
abbrev cX0_isOpen : ByteArray := prog_1_method_29_code
def yX0_isOpen : MethodName := ⟨RX0, "isOpen", "(I)Z"⟩
abbrev cX0_dishesThatAre : ByteArray := prog_1_method_30_code
def yX0_dishesThatAre : MethodName := ⟨RX0, "dishesThatAre", "(I)I"⟩
abbrev cX0_linesOf : ByteArray := prog_1_method_31_code
def yX0_linesOf : MethodName := ⟨RX0, "linesOf", "(I)I"⟩
abbrev cX0_lastLineOf : ByteArray := prog_1_method_32_code
def yX0_lastLineOf : MethodName := ⟨RX0, "lastLineOf", "(I)I"⟩
abbrev cX0_potsHeldBy : ByteArray := prog_1_method_33_code
def yX0_potsHeldBy : MethodName := ⟨RX0, "potsHeldBy", "(I)I"⟩
abbrev cX0_stateByLines : ByteArray := prog_1_method_34_code
def yX0_stateByLines : MethodName := ⟨RX0, "stateByLines", "(II)I"⟩
abbrev cX0_stateAfter : ByteArray := prog_1_method_35_code
def yX0_stateAfter : MethodName := ⟨RX0, "stateAfter", "(II)I"⟩
abbrev cX0_isChangeNotTakenBack : ByteArray := prog_1_method_36_code
def yX0_isChangeNotTakenBack : MethodName := ⟨RX0, "isChangeNotTakenBack", "(III)Z"⟩
abbrev cX0_changesNotTakenBack : ByteArray := prog_1_method_37_code
def yX0_changesNotTakenBack : MethodName := ⟨RX0, "changesNotTakenBack", "(II)I"⟩
abbrev cX0_roomLeft : ByteArray := prog_1_method_38_code
def yX0_roomLeft : MethodName := ⟨RX0, "roomLeft", "()I"⟩
abbrev cX0_chalk : ByteArray := prog_1_method_39_code
def yX0_chalk : MethodName := ⟨RX0, "chalk", "(II)V"⟩
abbrev cX0_chalkSpoons : ByteArray := prog_1_method_40_code
def yX0_chalkSpoons : MethodName := ⟨RX0, "chalkSpoons", "(IIII)V"⟩
abbrev cX0_takeBack : ByteArray := prog_1_method_41_code
def yX0_takeBack : MethodName := ⟨RX0, "takeBack", "(I)V"⟩
abbrev cX0_undo : ByteArray := prog_1_method_42_code
def yX0_undo : MethodName := ⟨RX0, "undo", "(I)I"⟩
abbrev cX0_dryUpTo : ByteArray := prog_1_method_43_code
def yX0_dryUpTo : MethodName := ⟨RX0, "dryUpTo", "(I)I"⟩
abbrev cX0_wipeWhatIsNotDry : ByteArray := prog_1_method_44_code
def yX0_wipeWhatIsNotDry : MethodName := ⟨RX0, "wipeWhatIsNotDry", "()V"⟩
abbrev cX0_doAnew : ByteArray := prog_1_method_45_code
def yX0_doAnew : MethodName := ⟨RX0, "doAnew", "()I"⟩
abbrev cX0_isToDoAnew : ByteArray := prog_1_method_46_code
def yX0_isToDoAnew : MethodName := ⟨RX0, "isToDoAnew", "(I)Z"⟩
abbrev cX0_linesToDoAnew : ByteArray := prog_1_method_47_code
def yX0_linesToDoAnew : MethodName := ⟨RX0, "linesToDoAnew", "()I"⟩
abbrev cX0_firstLineToDoAnew : ByteArray := prog_1_method_48_code
def yX0_firstLineToDoAnew : MethodName := ⟨RX0, "firstLineToDoAnew", "()I"⟩
abbrev cX0_linesToTakeBack : ByteArray := prog_1_method_49_code
def yX0_linesToTakeBack : MethodName := ⟨RX0, "linesToTakeBack", "()I"⟩
abbrev cX0_dishesToForget : ByteArray := prog_1_method_50_code
def yX0_dishesToForget : MethodName := ⟨RX0, "dishesToForget", "()I"⟩
abbrev cX0_spoonsAfterUndoing : ByteArray := prog_1_method_51_code
def yX0_spoonsAfterUndoing : MethodName := ⟨RX0, "spoonsAfterUndoing", "(III)I"⟩
def RX1 : String := "ChalkSlateModel$State"
def TX1 : u_T := fun k => match k with
  | 0 => ("ChalkSlateModel$State", "lines", "I", false)
  | 1 => ("ChalkSlateModel$State", "dry", "I", false)
  | 2 => ("ChalkSlateModel$State", "stove", "[I", true)
  | 3 => ("ChalkSlateModel$State", "shelf", "[I", true)
  | 4 => ("ChalkSlateModel$State", "stamp", "[I", true)
  | 5 => ("ChalkSlateModel$State", "dish", "[I", true)
  | 6 => ("ChalkSlateModel$State", "kind", "[I", true)
  | 7 => ("ChalkSlateModel$State", "pot", "[I", true)
  | 8 => ("ChalkSlateModel$State", "ahead", "[I", true)
  | 9 => ("ChalkSlateModel$State", "behind", "[I", true)
  | 10 => ("ChalkSlateModel$State", "takes", "[I", true)
  | 11 => ("ChalkSlateModel$State", "anew", "I", false)
  | 12 => ("ChalkSlateModel$State", "first", "I", false)
  | 13 => ("ChalkSlateModel$State", "back", "I", false)
  | _ => ("ChalkSlateModel$State", "this$0", "LChalkSlateModel;", true)
def tyX1 : Nat → FieldType := fun k => match k with
  | 0 => .int
  | 1 => .int
  | 2 => .array .int
  | 3 => .array .int
  | 4 => .array .int
  | 5 => .array .int
  | 6 => .array .int
  | 7 => .array .int
  | 8 => .array .int
  | 9 => .array .int
  | 10 => .array .int
  | 11 => .int
  | 12 => .int
  | 13 => .int
  | _ => .object "ChalkSlateModel"
abbrev wsX10 : List Cond := u_ws RX1 TX1 15
theorem nmX1 : ∀ a, a < 15 → ∀ b, b < 15 → a ≠ b → (TX1 a).2.1 ≠ (TX1 b).2.1 := by decide +kernel
theorem tyX1_ok : ∀ k, k < 15 → parseFieldDescriptor (TX1 k).2.2.1 = some (tyX1 k) := by decide +kernel
abbrev cX1_init : ByteArray := prog_4_method_1_code
def yX1_init : MethodName := ⟨RX1, "<init>", "(LChalkSlateModel;)V"⟩
abbrev cX1_copy : ByteArray := prog_4_method_2_code
def yX1_copy : MethodName := ⟨RX1, "copy", "([I[I)V"⟩
abbrev cX1_become : ByteArray := prog_4_method_3_code
def yX1_become : MethodName := ⟨RX1, "become", "(LChalkSlateModel$State;)V"⟩
abbrev cX1_is : ByteArray := prog_4_method_4_code
def yX1_is : MethodName := ⟨RX1, "is", "(I)I"⟩
abbrev cX1_isTakenBack : ByteArray := prog_4_method_5_code
def yX1_isTakenBack : MethodName := ⟨RX1, "isTakenBack", "(I)Z"⟩
abbrev cX1_isKept : ByteArray := prog_4_method_6_code
def yX1_isKept : MethodName := ⟨RX1, "isKept", "(II)Z"⟩
abbrev cX1_kept : ByteArray := prog_4_method_7_code
def yX1_kept : MethodName := ⟨RX1, "kept", "(I)I"⟩
abbrev cX1_room : ByteArray := prog_4_method_8_code
def yX1_room : MethodName := ⟨RX1, "room", "()I"⟩
abbrev cX1_isHeld : ByteArray := prog_4_method_9_code
def yX1_isHeld : MethodName := ⟨RX1, "isHeld", "(II)Z"⟩
abbrev cX1_holder : ByteArray := prog_4_method_10_code
def yX1_holder : MethodName := ⟨RX1, "holder", "(I)I"⟩
abbrev cX1_latest : ByteArray := prog_4_method_11_code
def yX1_latest : MethodName := ⟨RX1, "latest", "(I)I"⟩
abbrev cX1_chalk : ByteArray := prog_4_method_12_code
def yX1_chalk : MethodName := ⟨RX1, "chalk", "(II)V"⟩
abbrev cX1_chalk_ : ByteArray := prog_4_method_13_code
def yX1_chalk_ : MethodName := ⟨RX1, "chalk", "(IIIII)V"⟩
abbrev cX1_undo : ByteArray := prog_4_method_14_code
def yX1_undo : MethodName := ⟨RX1, "undo", "(I)I"⟩
abbrev cX1_dries : ByteArray := prog_4_method_15_code
def yX1_dries : MethodName := ⟨RX1, "dries", "(I)I"⟩
abbrev cX1_fall : ByteArray := prog_4_method_16_code
def yX1_fall : MethodName := ⟨RX1, "fall", "()V"⟩
abbrev cX1_are : ByteArray := prog_4_method_17_code
def yX1_are : MethodName := ⟨RX1, "are", "(I)I"⟩
abbrev cX1_sum : ByteArray := prog_4_method_18_code
def yX1_sum : MethodName := ⟨RX1, "sum", "([I)I"⟩
def RX2 : String := "ChalkSlateModel"
def TX2 : u_T := fun k => match k with
  | 0 => ("ChalkSlateModel", "thrown", "I", false)
  | 1 => ("ChalkSlateModel", "dishes", "I", false)
  | 2 => ("ChalkSlateModel", "falls", "I", false)
  | 3 => ("ChalkSlateModel", "s", "LChalkSlateModel$State;", true)
  | _ => ("ChalkSlateModel", "then", "LChalkSlateModel$State;", true)
def tyX2 : Nat → FieldType := fun k => match k with
  | 0 => .int
  | 1 => .int
  | 2 => .int
  | 3 => .object "ChalkSlateModel$State"
  | _ => .object "ChalkSlateModel$State"
abbrev wsX20 : List Cond := u_ws RX2 TX2 5
theorem nmX2 : ∀ a, a < 5 → ∀ b, b < 5 → a ≠ b → (TX2 a).2.1 ≠ (TX2 b).2.1 := by decide +kernel
theorem tyX2_ok : ∀ k, k < 5 → parseFieldDescriptor (TX2 k).2.2.1 = some (tyX2 k) := by decide +kernel
abbrev cX2_init : ByteArray := prog_3_method_1_code
def yX2_init : MethodName := ⟨RX2, "<init>", "()V"⟩
abbrev cX2_thrown : ByteArray := prog_3_method_2_code
def yX2_thrown : MethodName := ⟨RX2, "thrown", "()I"⟩
abbrev cX2_no : ByteArray := prog_3_method_3_code
def yX2_no : MethodName := ⟨RX2, "no", "(I)I"⟩
abbrev cX2_isIn : ByteArray := prog_3_method_4_code
def yX2_isIn : MethodName := ⟨RX2, "isIn", "(III)Z"⟩
abbrev cX2_isPot : ByteArray := prog_3_method_5_code
def yX2_isPot : MethodName := ⟨RX2, "isPot", "(I)Z"⟩
abbrev cX2_isDish : ByteArray := prog_3_method_6_code
def yX2_isDish : MethodName := ⟨RX2, "isDish", "(I)Z"⟩
abbrev cX2_begin : ByteArray := prog_3_method_7_code
def yX2_begin : MethodName := ⟨RX2, "begin", "()I"⟩
abbrev cX2_cook : ByteArray := prog_3_method_8_code
def yX2_cook : MethodName := ⟨RX2, "cook", "(III)I"⟩
abbrev cX2_finish : ByteArray := prog_3_method_9_code
def yX2_finish : MethodName := ⟨RX2, "finish", "(I)I"⟩
abbrev cX2_drop : ByteArray := prog_3_method_10_code
def yX2_drop : MethodName := ⟨RX2, "drop", "(I)I"⟩
abbrev cX2_shelve : ByteArray := prog_3_method_11_code
def yX2_shelve : MethodName := ⟨RX2, "shelve", "(I)I"⟩
abbrev cX2_blow : ByteArray := prog_3_method_12_code
def yX2_blow : MethodName := ⟨RX2, "blow", "()I"⟩
abbrev cX2_fall : ByteArray := prog_3_method_13_code
def yX2_fall : MethodName := ⟨RX2, "fall", "()I"⟩
abbrev cX2_potTold : ByteArray := prog_3_method_14_code
def yX2_potTold : MethodName := ⟨RX2, "potTold", "(II)I"⟩
abbrev cX2_pot : ByteArray := prog_3_method_15_code
def yX2_pot : MethodName := ⟨RX2, "pot", "(II)I"⟩
abbrev cX2_dishTold : ByteArray := prog_3_method_16_code
def yX2_dishTold : MethodName := ⟨RX2, "dishTold", "(II)I"⟩
abbrev cX2_dish : ByteArray := prog_3_method_17_code
def yX2_dish : MethodName := ⟨RX2, "dish", "(II)I"⟩
abbrev cX2_lineTold : ByteArray := prog_3_method_18_code
def yX2_lineTold : MethodName := ⟨RX2, "lineTold", "(II)I"⟩
abbrev cX2_line : ByteArray := prog_3_method_19_code
def yX2_line : MethodName := ⟨RX2, "line", "(II)I"⟩
abbrev cX2_counted : ByteArray := prog_3_method_20_code
def yX2_counted : MethodName := ⟨RX2, "counted", "(I)I"⟩
abbrev cX2_count : ByteArray := prog_3_method_21_code
def yX2_count : MethodName := ⟨RX2, "count", "(I)I"⟩
abbrev cX2_would : ByteArray := prog_3_method_22_code
def yX2_would : MethodName := ⟨RX2, "would", "(I)I"⟩
abbrev cX2_left : ByteArray := prog_3_method_23_code
def yX2_left : MethodName := ⟨RX2, "left", "(I)I"⟩
abbrev cX2_mean : ByteArray := prog_3_method_24_code
def yX2_mean : MethodName := ⟨RX2, "mean", "()D"⟩
abbrev cX2_digest : ByteArray := prog_3_method_25_code
def yX2_digest : MethodName := ⟨RX2, "digest", "()J"⟩
def RJx145de : String := "java/io/Serializable"
def TJx145de : u_T := fun k => match k with
  | _ => ("", "", "", false)
def tyJx145de : Nat → FieldType := fun k => match k with
  | _ => .int
abbrev wsJx145de0 : List Cond := u_ws RJx145de TJx145de 0
theorem nmJx145de : ∀ a, a < 0 → ∀ b, b < 0 → a ≠ b → (TJx145de a).2.1 ≠ (TJx145de b).2.1 := by decide +kernel
theorem tyJx145de_ok : ∀ k, k < 0 → parseFieldDescriptor (TJx145de k).2.2.1 = some (tyJx145de k) := by decide +kernel
def RJ9 : String := "java/lang/Math"
def TJ9 : u_T := fun k => match k with
  | _ => ("", "", "", false)
def tyJ9 : Nat → FieldType := fun k => match k with
  | _ => .int
abbrev wsJ90 : List Cond := u_ws RJ9 TJ9 0
theorem nmJ9 : ∀ a, a < 0 → ∀ b, b < 0 → a ≠ b → (TJ9 a).2.1 ≠ (TJ9 b).2.1 := by decide +kernel
theorem tyJ9_ok : ∀ k, k < 0 → parseFieldDescriptor (TJ9 k).2.2.1 = some (tyJ9 k) := by decide +kernel
abbrev cJ9_max_7cf53 : ByteArray := prog_9_method_65_code
def yJ9_max_7cf53 : MethodName := ⟨RJ9, "max", "(II)I"⟩
def RJ0 : String := "java/lang/String"
def TJ0 : u_T := fun k => match k with
  | _ => ("", "", "", false)
def tyJ0 : Nat → FieldType := fun k => match k with
  | _ => .int
abbrev wsJ00 : List Cond := u_ws RJ0 TJ0 0
theorem nmJ0 : ∀ a, a < 0 → ∀ b, b < 0 → a ≠ b → (TJ0 a).2.1 ≠ (TJ0 b).2.1 := by decide +kernel
theorem tyJ0_ok : ∀ k, k < 0 → parseFieldDescriptor (TJ0 k).2.2.1 = some (tyJ0 k) := by decide +kernel
def RJ10 : String := "java/lang/System"
def TJ10 : u_T := fun k => match k with
  | _ => ("", "", "", false)
def tyJ10 : Nat → FieldType := fun k => match k with
  | _ => .int
abbrev wsJ100 : List Cond := u_ws RJ10 TJ10 0
theorem nmJ10 : ∀ a, a < 0 → ∀ b, b < 0 → a ≠ b → (TJ10 a).2.1 ≠ (TJ10 b).2.1 := by decide +kernel
theorem tyJ10_ok : ∀ k, k < 0 → parseFieldDescriptor (TJ10 k).2.2.1 = some (tyJ10 k) := by decide +kernel
def RJ7 : String := "java/util/Arrays"
def TJ7 : u_T := fun k => match k with
  | _ => ("", "", "", false)
def tyJ7 : Nat → FieldType := fun k => match k with
  | _ => .int
abbrev wsJ70 : List Cond := u_ws RJ7 TJ7 0
theorem nmJ7 : ∀ a, a < 0 → ∀ b, b < 0 → a ≠ b → (TJ7 a).2.1 ≠ (TJ7 b).2.1 := by decide +kernel
theorem tyJ7_ok : ∀ k, k < 0 → parseFieldDescriptor (TJ7 k).2.2.1 = some (tyJ7 k) := by decide +kernel
abbrev cJ7_fill_53178 : ByteArray := prog_14_method_103_code
def yJ7_fill_53178 : MethodName := ⟨RJ7, "fill", "([II)V"⟩
def RL : String := "ChalkSlateLaw"
abbrev cL_begin : ByteArray := method_3_code
def yL_begin : MethodName := ⟨RL, "begin", "(LChalkSlate;[J)I"⟩
abbrev cL_cook : ByteArray := method_4_code
def yL_cook : MethodName := ⟨RL, "cook", "(LChalkSlate;III[J)I"⟩
abbrev cL_finish : ByteArray := method_5_code
def yL_finish : MethodName := ⟨RL, "finish", "(LChalkSlate;I[J)I"⟩
abbrev cL_drop : ByteArray := method_6_code
def yL_drop : MethodName := ⟨RL, "drop", "(LChalkSlate;I[J)I"⟩
abbrev cL_shelve : ByteArray := method_7_code
def yL_shelve : MethodName := ⟨RL, "shelve", "(LChalkSlate;I[J)I"⟩
abbrev cL_pot : ByteArray := method_8_code
def yL_pot : MethodName := ⟨RL, "pot", "(LChalkSlate;II[J)I"⟩
abbrev cL_dish : ByteArray := method_9_code
def yL_dish : MethodName := ⟨RL, "dish", "(LChalkSlate;II[J)I"⟩
abbrev cL_line : ByteArray := method_10_code
def yL_line : MethodName := ⟨RL, "line", "(LChalkSlate;II[J)I"⟩
abbrev cL_count : ByteArray := method_11_code
def yL_count : MethodName := ⟨RL, "count", "(LChalkSlate;I[J)I"⟩
abbrev cL_would : ByteArray := method_12_code
def yL_would : MethodName := ⟨RL, "would", "(LChalkSlate;I[J)I"⟩
abbrev cL_left : ByteArray := method_13_code
def yL_left : MethodName := ⟨RL, "left", "(LChalkSlate;I[J)I"⟩
abbrev cL_law : ByteArray := code
def yL_law : MethodName := ⟨RL, "law", "([I)Z"⟩
def wsJ7_fill_53178 : List Cond := .code yJ7_fill_53178 cJ7_fill_53178 4 none :: ([])
def wsX0_init : List Cond := .code yX0_init cX0_init 1 none :: ([.methodLink RX0 1 objectInit, .instanceMethod objectInit, .code objectInit ⟨#[0xb1]⟩ 1 none, .arrayClass .int, .fieldLink RX0 9 "ChalkSlate" "stove" "[I", .fieldLink RX0 13 "ChalkSlate" "shelf" "[I", .fieldLink RX0 16 "ChalkSlate" "stamp" "[I", .fieldLink RX0 19 "ChalkSlate" "dishState" "[I", .fieldLink RX0 22 "ChalkSlate" "lineDish" "[I", .fieldLink RX0 25 "ChalkSlate" "lineKind" "[I", .fieldLink RX0 28 "ChalkSlate" "linePot" "[I", .fieldLink RX0 31 "ChalkSlate" "lineAhead" "[I", .fieldLink RX0 34 "ChalkSlate" "lineBehind" "[I", .fieldLink RX0 37 "ChalkSlate" "lineTakesBack" "[I", .fieldLink RX0 40 "ChalkSlate" "lineTakenBackBy" "[I", .methodLink RX0 43 yJ7_fill_53178, .static yJ7_fill_53178, .initialized RJ7, .code yJ7_fill_53178 cJ7_fill_53178 4 none] ++ wsX00)
def wsX0_isBelow : List Cond := .code yX0_isBelow cX0_isBelow 2 (some .boolean) :: ([])
def wsX0_at : List Cond := .code yX0_at cX0_at 2 (some .int) :: ([.methodLink RX0 141 yX0_isBelow, .static yX0_isBelow, .initialized RX0, .code yX0_isBelow cX0_isBelow 2 (some .boolean)])
def wsX0_isOpen : List Cond := .code yX0_isOpen cX0_isOpen 2 (some .boolean) :: ([.fieldLink RX0 19 "ChalkSlate" "dishState" "[I", .methodLink RX0 102 yX0_at, .static yX0_at, .initialized RX0, .code yX0_at cX0_at 2 (some .int), .methodLink RX0 141 yX0_isBelow, .static yX0_isBelow, .code yX0_isBelow cX0_isBelow 2 (some .boolean)] ++ wsX00)
def wsX0_isChangeNotTakenBack : List Cond := .code yX0_isChangeNotTakenBack cX0_isChangeNotTakenBack 4 (some .boolean) :: ([.fieldLink RX0 22 "ChalkSlate" "lineDish" "[I", .fieldLink RX0 25 "ChalkSlate" "lineKind" "[I", .fieldLink RX0 40 "ChalkSlate" "lineTakenBackBy" "[I", .methodLink RX0 102 yX0_at, .static yX0_at, .initialized RX0, .code yX0_at cX0_at 2 (some .int), .methodLink RX0 141 yX0_isBelow, .static yX0_isBelow, .code yX0_isBelow cX0_isBelow 2 (some .boolean)] ++ wsX00)
def wsX0_changesNotTakenBack : List Cond := .code yX0_changesNotTakenBack cX0_changesNotTakenBack 5 (some .int) :: ([.methodLink RX0 219 yX0_isChangeNotTakenBack, .instanceMethod yX0_isChangeNotTakenBack, .selects RX0 yX0_isChangeNotTakenBack yX0_isChangeNotTakenBack, .initialized RX0, .code yX0_isChangeNotTakenBack cX0_isChangeNotTakenBack 4 (some .boolean), .fieldLink RX0 22 "ChalkSlate" "lineDish" "[I", .fieldLink RX0 25 "ChalkSlate" "lineKind" "[I", .fieldLink RX0 40 "ChalkSlate" "lineTakenBackBy" "[I", .methodLink RX0 102 yX0_at, .static yX0_at, .code yX0_at cX0_at 2 (some .int), .methodLink RX0 141 yX0_isBelow, .static yX0_isBelow, .code yX0_isBelow cX0_isBelow 2 (some .boolean)] ++ wsX00)
def wsX0_roomLeft_r1 : List Cond := [Cond.fieldLink RX0 112 "ChalkSlate" "lines" "I", Cond.fieldLink RX0 49 "ChalkSlate" "dishes" "I", Cond.methodLink RX0 91 yX0_isOpen, Cond.instanceMethod yX0_isOpen, Cond.selects RX0 yX0_isOpen yX0_isOpen, Cond.initialized RX0, Cond.code yX0_isOpen cX0_isOpen 2 (some .boolean), Cond.fieldLink RX0 19 "ChalkSlate" "dishState" "[I", Cond.methodLink RX0 102 yX0_at, Cond.static yX0_at, Cond.code yX0_at cX0_at 2 (some .int), Cond.methodLink RX0 141 yX0_isBelow, Cond.static yX0_isBelow, Cond.code yX0_isBelow cX0_isBelow 2 (some .boolean), Cond.methodLink RX0 204 yX0_changesNotTakenBack, Cond.instanceMethod yX0_changesNotTakenBack, Cond.selects RX0 yX0_changesNotTakenBack yX0_changesNotTakenBack, Cond.code yX0_changesNotTakenBack cX0_changesNotTakenBack 5 (some .int), Cond.methodLink RX0 219 yX0_isChangeNotTakenBack, Cond.instanceMethod yX0_isChangeNotTakenBack, Cond.selects RX0 yX0_isChangeNotTakenBack yX0_isChangeNotTakenBack, Cond.code yX0_isChangeNotTakenBack cX0_isChangeNotTakenBack 4 (some .boolean), Cond.fieldLink RX0 22 "ChalkSlate" "lineDish" "[I", Cond.fieldLink RX0 25 "ChalkSlate" "lineKind" "[I"]
def wsX0_roomLeft_r2 : List Cond := [Cond.fieldLink RX0 40 "ChalkSlate" "lineTakenBackBy" "[I"]
def wsX0_roomLeft : List Cond := .code yX0_roomLeft cX0_roomLeft 3 (some .int) :: ((wsX0_roomLeft_r1 ++ wsX0_roomLeft_r2) ++ wsX00)
def wsX0_put : List Cond := .code yX0_put cX0_put 3 none :: ([.methodLink RX0 141 yX0_isBelow, .static yX0_isBelow, .initialized RX0, .code yX0_isBelow cX0_isBelow 2 (some .boolean)])
def wsX0_chalk : List Cond := .code yX0_chalk cX0_chalk 3 none :: ([.fieldLink RX0 22 "ChalkSlate" "lineDish" "[I", .fieldLink RX0 112 "ChalkSlate" "lines" "I", .fieldLink RX0 25 "ChalkSlate" "lineKind" "[I", .fieldLink RX0 28 "ChalkSlate" "linePot" "[I", .fieldLink RX0 31 "ChalkSlate" "lineAhead" "[I", .fieldLink RX0 34 "ChalkSlate" "lineBehind" "[I", .fieldLink RX0 37 "ChalkSlate" "lineTakesBack" "[I", .fieldLink RX0 40 "ChalkSlate" "lineTakenBackBy" "[I", .methodLink RX0 66 yX0_put, .static yX0_put, .initialized RX0, .code yX0_put cX0_put 3 none, .methodLink RX0 141 yX0_isBelow, .static yX0_isBelow, .code yX0_isBelow cX0_isBelow 2 (some .boolean)] ++ wsX00)
def wsX0_begin_r1 : List Cond := [Cond.classLink RX0 53 "java/lang/IllegalStateException", Cond.initialized "java/lang/IllegalStateException", Cond.fieldLink RX0 49 "ChalkSlate" "dishes" "I", Cond.fieldLink RX0 19 "ChalkSlate" "dishState" "[I", Cond.methodLink RX0 60 yX0_roomLeft, Cond.instanceMethod yX0_roomLeft, Cond.selects RX0 yX0_roomLeft yX0_roomLeft, Cond.initialized RX0, Cond.code yX0_roomLeft cX0_roomLeft 3 (some .int), Cond.fieldLink RX0 112 "ChalkSlate" "lines" "I", Cond.methodLink RX0 91 yX0_isOpen, Cond.instanceMethod yX0_isOpen, Cond.selects RX0 yX0_isOpen yX0_isOpen, Cond.code yX0_isOpen cX0_isOpen 2 (some .boolean), Cond.methodLink RX0 102 yX0_at, Cond.static yX0_at, Cond.code yX0_at cX0_at 2 (some .int), Cond.methodLink RX0 141 yX0_isBelow, Cond.static yX0_isBelow, Cond.code yX0_isBelow cX0_isBelow 2 (some .boolean), Cond.methodLink RX0 204 yX0_changesNotTakenBack, Cond.instanceMethod yX0_changesNotTakenBack, Cond.selects RX0 yX0_changesNotTakenBack yX0_changesNotTakenBack, Cond.code yX0_changesNotTakenBack cX0_changesNotTakenBack 5 (some .int)]
def wsX0_begin_r2 : List Cond := [Cond.methodLink RX0 219 yX0_isChangeNotTakenBack, Cond.instanceMethod yX0_isChangeNotTakenBack, Cond.selects RX0 yX0_isChangeNotTakenBack yX0_isChangeNotTakenBack, Cond.code yX0_isChangeNotTakenBack cX0_isChangeNotTakenBack 4 (some .boolean), Cond.fieldLink RX0 22 "ChalkSlate" "lineDish" "[I", Cond.fieldLink RX0 25 "ChalkSlate" "lineKind" "[I", Cond.fieldLink RX0 40 "ChalkSlate" "lineTakenBackBy" "[I", Cond.methodLink RX0 66 yX0_put, Cond.static yX0_put, Cond.code yX0_put cX0_put 3 none, Cond.methodLink RX0 70 yX0_chalk, Cond.instanceMethod yX0_chalk, Cond.selects RX0 yX0_chalk yX0_chalk, Cond.code yX0_chalk cX0_chalk 3 none, Cond.fieldLink RX0 28 "ChalkSlate" "linePot" "[I", Cond.fieldLink RX0 31 "ChalkSlate" "lineAhead" "[I", Cond.fieldLink RX0 34 "ChalkSlate" "lineBehind" "[I", Cond.fieldLink RX0 37 "ChalkSlate" "lineTakesBack" "[I"]
def wsX0_begin : List Cond := .code yX0_begin cX0_begin 2 (some .int) :: ((wsX0_begin_r1 ++ wsX0_begin_r2) ++ wsX00 ++ (vx_atS RX0 57 "java/lang/IllegalStateException" ["java/lang/RuntimeException", "java/lang/Exception"]).filter goodWord)
def wsX0_isDish : List Cond := .code yX0_isDish cX0_isDish 2 (some .boolean) :: ([.fieldLink RX0 49 "ChalkSlate" "dishes" "I", .methodLink RX0 141 yX0_isBelow, .static yX0_isBelow, .initialized RX0, .code yX0_isBelow cX0_isBelow 2 (some .boolean)] ++ wsX00)
def wsX0_isPot : List Cond := .code yX0_isPot cX0_isPot 1 (some .boolean) :: ([.methodLink RX0 141 yX0_isBelow, .static yX0_isBelow, .initialized RX0, .code yX0_isBelow cX0_isBelow 2 (some .boolean)])
def wsX0_holderOf : List Cond := .code yX0_holderOf cX0_holderOf 4 (some .int) :: ([.fieldLink RX0 112 "ChalkSlate" "lines" "I", .fieldLink RX0 22 "ChalkSlate" "lineDish" "[I", .fieldLink RX0 25 "ChalkSlate" "lineKind" "[I", .fieldLink RX0 28 "ChalkSlate" "linePot" "[I", .methodLink RX0 102 yX0_at, .static yX0_at, .initialized RX0, .code yX0_at cX0_at 2 (some .int), .methodLink RX0 141 yX0_isBelow, .static yX0_isBelow, .code yX0_isBelow cX0_isBelow 2 (some .boolean), .methodLink RX0 91 yX0_isOpen, .instanceMethod yX0_isOpen, .selects RX0 yX0_isOpen yX0_isOpen, .code yX0_isOpen cX0_isOpen 2 (some .boolean), .fieldLink RX0 19 "ChalkSlate" "dishState" "[I"] ++ wsX00)
def wsX0_chalkSpoons : List Cond := .code yX0_chalkSpoons cX0_chalkSpoons 6 none :: ([.fieldLink RX0 112 "ChalkSlate" "lines" "I", .fieldLink RX0 28 "ChalkSlate" "linePot" "[I", .fieldLink RX0 31 "ChalkSlate" "lineAhead" "[I", .fieldLink RX0 9 "ChalkSlate" "stove" "[I", .fieldLink RX0 34 "ChalkSlate" "lineBehind" "[I", .methodLink RX0 70 yX0_chalk, .instanceMethod yX0_chalk, .selects RX0 yX0_chalk yX0_chalk, .initialized RX0, .code yX0_chalk cX0_chalk 3 none, .fieldLink RX0 22 "ChalkSlate" "lineDish" "[I", .fieldLink RX0 25 "ChalkSlate" "lineKind" "[I", .fieldLink RX0 37 "ChalkSlate" "lineTakesBack" "[I", .fieldLink RX0 40 "ChalkSlate" "lineTakenBackBy" "[I", .methodLink RX0 66 yX0_put, .static yX0_put, .code yX0_put cX0_put 3 none, .methodLink RX0 141 yX0_isBelow, .static yX0_isBelow, .code yX0_isBelow cX0_isBelow 2 (some .boolean), .methodLink RX0 102 yX0_at, .static yX0_at, .code yX0_at cX0_at 2 (some .int)] ++ wsX00)
def wsX0_cook_r1 : List Cond := [Cond.classLink RX0 81 "java/lang/IndexOutOfBoundsException", Cond.initialized "java/lang/IndexOutOfBoundsException", Cond.classLink RX0 86 "java/lang/IllegalArgumentException", Cond.initialized "java/lang/IllegalArgumentException", Cond.classLink RX0 53 "java/lang/IllegalStateException", Cond.initialized "java/lang/IllegalStateException", Cond.fieldLink RX0 9 "ChalkSlate" "stove" "[I", Cond.methodLink RX0 74 yX0_isDish, Cond.instanceMethod yX0_isDish, Cond.selects RX0 yX0_isDish yX0_isDish, Cond.initialized RX0, Cond.code yX0_isDish cX0_isDish 2 (some .boolean), Cond.fieldLink RX0 49 "ChalkSlate" "dishes" "I", Cond.methodLink RX0 141 yX0_isBelow, Cond.static yX0_isBelow, Cond.code yX0_isBelow cX0_isBelow 2 (some .boolean), Cond.methodLink RX0 78 yX0_isPot, Cond.static yX0_isPot, Cond.code yX0_isPot cX0_isPot 1 (some .boolean), Cond.methodLink RX0 91 yX0_isOpen, Cond.instanceMethod yX0_isOpen, Cond.selects RX0 yX0_isOpen yX0_isOpen, Cond.code yX0_isOpen cX0_isOpen 2 (some .boolean), Cond.fieldLink RX0 19 "ChalkSlate" "dishState" "[I"]
def wsX0_cook_r2 : List Cond := [Cond.methodLink RX0 102 yX0_at, Cond.static yX0_at, Cond.code yX0_at cX0_at 2 (some .int), Cond.methodLink RX0 96 yX0_holderOf, Cond.instanceMethod yX0_holderOf, Cond.selects RX0 yX0_holderOf yX0_holderOf, Cond.code yX0_holderOf cX0_holderOf 4 (some .int), Cond.fieldLink RX0 112 "ChalkSlate" "lines" "I", Cond.fieldLink RX0 22 "ChalkSlate" "lineDish" "[I", Cond.fieldLink RX0 25 "ChalkSlate" "lineKind" "[I", Cond.fieldLink RX0 28 "ChalkSlate" "linePot" "[I", Cond.methodLink RX0 60 yX0_roomLeft, Cond.instanceMethod yX0_roomLeft, Cond.selects RX0 yX0_roomLeft yX0_roomLeft, Cond.code yX0_roomLeft cX0_roomLeft 3 (some .int), Cond.methodLink RX0 204 yX0_changesNotTakenBack, Cond.instanceMethod yX0_changesNotTakenBack, Cond.selects RX0 yX0_changesNotTakenBack yX0_changesNotTakenBack, Cond.code yX0_changesNotTakenBack cX0_changesNotTakenBack 5 (some .int), Cond.methodLink RX0 219 yX0_isChangeNotTakenBack, Cond.instanceMethod yX0_isChangeNotTakenBack, Cond.selects RX0 yX0_isChangeNotTakenBack yX0_isChangeNotTakenBack, Cond.code yX0_isChangeNotTakenBack cX0_isChangeNotTakenBack 4 (some .boolean), Cond.fieldLink RX0 40 "ChalkSlate" "lineTakenBackBy" "[I"]
def wsX0_cook_r3 : List Cond := [Cond.methodLink RX0 106 yX0_chalkSpoons, Cond.instanceMethod yX0_chalkSpoons, Cond.selects RX0 yX0_chalkSpoons yX0_chalkSpoons, Cond.code yX0_chalkSpoons cX0_chalkSpoons 6 none, Cond.fieldLink RX0 31 "ChalkSlate" "lineAhead" "[I", Cond.fieldLink RX0 34 "ChalkSlate" "lineBehind" "[I", Cond.methodLink RX0 70 yX0_chalk, Cond.instanceMethod yX0_chalk, Cond.selects RX0 yX0_chalk yX0_chalk, Cond.code yX0_chalk cX0_chalk 3 none, Cond.fieldLink RX0 37 "ChalkSlate" "lineTakesBack" "[I", Cond.methodLink RX0 66 yX0_put, Cond.static yX0_put, Cond.code yX0_put cX0_put 3 none]
def wsX0_cook : List Cond := .code yX0_cook cX0_cook 6 (some .int) :: ((wsX0_cook_r1 ++ (wsX0_cook_r2 ++ wsX0_cook_r3)) ++ wsX00 ++ (vx_atS RX0 85 "java/lang/IndexOutOfBoundsException" ["java/lang/RuntimeException", "java/lang/Exception"]).filter goodWord ++ (vx_atS RX0 90 "java/lang/IllegalArgumentException" ["java/lang/RuntimeException", "java/lang/Exception"]).filter goodWord ++ (vx_atS RX0 57 "java/lang/IllegalStateException" ["java/lang/RuntimeException", "java/lang/Exception"]).filter goodWord)
def wsX0_dryUpTo : List Cond := .code yX0_dryUpTo cX0_dryUpTo 3 (some .int) :: ([.fieldLink RX0 166 "ChalkSlate" "dryLines" "I", .methodLink RX0 227 Lib.Math.max.name, .static Lib.Math.max.name, .initialized "java/lang/Math", .code Lib.Math.max.name Lib.Math.max.code 2 (some .int)] ++ wsX00)
def wsX0_finish_r1 : List Cond := [Cond.classLink RX0 81 "java/lang/IndexOutOfBoundsException", Cond.initialized "java/lang/IndexOutOfBoundsException", Cond.classLink RX0 53 "java/lang/IllegalStateException", Cond.initialized "java/lang/IllegalStateException", Cond.fieldLink RX0 19 "ChalkSlate" "dishState" "[I", Cond.fieldLink RX0 112 "ChalkSlate" "lines" "I", Cond.methodLink RX0 74 yX0_isDish, Cond.instanceMethod yX0_isDish, Cond.selects RX0 yX0_isDish yX0_isDish, Cond.initialized RX0, Cond.code yX0_isDish cX0_isDish 2 (some .boolean), Cond.fieldLink RX0 49 "ChalkSlate" "dishes" "I", Cond.methodLink RX0 141 yX0_isBelow, Cond.static yX0_isBelow, Cond.code yX0_isBelow cX0_isBelow 2 (some .boolean), Cond.methodLink RX0 91 yX0_isOpen, Cond.instanceMethod yX0_isOpen, Cond.selects RX0 yX0_isOpen yX0_isOpen, Cond.code yX0_isOpen cX0_isOpen 2 (some .boolean), Cond.methodLink RX0 102 yX0_at, Cond.static yX0_at, Cond.code yX0_at cX0_at 2 (some .int), Cond.methodLink RX0 70 yX0_chalk, Cond.instanceMethod yX0_chalk]
def wsX0_finish_r2 : List Cond := [Cond.selects RX0 yX0_chalk yX0_chalk, Cond.code yX0_chalk cX0_chalk 3 none, Cond.fieldLink RX0 22 "ChalkSlate" "lineDish" "[I", Cond.fieldLink RX0 25 "ChalkSlate" "lineKind" "[I", Cond.fieldLink RX0 28 "ChalkSlate" "linePot" "[I", Cond.fieldLink RX0 31 "ChalkSlate" "lineAhead" "[I", Cond.fieldLink RX0 34 "ChalkSlate" "lineBehind" "[I", Cond.fieldLink RX0 37 "ChalkSlate" "lineTakesBack" "[I", Cond.fieldLink RX0 40 "ChalkSlate" "lineTakenBackBy" "[I", Cond.methodLink RX0 66 yX0_put, Cond.static yX0_put, Cond.code yX0_put cX0_put 3 none, Cond.methodLink RX0 115 yX0_dryUpTo, Cond.instanceMethod yX0_dryUpTo, Cond.selects RX0 yX0_dryUpTo yX0_dryUpTo, Cond.code yX0_dryUpTo cX0_dryUpTo 3 (some .int), Cond.fieldLink RX0 166 "ChalkSlate" "dryLines" "I", Cond.methodLink RX0 227 Lib.Math.max.name, Cond.static Lib.Math.max.name, Cond.initialized "java/lang/Math", Cond.code Lib.Math.max.name Lib.Math.max.code 2 (some .int)]
def wsX0_finish : List Cond := .code yX0_finish cX0_finish 2 (some .int) :: ((wsX0_finish_r1 ++ wsX0_finish_r2) ++ wsX00 ++ (vx_atS RX0 85 "java/lang/IndexOutOfBoundsException" ["java/lang/RuntimeException", "java/lang/Exception"]).filter goodWord ++ (vx_atS RX0 57 "java/lang/IllegalStateException" ["java/lang/RuntimeException", "java/lang/Exception"]).filter goodWord)
def wsX0_takeBack_r1 : List Cond := [Cond.fieldLink RX0 112 "ChalkSlate" "lines" "I", Cond.fieldLink RX0 22 "ChalkSlate" "lineDish" "[I", Cond.fieldLink RX0 28 "ChalkSlate" "linePot" "[I", Cond.fieldLink RX0 31 "ChalkSlate" "lineAhead" "[I", Cond.fieldLink RX0 37 "ChalkSlate" "lineTakesBack" "[I", Cond.fieldLink RX0 40 "ChalkSlate" "lineTakenBackBy" "[I", Cond.methodLink RX0 102 yX0_at, Cond.static yX0_at, Cond.initialized RX0, Cond.code yX0_at cX0_at 2 (some .int), Cond.methodLink RX0 141 yX0_isBelow, Cond.static yX0_isBelow, Cond.code yX0_isBelow cX0_isBelow 2 (some .boolean), Cond.methodLink RX0 106 yX0_chalkSpoons, Cond.instanceMethod yX0_chalkSpoons, Cond.selects RX0 yX0_chalkSpoons yX0_chalkSpoons, Cond.code yX0_chalkSpoons cX0_chalkSpoons 6 none, Cond.fieldLink RX0 9 "ChalkSlate" "stove" "[I", Cond.fieldLink RX0 34 "ChalkSlate" "lineBehind" "[I", Cond.methodLink RX0 70 yX0_chalk, Cond.instanceMethod yX0_chalk, Cond.selects RX0 yX0_chalk yX0_chalk, Cond.code yX0_chalk cX0_chalk 3 none, Cond.fieldLink RX0 25 "ChalkSlate" "lineKind" "[I"]
def wsX0_takeBack_r2 : List Cond := [Cond.methodLink RX0 66 yX0_put, Cond.static yX0_put, Cond.code yX0_put cX0_put 3 none]
def wsX0_takeBack : List Cond := .code yX0_takeBack cX0_takeBack 3 none :: ((wsX0_takeBack_r1 ++ wsX0_takeBack_r2) ++ wsX00)
def wsX0_undo_r1 : List Cond := [Cond.fieldLink RX0 112 "ChalkSlate" "lines" "I", Cond.fieldLink RX0 19 "ChalkSlate" "dishState" "[I", Cond.methodLink RX0 219 yX0_isChangeNotTakenBack, Cond.instanceMethod yX0_isChangeNotTakenBack, Cond.selects RX0 yX0_isChangeNotTakenBack yX0_isChangeNotTakenBack, Cond.initialized RX0, Cond.code yX0_isChangeNotTakenBack cX0_isChangeNotTakenBack 4 (some .boolean), Cond.fieldLink RX0 22 "ChalkSlate" "lineDish" "[I", Cond.fieldLink RX0 25 "ChalkSlate" "lineKind" "[I", Cond.fieldLink RX0 40 "ChalkSlate" "lineTakenBackBy" "[I", Cond.methodLink RX0 102 yX0_at, Cond.static yX0_at, Cond.code yX0_at cX0_at 2 (some .int), Cond.methodLink RX0 141 yX0_isBelow, Cond.static yX0_isBelow, Cond.code yX0_isBelow cX0_isBelow 2 (some .boolean), Cond.methodLink RX0 223 yX0_takeBack, Cond.instanceMethod yX0_takeBack, Cond.selects RX0 yX0_takeBack yX0_takeBack, Cond.code yX0_takeBack cX0_takeBack 3 none, Cond.fieldLink RX0 28 "ChalkSlate" "linePot" "[I", Cond.fieldLink RX0 31 "ChalkSlate" "lineAhead" "[I", Cond.fieldLink RX0 37 "ChalkSlate" "lineTakesBack" "[I", Cond.methodLink RX0 106 yX0_chalkSpoons]
def wsX0_undo_r2 : List Cond := [Cond.instanceMethod yX0_chalkSpoons, Cond.selects RX0 yX0_chalkSpoons yX0_chalkSpoons, Cond.code yX0_chalkSpoons cX0_chalkSpoons 6 none, Cond.fieldLink RX0 9 "ChalkSlate" "stove" "[I", Cond.fieldLink RX0 34 "ChalkSlate" "lineBehind" "[I", Cond.methodLink RX0 70 yX0_chalk, Cond.instanceMethod yX0_chalk, Cond.selects RX0 yX0_chalk yX0_chalk, Cond.code yX0_chalk cX0_chalk 3 none, Cond.methodLink RX0 66 yX0_put, Cond.static yX0_put, Cond.code yX0_put cX0_put 3 none]
def wsX0_undo : List Cond := .code yX0_undo cX0_undo 4 (some .int) :: ((wsX0_undo_r1 ++ wsX0_undo_r2) ++ wsX00)
def wsX0_drop_r1 : List Cond := [Cond.classLink RX0 81 "java/lang/IndexOutOfBoundsException", Cond.initialized "java/lang/IndexOutOfBoundsException", Cond.classLink RX0 53 "java/lang/IllegalStateException", Cond.initialized "java/lang/IllegalStateException", Cond.methodLink RX0 74 yX0_isDish, Cond.instanceMethod yX0_isDish, Cond.selects RX0 yX0_isDish yX0_isDish, Cond.initialized RX0, Cond.code yX0_isDish cX0_isDish 2 (some .boolean), Cond.fieldLink RX0 49 "ChalkSlate" "dishes" "I", Cond.methodLink RX0 141 yX0_isBelow, Cond.static yX0_isBelow, Cond.code yX0_isBelow cX0_isBelow 2 (some .boolean), Cond.methodLink RX0 91 yX0_isOpen, Cond.instanceMethod yX0_isOpen, Cond.selects RX0 yX0_isOpen yX0_isOpen, Cond.code yX0_isOpen cX0_isOpen 2 (some .boolean), Cond.fieldLink RX0 19 "ChalkSlate" "dishState" "[I", Cond.methodLink RX0 102 yX0_at, Cond.static yX0_at, Cond.code yX0_at cX0_at 2 (some .int), Cond.methodLink RX0 118 yX0_undo, Cond.instanceMethod yX0_undo, Cond.selects RX0 yX0_undo yX0_undo]
def wsX0_drop_r2 : List Cond := [Cond.code yX0_undo cX0_undo 4 (some .int), Cond.fieldLink RX0 112 "ChalkSlate" "lines" "I", Cond.methodLink RX0 219 yX0_isChangeNotTakenBack, Cond.instanceMethod yX0_isChangeNotTakenBack, Cond.selects RX0 yX0_isChangeNotTakenBack yX0_isChangeNotTakenBack, Cond.code yX0_isChangeNotTakenBack cX0_isChangeNotTakenBack 4 (some .boolean), Cond.fieldLink RX0 22 "ChalkSlate" "lineDish" "[I", Cond.fieldLink RX0 25 "ChalkSlate" "lineKind" "[I", Cond.fieldLink RX0 40 "ChalkSlate" "lineTakenBackBy" "[I", Cond.methodLink RX0 223 yX0_takeBack, Cond.instanceMethod yX0_takeBack, Cond.selects RX0 yX0_takeBack yX0_takeBack, Cond.code yX0_takeBack cX0_takeBack 3 none, Cond.fieldLink RX0 28 "ChalkSlate" "linePot" "[I", Cond.fieldLink RX0 31 "ChalkSlate" "lineAhead" "[I", Cond.fieldLink RX0 37 "ChalkSlate" "lineTakesBack" "[I", Cond.methodLink RX0 106 yX0_chalkSpoons, Cond.instanceMethod yX0_chalkSpoons, Cond.selects RX0 yX0_chalkSpoons yX0_chalkSpoons, Cond.code yX0_chalkSpoons cX0_chalkSpoons 6 none, Cond.fieldLink RX0 9 "ChalkSlate" "stove" "[I", Cond.fieldLink RX0 34 "ChalkSlate" "lineBehind" "[I", Cond.methodLink RX0 70 yX0_chalk, Cond.instanceMethod yX0_chalk]
def wsX0_drop_r3 : List Cond := [Cond.selects RX0 yX0_chalk yX0_chalk, Cond.code yX0_chalk cX0_chalk 3 none, Cond.methodLink RX0 66 yX0_put, Cond.static yX0_put, Cond.code yX0_put cX0_put 3 none]
def wsX0_drop : List Cond := .code yX0_drop cX0_drop 2 (some .int) :: ((wsX0_drop_r1 ++ (wsX0_drop_r2 ++ wsX0_drop_r3)) ++ wsX00 ++ (vx_atS RX0 85 "java/lang/IndexOutOfBoundsException" ["java/lang/RuntimeException", "java/lang/Exception"]).filter goodWord ++ (vx_atS RX0 57 "java/lang/IllegalStateException" ["java/lang/RuntimeException", "java/lang/Exception"]).filter goodWord)
def wsX0_latestLineOf : List Cond := .code yX0_latestLineOf cX0_latestLineOf 3 (some .int) :: ([.fieldLink RX0 112 "ChalkSlate" "lines" "I", .fieldLink RX0 28 "ChalkSlate" "linePot" "[I", .methodLink RX0 102 yX0_at, .static yX0_at, .initialized RX0, .code yX0_at cX0_at 2 (some .int), .methodLink RX0 141 yX0_isBelow, .static yX0_isBelow, .code yX0_isBelow cX0_isBelow 2 (some .boolean)] ++ wsX00)
def wsX0_shelve_r1 : List Cond := [Cond.classLink RX0 81 "java/lang/IndexOutOfBoundsException", Cond.initialized "java/lang/IndexOutOfBoundsException", Cond.fieldLink RX0 13 "ChalkSlate" "shelf" "[I", Cond.fieldLink RX0 9 "ChalkSlate" "stove" "[I", Cond.fieldLink RX0 16 "ChalkSlate" "stamp" "[I", Cond.methodLink RX0 78 yX0_isPot, Cond.static yX0_isPot, Cond.initialized RX0, Cond.code yX0_isPot cX0_isPot 1 (some .boolean), Cond.methodLink RX0 141 yX0_isBelow, Cond.static yX0_isBelow, Cond.code yX0_isBelow cX0_isBelow 2 (some .boolean), Cond.methodLink RX0 123 yX0_latestLineOf, Cond.instanceMethod yX0_latestLineOf, Cond.selects RX0 yX0_latestLineOf yX0_latestLineOf, Cond.code yX0_latestLineOf cX0_latestLineOf 3 (some .int), Cond.fieldLink RX0 112 "ChalkSlate" "lines" "I", Cond.fieldLink RX0 28 "ChalkSlate" "linePot" "[I", Cond.methodLink RX0 102 yX0_at, Cond.static yX0_at, Cond.code yX0_at cX0_at 2 (some .int), Cond.methodLink RX0 115 yX0_dryUpTo, Cond.instanceMethod yX0_dryUpTo, Cond.selects RX0 yX0_dryUpTo yX0_dryUpTo]
def wsX0_shelve_r2 : List Cond := [Cond.code yX0_dryUpTo cX0_dryUpTo 3 (some .int), Cond.fieldLink RX0 166 "ChalkSlate" "dryLines" "I", Cond.methodLink RX0 227 Lib.Math.max.name, Cond.static Lib.Math.max.name, Cond.initialized "java/lang/Math", Cond.code Lib.Math.max.name Lib.Math.max.code 2 (some .int), Cond.methodLink RX0 66 yX0_put, Cond.static yX0_put, Cond.code yX0_put cX0_put 3 none]
def wsX0_shelve : List Cond := .code yX0_shelve cX0_shelve 4 (some .int) :: ((wsX0_shelve_r1 ++ wsX0_shelve_r2) ++ wsX00 ++ (vx_atS RX0 85 "java/lang/IndexOutOfBoundsException" ["java/lang/RuntimeException", "java/lang/Exception"]).filter goodWord)
def wsX0_blow : List Cond := .code yX0_blow cX0_blow 1 (some .int) :: ([.fieldLink RX0 112 "ChalkSlate" "lines" "I", .methodLink RX0 115 yX0_dryUpTo, .instanceMethod yX0_dryUpTo, .selects RX0 yX0_dryUpTo yX0_dryUpTo, .initialized RX0, .code yX0_dryUpTo cX0_dryUpTo 3 (some .int), .fieldLink RX0 166 "ChalkSlate" "dryLines" "I", .methodLink RX0 227 Lib.Math.max.name, .static Lib.Math.max.name, .initialized "java/lang/Math", .code Lib.Math.max.name Lib.Math.max.code 2 (some .int)] ++ wsX00)
def wsX0_stateAfter : List Cond := .code yX0_stateAfter cX0_stateAfter 2 (some .int) :: ([])
def wsX0_stateByLines : List Cond := .code yX0_stateByLines cX0_stateByLines 5 (some .int) :: ([.fieldLink RX0 22 "ChalkSlate" "lineDish" "[I", .fieldLink RX0 25 "ChalkSlate" "lineKind" "[I", .methodLink RX0 102 yX0_at, .static yX0_at, .initialized RX0, .code yX0_at cX0_at 2 (some .int), .methodLink RX0 141 yX0_isBelow, .static yX0_isBelow, .code yX0_isBelow cX0_isBelow 2 (some .boolean), .methodLink RX0 216 yX0_stateAfter, .static yX0_stateAfter, .code yX0_stateAfter cX0_stateAfter 2 (some .int)] ++ wsX00)
def wsX0_wipeWhatIsNotDry : List Cond := .code yX0_wipeWhatIsNotDry cX0_wipeWhatIsNotDry 2 none :: ([.fieldLink RX0 166 "ChalkSlate" "dryLines" "I", .fieldLink RX0 112 "ChalkSlate" "lines" "I", .fieldLink RX0 40 "ChalkSlate" "lineTakenBackBy" "[I", .fieldLink RX0 49 "ChalkSlate" "dishes" "I", .fieldLink RX0 19 "ChalkSlate" "dishState" "[I", .methodLink RX0 102 yX0_at, .static yX0_at, .initialized RX0, .code yX0_at cX0_at 2 (some .int), .methodLink RX0 141 yX0_isBelow, .static yX0_isBelow, .code yX0_isBelow cX0_isBelow 2 (some .boolean), .methodLink RX0 66 yX0_put, .static yX0_put, .code yX0_put cX0_put 3 none, .methodLink RX0 184 yX0_stateByLines, .instanceMethod yX0_stateByLines, .selects RX0 yX0_stateByLines yX0_stateByLines, .code yX0_stateByLines cX0_stateByLines 5 (some .int), .fieldLink RX0 22 "ChalkSlate" "lineDish" "[I", .fieldLink RX0 25 "ChalkSlate" "lineKind" "[I", .methodLink RX0 216 yX0_stateAfter, .static yX0_stateAfter, .code yX0_stateAfter cX0_stateAfter 2 (some .int)] ++ wsX00)
def wsX0_isToDoAnew : List Cond := .code yX0_isToDoAnew cX0_isToDoAnew 3 (some .boolean) :: ([.fieldLink RX0 28 "ChalkSlate" "linePot" "[I", .fieldLink RX0 16 "ChalkSlate" "stamp" "[I", .methodLink RX0 102 yX0_at, .static yX0_at, .initialized RX0, .code yX0_at cX0_at 2 (some .int), .methodLink RX0 141 yX0_isBelow, .static yX0_isBelow, .code yX0_isBelow cX0_isBelow 2 (some .boolean)] ++ wsX00)
def wsX0_doAnew : List Cond := .code yX0_doAnew cX0_doAnew 3 (some .int) :: ([.fieldLink RX0 112 "ChalkSlate" "lines" "I", .fieldLink RX0 9 "ChalkSlate" "stove" "[I", .fieldLink RX0 28 "ChalkSlate" "linePot" "[I", .fieldLink RX0 34 "ChalkSlate" "lineBehind" "[I", .methodLink RX0 181 yX0_isToDoAnew, .instanceMethod yX0_isToDoAnew, .selects RX0 yX0_isToDoAnew yX0_isToDoAnew, .initialized RX0, .code yX0_isToDoAnew cX0_isToDoAnew 3 (some .boolean), .fieldLink RX0 16 "ChalkSlate" "stamp" "[I", .methodLink RX0 102 yX0_at, .static yX0_at, .code yX0_at cX0_at 2 (some .int), .methodLink RX0 141 yX0_isBelow, .static yX0_isBelow, .code yX0_isBelow cX0_isBelow 2 (some .boolean), .methodLink RX0 66 yX0_put, .static yX0_put, .code yX0_put cX0_put 3 none] ++ wsX00)
def wsX0_fall_r1 : List Cond := [Cond.fieldLink RX0 13 "ChalkSlate" "shelf" "[I", Cond.fieldLink RX0 9 "ChalkSlate" "stove" "[I", Cond.methodLink RX0 129 arraycopyName, Cond.native arraycopyName, Cond.static arraycopyName, Cond.initialized "java/lang/System", Cond.fieldLink RX0 49 "ChalkSlate" "dishes" "I", Cond.fieldLink RX0 138 "ChalkSlate" "falls" "I", Cond.methodLink RX0 126 yX0_wipeWhatIsNotDry, Cond.instanceMethod yX0_wipeWhatIsNotDry, Cond.selects RX0 yX0_wipeWhatIsNotDry yX0_wipeWhatIsNotDry, Cond.initialized RX0, Cond.code yX0_wipeWhatIsNotDry cX0_wipeWhatIsNotDry 2 none, Cond.fieldLink RX0 166 "ChalkSlate" "dryLines" "I", Cond.fieldLink RX0 112 "ChalkSlate" "lines" "I", Cond.fieldLink RX0 40 "ChalkSlate" "lineTakenBackBy" "[I", Cond.fieldLink RX0 19 "ChalkSlate" "dishState" "[I", Cond.methodLink RX0 102 yX0_at, Cond.static yX0_at, Cond.code yX0_at cX0_at 2 (some .int), Cond.methodLink RX0 141 yX0_isBelow, Cond.static yX0_isBelow, Cond.code yX0_isBelow cX0_isBelow 2 (some .boolean), Cond.methodLink RX0 66 yX0_put]
def wsX0_fall_r2 : List Cond := [Cond.static yX0_put, Cond.code yX0_put cX0_put 3 none, Cond.methodLink RX0 184 yX0_stateByLines, Cond.instanceMethod yX0_stateByLines, Cond.selects RX0 yX0_stateByLines yX0_stateByLines, Cond.code yX0_stateByLines cX0_stateByLines 5 (some .int), Cond.fieldLink RX0 22 "ChalkSlate" "lineDish" "[I", Cond.fieldLink RX0 25 "ChalkSlate" "lineKind" "[I", Cond.methodLink RX0 216 yX0_stateAfter, Cond.static yX0_stateAfter, Cond.code yX0_stateAfter cX0_stateAfter 2 (some .int), Cond.methodLink RX0 135 yX0_doAnew, Cond.instanceMethod yX0_doAnew, Cond.selects RX0 yX0_doAnew yX0_doAnew, Cond.code yX0_doAnew cX0_doAnew 3 (some .int), Cond.fieldLink RX0 28 "ChalkSlate" "linePot" "[I", Cond.fieldLink RX0 34 "ChalkSlate" "lineBehind" "[I", Cond.methodLink RX0 181 yX0_isToDoAnew, Cond.instanceMethod yX0_isToDoAnew, Cond.selects RX0 yX0_isToDoAnew yX0_isToDoAnew, Cond.code yX0_isToDoAnew cX0_isToDoAnew 3 (some .boolean), Cond.fieldLink RX0 16 "ChalkSlate" "stamp" "[I", Cond.methodLink RX0 91 yX0_isOpen, Cond.instanceMethod yX0_isOpen]
def wsX0_fall_r3 : List Cond := [Cond.selects RX0 yX0_isOpen yX0_isOpen, Cond.code yX0_isOpen cX0_isOpen 2 (some .boolean), Cond.methodLink RX0 118 yX0_undo, Cond.instanceMethod yX0_undo, Cond.selects RX0 yX0_undo yX0_undo, Cond.code yX0_undo cX0_undo 4 (some .int), Cond.methodLink RX0 219 yX0_isChangeNotTakenBack, Cond.instanceMethod yX0_isChangeNotTakenBack, Cond.selects RX0 yX0_isChangeNotTakenBack yX0_isChangeNotTakenBack, Cond.code yX0_isChangeNotTakenBack cX0_isChangeNotTakenBack 4 (some .boolean), Cond.methodLink RX0 223 yX0_takeBack, Cond.instanceMethod yX0_takeBack, Cond.selects RX0 yX0_takeBack yX0_takeBack, Cond.code yX0_takeBack cX0_takeBack 3 none, Cond.fieldLink RX0 31 "ChalkSlate" "lineAhead" "[I", Cond.fieldLink RX0 37 "ChalkSlate" "lineTakesBack" "[I", Cond.methodLink RX0 106 yX0_chalkSpoons, Cond.instanceMethod yX0_chalkSpoons, Cond.selects RX0 yX0_chalkSpoons yX0_chalkSpoons, Cond.code yX0_chalkSpoons cX0_chalkSpoons 6 none, Cond.methodLink RX0 70 yX0_chalk, Cond.instanceMethod yX0_chalk, Cond.selects RX0 yX0_chalk yX0_chalk, Cond.code yX0_chalk cX0_chalk 3 none]
def wsX0_fall : List Cond := .code yX0_fall cX0_fall 3 (some .int) :: ((wsX0_fall_r1 ++ (wsX0_fall_r2 ++ wsX0_fall_r3)) ++ wsX00)
def wsX0_potAnswer_r1 : List Cond := [Cond.fieldLink RX0 9 "ChalkSlate" "stove" "[I", Cond.fieldLink RX0 13 "ChalkSlate" "shelf" "[I", Cond.fieldLink RX0 16 "ChalkSlate" "stamp" "[I", Cond.methodLink RX0 102 yX0_at, Cond.static yX0_at, Cond.initialized RX0, Cond.code yX0_at cX0_at 2 (some .int), Cond.methodLink RX0 141 yX0_isBelow, Cond.static yX0_isBelow, Cond.code yX0_isBelow cX0_isBelow 2 (some .boolean), Cond.methodLink RX0 96 yX0_holderOf, Cond.instanceMethod yX0_holderOf, Cond.selects RX0 yX0_holderOf yX0_holderOf, Cond.code yX0_holderOf cX0_holderOf 4 (some .int), Cond.fieldLink RX0 112 "ChalkSlate" "lines" "I", Cond.fieldLink RX0 22 "ChalkSlate" "lineDish" "[I", Cond.fieldLink RX0 25 "ChalkSlate" "lineKind" "[I", Cond.fieldLink RX0 28 "ChalkSlate" "linePot" "[I", Cond.methodLink RX0 91 yX0_isOpen, Cond.instanceMethod yX0_isOpen, Cond.selects RX0 yX0_isOpen yX0_isOpen, Cond.code yX0_isOpen cX0_isOpen 2 (some .boolean), Cond.fieldLink RX0 19 "ChalkSlate" "dishState" "[I", Cond.methodLink RX0 123 yX0_latestLineOf]
def wsX0_potAnswer_r2 : List Cond := [Cond.instanceMethod yX0_latestLineOf, Cond.selects RX0 yX0_latestLineOf yX0_latestLineOf, Cond.code yX0_latestLineOf cX0_latestLineOf 3 (some .int)]
def wsX0_potAnswer : List Cond := .code yX0_potAnswer cX0_potAnswer 3 (some .int) :: ((wsX0_potAnswer_r1 ++ wsX0_potAnswer_r2) ++ wsX00)
def wsX0_pot_r1 : List Cond := [Cond.classLink RX0 81 "java/lang/IndexOutOfBoundsException", Cond.initialized "java/lang/IndexOutOfBoundsException", Cond.methodLink RX0 78 yX0_isPot, Cond.static yX0_isPot, Cond.initialized RX0, Cond.code yX0_isPot cX0_isPot 1 (some .boolean), Cond.methodLink RX0 141 yX0_isBelow, Cond.static yX0_isBelow, Cond.code yX0_isBelow cX0_isBelow 2 (some .boolean), Cond.methodLink RX0 147 yX0_potAnswer, Cond.instanceMethod yX0_potAnswer, Cond.selects RX0 yX0_potAnswer yX0_potAnswer, Cond.code yX0_potAnswer cX0_potAnswer 3 (some .int), Cond.fieldLink RX0 9 "ChalkSlate" "stove" "[I", Cond.fieldLink RX0 13 "ChalkSlate" "shelf" "[I", Cond.fieldLink RX0 16 "ChalkSlate" "stamp" "[I", Cond.methodLink RX0 102 yX0_at, Cond.static yX0_at, Cond.code yX0_at cX0_at 2 (some .int), Cond.methodLink RX0 96 yX0_holderOf, Cond.instanceMethod yX0_holderOf, Cond.selects RX0 yX0_holderOf yX0_holderOf, Cond.code yX0_holderOf cX0_holderOf 4 (some .int), Cond.fieldLink RX0 112 "ChalkSlate" "lines" "I"]
def wsX0_pot_r2 : List Cond := [Cond.fieldLink RX0 22 "ChalkSlate" "lineDish" "[I", Cond.fieldLink RX0 25 "ChalkSlate" "lineKind" "[I", Cond.fieldLink RX0 28 "ChalkSlate" "linePot" "[I", Cond.methodLink RX0 91 yX0_isOpen, Cond.instanceMethod yX0_isOpen, Cond.selects RX0 yX0_isOpen yX0_isOpen, Cond.code yX0_isOpen cX0_isOpen 2 (some .boolean), Cond.fieldLink RX0 19 "ChalkSlate" "dishState" "[I", Cond.methodLink RX0 123 yX0_latestLineOf, Cond.instanceMethod yX0_latestLineOf, Cond.selects RX0 yX0_latestLineOf yX0_latestLineOf, Cond.code yX0_latestLineOf cX0_latestLineOf 3 (some .int)]
def wsX0_pot : List Cond := .code yX0_pot cX0_pot 3 (some .int) :: ((wsX0_pot_r1 ++ wsX0_pot_r2) ++ wsX00 ++ (vx_atS RX0 85 "java/lang/IndexOutOfBoundsException" ["java/lang/RuntimeException", "java/lang/Exception"]).filter goodWord)
def wsX0_linesOf : List Cond := .code yX0_linesOf cX0_linesOf 4 (some .int) :: ([.fieldLink RX0 112 "ChalkSlate" "lines" "I", .fieldLink RX0 22 "ChalkSlate" "lineDish" "[I", .methodLink RX0 102 yX0_at, .static yX0_at, .initialized RX0, .code yX0_at cX0_at 2 (some .int), .methodLink RX0 141 yX0_isBelow, .static yX0_isBelow, .code yX0_isBelow cX0_isBelow 2 (some .boolean)] ++ wsX00)
def wsX0_potsHeldBy : List Cond := .code yX0_potsHeldBy cX0_potsHeldBy 4 (some .int) :: ([.methodLink RX0 96 yX0_holderOf, .instanceMethod yX0_holderOf, .selects RX0 yX0_holderOf yX0_holderOf, .initialized RX0, .code yX0_holderOf cX0_holderOf 4 (some .int), .fieldLink RX0 112 "ChalkSlate" "lines" "I", .fieldLink RX0 22 "ChalkSlate" "lineDish" "[I", .fieldLink RX0 25 "ChalkSlate" "lineKind" "[I", .fieldLink RX0 28 "ChalkSlate" "linePot" "[I", .methodLink RX0 102 yX0_at, .static yX0_at, .code yX0_at cX0_at 2 (some .int), .methodLink RX0 141 yX0_isBelow, .static yX0_isBelow, .code yX0_isBelow cX0_isBelow 2 (some .boolean), .methodLink RX0 91 yX0_isOpen, .instanceMethod yX0_isOpen, .selects RX0 yX0_isOpen yX0_isOpen, .code yX0_isOpen cX0_isOpen 2 (some .boolean), .fieldLink RX0 19 "ChalkSlate" "dishState" "[I"] ++ wsX00)
def wsX0_lastLineOf : List Cond := .code yX0_lastLineOf cX0_lastLineOf 3 (some .int) :: ([.fieldLink RX0 112 "ChalkSlate" "lines" "I", .fieldLink RX0 22 "ChalkSlate" "lineDish" "[I", .methodLink RX0 102 yX0_at, .static yX0_at, .initialized RX0, .code yX0_at cX0_at 2 (some .int), .methodLink RX0 141 yX0_isBelow, .static yX0_isBelow, .code yX0_isBelow cX0_isBelow 2 (some .boolean)] ++ wsX00)
def wsX0_dishAnswer_r1 : List Cond := [Cond.fieldLink RX0 19 "ChalkSlate" "dishState" "[I", Cond.fieldLink RX0 112 "ChalkSlate" "lines" "I", Cond.methodLink RX0 102 yX0_at, Cond.static yX0_at, Cond.initialized RX0, Cond.code yX0_at cX0_at 2 (some .int), Cond.methodLink RX0 141 yX0_isBelow, Cond.static yX0_isBelow, Cond.code yX0_isBelow cX0_isBelow 2 (some .boolean), Cond.methodLink RX0 201 yX0_linesOf, Cond.instanceMethod yX0_linesOf, Cond.selects RX0 yX0_linesOf yX0_linesOf, Cond.code yX0_linesOf cX0_linesOf 4 (some .int), Cond.fieldLink RX0 22 "ChalkSlate" "lineDish" "[I", Cond.methodLink RX0 204 yX0_changesNotTakenBack, Cond.instanceMethod yX0_changesNotTakenBack, Cond.selects RX0 yX0_changesNotTakenBack yX0_changesNotTakenBack, Cond.code yX0_changesNotTakenBack cX0_changesNotTakenBack 5 (some .int), Cond.methodLink RX0 219 yX0_isChangeNotTakenBack, Cond.instanceMethod yX0_isChangeNotTakenBack, Cond.selects RX0 yX0_isChangeNotTakenBack yX0_isChangeNotTakenBack, Cond.code yX0_isChangeNotTakenBack cX0_isChangeNotTakenBack 4 (some .boolean), Cond.fieldLink RX0 25 "ChalkSlate" "lineKind" "[I", Cond.fieldLink RX0 40 "ChalkSlate" "lineTakenBackBy" "[I"]
def wsX0_dishAnswer_r2 : List Cond := [Cond.methodLink RX0 207 yX0_potsHeldBy, Cond.instanceMethod yX0_potsHeldBy, Cond.selects RX0 yX0_potsHeldBy yX0_potsHeldBy, Cond.code yX0_potsHeldBy cX0_potsHeldBy 4 (some .int), Cond.methodLink RX0 96 yX0_holderOf, Cond.instanceMethod yX0_holderOf, Cond.selects RX0 yX0_holderOf yX0_holderOf, Cond.code yX0_holderOf cX0_holderOf 4 (some .int), Cond.fieldLink RX0 28 "ChalkSlate" "linePot" "[I", Cond.methodLink RX0 91 yX0_isOpen, Cond.instanceMethod yX0_isOpen, Cond.selects RX0 yX0_isOpen yX0_isOpen, Cond.code yX0_isOpen cX0_isOpen 2 (some .boolean), Cond.methodLink RX0 210 yX0_lastLineOf, Cond.instanceMethod yX0_lastLineOf, Cond.selects RX0 yX0_lastLineOf yX0_lastLineOf, Cond.code yX0_lastLineOf cX0_lastLineOf 3 (some .int)]
def wsX0_dishAnswer : List Cond := .code yX0_dishAnswer cX0_dishAnswer 3 (some .int) :: ((wsX0_dishAnswer_r1 ++ wsX0_dishAnswer_r2) ++ wsX00)
def wsX0_dish_r1 : List Cond := [Cond.classLink RX0 81 "java/lang/IndexOutOfBoundsException", Cond.initialized "java/lang/IndexOutOfBoundsException", Cond.methodLink RX0 74 yX0_isDish, Cond.instanceMethod yX0_isDish, Cond.selects RX0 yX0_isDish yX0_isDish, Cond.initialized RX0, Cond.code yX0_isDish cX0_isDish 2 (some .boolean), Cond.fieldLink RX0 49 "ChalkSlate" "dishes" "I", Cond.methodLink RX0 141 yX0_isBelow, Cond.static yX0_isBelow, Cond.code yX0_isBelow cX0_isBelow 2 (some .boolean), Cond.methodLink RX0 153 yX0_dishAnswer, Cond.instanceMethod yX0_dishAnswer, Cond.selects RX0 yX0_dishAnswer yX0_dishAnswer, Cond.code yX0_dishAnswer cX0_dishAnswer 3 (some .int), Cond.fieldLink RX0 19 "ChalkSlate" "dishState" "[I", Cond.fieldLink RX0 112 "ChalkSlate" "lines" "I", Cond.methodLink RX0 102 yX0_at, Cond.static yX0_at, Cond.code yX0_at cX0_at 2 (some .int), Cond.methodLink RX0 201 yX0_linesOf, Cond.instanceMethod yX0_linesOf, Cond.selects RX0 yX0_linesOf yX0_linesOf, Cond.code yX0_linesOf cX0_linesOf 4 (some .int)]
def wsX0_dish_r2 : List Cond := [Cond.fieldLink RX0 22 "ChalkSlate" "lineDish" "[I", Cond.methodLink RX0 204 yX0_changesNotTakenBack, Cond.instanceMethod yX0_changesNotTakenBack, Cond.selects RX0 yX0_changesNotTakenBack yX0_changesNotTakenBack, Cond.code yX0_changesNotTakenBack cX0_changesNotTakenBack 5 (some .int), Cond.methodLink RX0 219 yX0_isChangeNotTakenBack, Cond.instanceMethod yX0_isChangeNotTakenBack, Cond.selects RX0 yX0_isChangeNotTakenBack yX0_isChangeNotTakenBack, Cond.code yX0_isChangeNotTakenBack cX0_isChangeNotTakenBack 4 (some .boolean), Cond.fieldLink RX0 25 "ChalkSlate" "lineKind" "[I", Cond.fieldLink RX0 40 "ChalkSlate" "lineTakenBackBy" "[I", Cond.methodLink RX0 207 yX0_potsHeldBy, Cond.instanceMethod yX0_potsHeldBy, Cond.selects RX0 yX0_potsHeldBy yX0_potsHeldBy, Cond.code yX0_potsHeldBy cX0_potsHeldBy 4 (some .int), Cond.methodLink RX0 96 yX0_holderOf, Cond.instanceMethod yX0_holderOf, Cond.selects RX0 yX0_holderOf yX0_holderOf, Cond.code yX0_holderOf cX0_holderOf 4 (some .int), Cond.fieldLink RX0 28 "ChalkSlate" "linePot" "[I", Cond.methodLink RX0 91 yX0_isOpen, Cond.instanceMethod yX0_isOpen, Cond.selects RX0 yX0_isOpen yX0_isOpen, Cond.code yX0_isOpen cX0_isOpen 2 (some .boolean)]
def wsX0_dish_r3 : List Cond := [Cond.methodLink RX0 210 yX0_lastLineOf, Cond.instanceMethod yX0_lastLineOf, Cond.selects RX0 yX0_lastLineOf yX0_lastLineOf, Cond.code yX0_lastLineOf cX0_lastLineOf 3 (some .int)]
def wsX0_dish : List Cond := .code yX0_dish cX0_dish 3 (some .int) :: ((wsX0_dish_r1 ++ (wsX0_dish_r2 ++ wsX0_dish_r3)) ++ wsX00 ++ (vx_atS RX0 85 "java/lang/IndexOutOfBoundsException" ["java/lang/RuntimeException", "java/lang/Exception"]).filter goodWord)
def wsX0_lineAnswer : List Cond := .code yX0_lineAnswer cX0_lineAnswer 3 (some .int) :: ([.fieldLink RX0 22 "ChalkSlate" "lineDish" "[I", .fieldLink RX0 25 "ChalkSlate" "lineKind" "[I", .fieldLink RX0 28 "ChalkSlate" "linePot" "[I", .fieldLink RX0 31 "ChalkSlate" "lineAhead" "[I", .fieldLink RX0 34 "ChalkSlate" "lineBehind" "[I", .fieldLink RX0 37 "ChalkSlate" "lineTakesBack" "[I", .fieldLink RX0 166 "ChalkSlate" "dryLines" "I", .methodLink RX0 102 yX0_at, .static yX0_at, .initialized RX0, .code yX0_at cX0_at 2 (some .int), .methodLink RX0 141 yX0_isBelow, .static yX0_isBelow, .code yX0_isBelow cX0_isBelow 2 (some .boolean)] ++ wsX00)
def wsX0_line : List Cond := .code yX0_line cX0_line 3 (some .int) :: ([.classLink RX0 81 "java/lang/IndexOutOfBoundsException", .initialized "java/lang/IndexOutOfBoundsException", .fieldLink RX0 112 "ChalkSlate" "lines" "I", .methodLink RX0 141 yX0_isBelow, .static yX0_isBelow, .initialized RX0, .code yX0_isBelow cX0_isBelow 2 (some .boolean), .methodLink RX0 158 yX0_lineAnswer, .instanceMethod yX0_lineAnswer, .selects RX0 yX0_lineAnswer yX0_lineAnswer, .code yX0_lineAnswer cX0_lineAnswer 3 (some .int), .fieldLink RX0 22 "ChalkSlate" "lineDish" "[I", .fieldLink RX0 25 "ChalkSlate" "lineKind" "[I", .fieldLink RX0 28 "ChalkSlate" "linePot" "[I", .fieldLink RX0 31 "ChalkSlate" "lineAhead" "[I", .fieldLink RX0 34 "ChalkSlate" "lineBehind" "[I", .fieldLink RX0 37 "ChalkSlate" "lineTakesBack" "[I", .fieldLink RX0 166 "ChalkSlate" "dryLines" "I", .methodLink RX0 102 yX0_at, .static yX0_at, .code yX0_at cX0_at 2 (some .int)] ++ wsX00 ++ (vx_atS RX0 85 "java/lang/IndexOutOfBoundsException" ["java/lang/RuntimeException", "java/lang/Exception"]).filter goodWord)
def wsX0_dishesThatAre : List Cond := .code yX0_dishesThatAre cX0_dishesThatAre 4 (some .int) :: ([.fieldLink RX0 49 "ChalkSlate" "dishes" "I", .fieldLink RX0 19 "ChalkSlate" "dishState" "[I", .methodLink RX0 102 yX0_at, .static yX0_at, .initialized RX0, .code yX0_at cX0_at 2 (some .int), .methodLink RX0 141 yX0_isBelow, .static yX0_isBelow, .code yX0_isBelow cX0_isBelow 2 (some .boolean)] ++ wsX00)
def wsX0_sumOf : List Cond := .code yX0_sumOf cX0_sumOf 3 (some .int) :: ([])
def wsX0_countAnswer_r1 : List Cond := [Cond.fieldLink RX0 112 "ChalkSlate" "lines" "I", Cond.fieldLink RX0 166 "ChalkSlate" "dryLines" "I", Cond.fieldLink RX0 49 "ChalkSlate" "dishes" "I", Cond.fieldLink RX0 9 "ChalkSlate" "stove" "[I", Cond.fieldLink RX0 13 "ChalkSlate" "shelf" "[I", Cond.fieldLink RX0 138 "ChalkSlate" "falls" "I", Cond.methodLink RX0 213 yX0_dishesThatAre, Cond.instanceMethod yX0_dishesThatAre, Cond.selects RX0 yX0_dishesThatAre yX0_dishesThatAre, Cond.initialized RX0, Cond.code yX0_dishesThatAre cX0_dishesThatAre 4 (some .int), Cond.fieldLink RX0 19 "ChalkSlate" "dishState" "[I", Cond.methodLink RX0 102 yX0_at, Cond.static yX0_at, Cond.code yX0_at cX0_at 2 (some .int), Cond.methodLink RX0 141 yX0_isBelow, Cond.static yX0_isBelow, Cond.code yX0_isBelow cX0_isBelow 2 (some .boolean), Cond.methodLink RX0 60 yX0_roomLeft, Cond.instanceMethod yX0_roomLeft, Cond.selects RX0 yX0_roomLeft yX0_roomLeft, Cond.code yX0_roomLeft cX0_roomLeft 3 (some .int), Cond.methodLink RX0 91 yX0_isOpen, Cond.instanceMethod yX0_isOpen]
def wsX0_countAnswer_r2 : List Cond := [Cond.selects RX0 yX0_isOpen yX0_isOpen, Cond.code yX0_isOpen cX0_isOpen 2 (some .boolean), Cond.methodLink RX0 204 yX0_changesNotTakenBack, Cond.instanceMethod yX0_changesNotTakenBack, Cond.selects RX0 yX0_changesNotTakenBack yX0_changesNotTakenBack, Cond.code yX0_changesNotTakenBack cX0_changesNotTakenBack 5 (some .int), Cond.methodLink RX0 219 yX0_isChangeNotTakenBack, Cond.instanceMethod yX0_isChangeNotTakenBack, Cond.selects RX0 yX0_isChangeNotTakenBack yX0_isChangeNotTakenBack, Cond.code yX0_isChangeNotTakenBack cX0_isChangeNotTakenBack 4 (some .boolean), Cond.fieldLink RX0 22 "ChalkSlate" "lineDish" "[I", Cond.fieldLink RX0 25 "ChalkSlate" "lineKind" "[I", Cond.fieldLink RX0 40 "ChalkSlate" "lineTakenBackBy" "[I", Cond.methodLink RX0 191 yX0_sumOf, Cond.static yX0_sumOf, Cond.code yX0_sumOf cX0_sumOf 3 (some .int)]
def wsX0_countAnswer : List Cond := .code yX0_countAnswer cX0_countAnswer 2 (some .int) :: ((wsX0_countAnswer_r1 ++ wsX0_countAnswer_r2) ++ wsX00)
def wsX0_count_r1 : List Cond := [Cond.classLink RX0 81 "java/lang/IndexOutOfBoundsException", Cond.initialized "java/lang/IndexOutOfBoundsException", Cond.methodLink RX0 141 yX0_isBelow, Cond.static yX0_isBelow, Cond.initialized RX0, Cond.code yX0_isBelow cX0_isBelow 2 (some .boolean), Cond.methodLink RX0 163 yX0_countAnswer, Cond.instanceMethod yX0_countAnswer, Cond.selects RX0 yX0_countAnswer yX0_countAnswer, Cond.code yX0_countAnswer cX0_countAnswer 2 (some .int), Cond.fieldLink RX0 112 "ChalkSlate" "lines" "I", Cond.fieldLink RX0 166 "ChalkSlate" "dryLines" "I", Cond.fieldLink RX0 49 "ChalkSlate" "dishes" "I", Cond.fieldLink RX0 9 "ChalkSlate" "stove" "[I", Cond.fieldLink RX0 13 "ChalkSlate" "shelf" "[I", Cond.fieldLink RX0 138 "ChalkSlate" "falls" "I", Cond.methodLink RX0 213 yX0_dishesThatAre, Cond.instanceMethod yX0_dishesThatAre, Cond.selects RX0 yX0_dishesThatAre yX0_dishesThatAre, Cond.code yX0_dishesThatAre cX0_dishesThatAre 4 (some .int), Cond.fieldLink RX0 19 "ChalkSlate" "dishState" "[I", Cond.methodLink RX0 102 yX0_at, Cond.static yX0_at, Cond.code yX0_at cX0_at 2 (some .int)]
def wsX0_count_r2 : List Cond := [Cond.methodLink RX0 60 yX0_roomLeft, Cond.instanceMethod yX0_roomLeft, Cond.selects RX0 yX0_roomLeft yX0_roomLeft, Cond.code yX0_roomLeft cX0_roomLeft 3 (some .int), Cond.methodLink RX0 91 yX0_isOpen, Cond.instanceMethod yX0_isOpen, Cond.selects RX0 yX0_isOpen yX0_isOpen, Cond.code yX0_isOpen cX0_isOpen 2 (some .boolean), Cond.methodLink RX0 204 yX0_changesNotTakenBack, Cond.instanceMethod yX0_changesNotTakenBack, Cond.selects RX0 yX0_changesNotTakenBack yX0_changesNotTakenBack, Cond.code yX0_changesNotTakenBack cX0_changesNotTakenBack 5 (some .int), Cond.methodLink RX0 219 yX0_isChangeNotTakenBack, Cond.instanceMethod yX0_isChangeNotTakenBack, Cond.selects RX0 yX0_isChangeNotTakenBack yX0_isChangeNotTakenBack, Cond.code yX0_isChangeNotTakenBack cX0_isChangeNotTakenBack 4 (some .boolean), Cond.fieldLink RX0 22 "ChalkSlate" "lineDish" "[I", Cond.fieldLink RX0 25 "ChalkSlate" "lineKind" "[I", Cond.fieldLink RX0 40 "ChalkSlate" "lineTakenBackBy" "[I", Cond.methodLink RX0 191 yX0_sumOf, Cond.static yX0_sumOf, Cond.code yX0_sumOf cX0_sumOf 3 (some .int)]
def wsX0_count : List Cond := .code yX0_count cX0_count 2 (some .int) :: ((wsX0_count_r1 ++ wsX0_count_r2) ++ wsX00 ++ (vx_atS RX0 85 "java/lang/IndexOutOfBoundsException" ["java/lang/RuntimeException", "java/lang/Exception"]).filter goodWord)
def wsX0_linesToDoAnew : List Cond := .code yX0_linesToDoAnew cX0_linesToDoAnew 3 (some .int) :: ([.fieldLink RX0 166 "ChalkSlate" "dryLines" "I", .methodLink RX0 181 yX0_isToDoAnew, .instanceMethod yX0_isToDoAnew, .selects RX0 yX0_isToDoAnew yX0_isToDoAnew, .initialized RX0, .code yX0_isToDoAnew cX0_isToDoAnew 3 (some .boolean), .fieldLink RX0 28 "ChalkSlate" "linePot" "[I", .fieldLink RX0 16 "ChalkSlate" "stamp" "[I", .methodLink RX0 102 yX0_at, .static yX0_at, .code yX0_at cX0_at 2 (some .int), .methodLink RX0 141 yX0_isBelow, .static yX0_isBelow, .code yX0_isBelow cX0_isBelow 2 (some .boolean)] ++ wsX00)
def wsX0_linesToTakeBack_r1 : List Cond := [Cond.fieldLink RX0 49 "ChalkSlate" "dishes" "I", Cond.fieldLink RX0 166 "ChalkSlate" "dryLines" "I", Cond.methodLink RX0 184 yX0_stateByLines, Cond.instanceMethod yX0_stateByLines, Cond.selects RX0 yX0_stateByLines yX0_stateByLines, Cond.initialized RX0, Cond.code yX0_stateByLines cX0_stateByLines 5 (some .int), Cond.fieldLink RX0 22 "ChalkSlate" "lineDish" "[I", Cond.fieldLink RX0 25 "ChalkSlate" "lineKind" "[I", Cond.methodLink RX0 102 yX0_at, Cond.static yX0_at, Cond.code yX0_at cX0_at 2 (some .int), Cond.methodLink RX0 141 yX0_isBelow, Cond.static yX0_isBelow, Cond.code yX0_isBelow cX0_isBelow 2 (some .boolean), Cond.methodLink RX0 216 yX0_stateAfter, Cond.static yX0_stateAfter, Cond.code yX0_stateAfter cX0_stateAfter 2 (some .int), Cond.methodLink RX0 204 yX0_changesNotTakenBack, Cond.instanceMethod yX0_changesNotTakenBack, Cond.selects RX0 yX0_changesNotTakenBack yX0_changesNotTakenBack, Cond.code yX0_changesNotTakenBack cX0_changesNotTakenBack 5 (some .int), Cond.methodLink RX0 219 yX0_isChangeNotTakenBack, Cond.instanceMethod yX0_isChangeNotTakenBack]
def wsX0_linesToTakeBack_r2 : List Cond := [Cond.selects RX0 yX0_isChangeNotTakenBack yX0_isChangeNotTakenBack, Cond.code yX0_isChangeNotTakenBack cX0_isChangeNotTakenBack 4 (some .boolean), Cond.fieldLink RX0 40 "ChalkSlate" "lineTakenBackBy" "[I"]
def wsX0_linesToTakeBack : List Cond := .code yX0_linesToTakeBack cX0_linesToTakeBack 3 (some .int) :: ((wsX0_linesToTakeBack_r1 ++ wsX0_linesToTakeBack_r2) ++ wsX00)
def wsX0_firstLineToDoAnew : List Cond := .code yX0_firstLineToDoAnew cX0_firstLineToDoAnew 2 (some .int) :: ([.fieldLink RX0 166 "ChalkSlate" "dryLines" "I", .methodLink RX0 181 yX0_isToDoAnew, .instanceMethod yX0_isToDoAnew, .selects RX0 yX0_isToDoAnew yX0_isToDoAnew, .initialized RX0, .code yX0_isToDoAnew cX0_isToDoAnew 3 (some .boolean), .fieldLink RX0 28 "ChalkSlate" "linePot" "[I", .fieldLink RX0 16 "ChalkSlate" "stamp" "[I", .methodLink RX0 102 yX0_at, .static yX0_at, .code yX0_at cX0_at 2 (some .int), .methodLink RX0 141 yX0_isBelow, .static yX0_isBelow, .code yX0_isBelow cX0_isBelow 2 (some .boolean)] ++ wsX00)
def wsX0_dishesToForget : List Cond := .code yX0_dishesToForget cX0_dishesToForget 4 (some .int) :: ([.fieldLink RX0 49 "ChalkSlate" "dishes" "I", .fieldLink RX0 19 "ChalkSlate" "dishState" "[I", .fieldLink RX0 166 "ChalkSlate" "dryLines" "I", .methodLink RX0 102 yX0_at, .static yX0_at, .initialized RX0, .code yX0_at cX0_at 2 (some .int), .methodLink RX0 141 yX0_isBelow, .static yX0_isBelow, .code yX0_isBelow cX0_isBelow 2 (some .boolean), .methodLink RX0 184 yX0_stateByLines, .instanceMethod yX0_stateByLines, .selects RX0 yX0_stateByLines yX0_stateByLines, .code yX0_stateByLines cX0_stateByLines 5 (some .int), .fieldLink RX0 22 "ChalkSlate" "lineDish" "[I", .fieldLink RX0 25 "ChalkSlate" "lineKind" "[I", .methodLink RX0 216 yX0_stateAfter, .static yX0_stateAfter, .code yX0_stateAfter cX0_stateAfter 2 (some .int)] ++ wsX00)
def wsX0_would_r1 : List Cond := [Cond.classLink RX0 81 "java/lang/IndexOutOfBoundsException", Cond.initialized "java/lang/IndexOutOfBoundsException", Cond.fieldLink RX0 112 "ChalkSlate" "lines" "I", Cond.fieldLink RX0 166 "ChalkSlate" "dryLines" "I", Cond.methodLink RX0 141 yX0_isBelow, Cond.static yX0_isBelow, Cond.initialized RX0, Cond.code yX0_isBelow cX0_isBelow 2 (some .boolean), Cond.methodLink RX0 169 yX0_linesToDoAnew, Cond.instanceMethod yX0_linesToDoAnew, Cond.selects RX0 yX0_linesToDoAnew yX0_linesToDoAnew, Cond.code yX0_linesToDoAnew cX0_linesToDoAnew 3 (some .int), Cond.methodLink RX0 181 yX0_isToDoAnew, Cond.instanceMethod yX0_isToDoAnew, Cond.selects RX0 yX0_isToDoAnew yX0_isToDoAnew, Cond.code yX0_isToDoAnew cX0_isToDoAnew 3 (some .boolean), Cond.fieldLink RX0 28 "ChalkSlate" "linePot" "[I", Cond.fieldLink RX0 16 "ChalkSlate" "stamp" "[I", Cond.methodLink RX0 102 yX0_at, Cond.static yX0_at, Cond.code yX0_at cX0_at 2 (some .int), Cond.methodLink RX0 172 yX0_linesToTakeBack, Cond.instanceMethod yX0_linesToTakeBack, Cond.selects RX0 yX0_linesToTakeBack yX0_linesToTakeBack]
def wsX0_would_r2 : List Cond := [Cond.code yX0_linesToTakeBack cX0_linesToTakeBack 3 (some .int), Cond.fieldLink RX0 49 "ChalkSlate" "dishes" "I", Cond.methodLink RX0 184 yX0_stateByLines, Cond.instanceMethod yX0_stateByLines, Cond.selects RX0 yX0_stateByLines yX0_stateByLines, Cond.code yX0_stateByLines cX0_stateByLines 5 (some .int), Cond.fieldLink RX0 22 "ChalkSlate" "lineDish" "[I", Cond.fieldLink RX0 25 "ChalkSlate" "lineKind" "[I", Cond.methodLink RX0 216 yX0_stateAfter, Cond.static yX0_stateAfter, Cond.code yX0_stateAfter cX0_stateAfter 2 (some .int), Cond.methodLink RX0 204 yX0_changesNotTakenBack, Cond.instanceMethod yX0_changesNotTakenBack, Cond.selects RX0 yX0_changesNotTakenBack yX0_changesNotTakenBack, Cond.code yX0_changesNotTakenBack cX0_changesNotTakenBack 5 (some .int), Cond.methodLink RX0 219 yX0_isChangeNotTakenBack, Cond.instanceMethod yX0_isChangeNotTakenBack, Cond.selects RX0 yX0_isChangeNotTakenBack yX0_isChangeNotTakenBack, Cond.code yX0_isChangeNotTakenBack cX0_isChangeNotTakenBack 4 (some .boolean), Cond.fieldLink RX0 40 "ChalkSlate" "lineTakenBackBy" "[I", Cond.methodLink RX0 175 yX0_firstLineToDoAnew, Cond.instanceMethod yX0_firstLineToDoAnew, Cond.selects RX0 yX0_firstLineToDoAnew yX0_firstLineToDoAnew, Cond.code yX0_firstLineToDoAnew cX0_firstLineToDoAnew 2 (some .int)]
def wsX0_would_r3 : List Cond := [Cond.methodLink RX0 178 yX0_dishesToForget, Cond.instanceMethod yX0_dishesToForget, Cond.selects RX0 yX0_dishesToForget yX0_dishesToForget, Cond.code yX0_dishesToForget cX0_dishesToForget 4 (some .int), Cond.fieldLink RX0 19 "ChalkSlate" "dishState" "[I"]
def wsX0_would : List Cond := .code yX0_would cX0_would 2 (some .int) :: ((wsX0_would_r1 ++ (wsX0_would_r2 ++ wsX0_would_r3)) ++ wsX00 ++ (vx_atS RX0 85 "java/lang/IndexOutOfBoundsException" ["java/lang/RuntimeException", "java/lang/Exception"]).filter goodWord)
def wsX0_spoonsAfterUndoing : List Cond := .code yX0_spoonsAfterUndoing cX0_spoonsAfterUndoing 6 (some .int) :: ([.fieldLink RX0 166 "ChalkSlate" "dryLines" "I", .fieldLink RX0 28 "ChalkSlate" "linePot" "[I", .fieldLink RX0 31 "ChalkSlate" "lineAhead" "[I", .methodLink RX0 102 yX0_at, .static yX0_at, .initialized RX0, .code yX0_at cX0_at 2 (some .int), .methodLink RX0 141 yX0_isBelow, .static yX0_isBelow, .code yX0_isBelow cX0_isBelow 2 (some .boolean), .methodLink RX0 219 yX0_isChangeNotTakenBack, .instanceMethod yX0_isChangeNotTakenBack, .selects RX0 yX0_isChangeNotTakenBack yX0_isChangeNotTakenBack, .code yX0_isChangeNotTakenBack cX0_isChangeNotTakenBack 4 (some .boolean), .fieldLink RX0 22 "ChalkSlate" "lineDish" "[I", .fieldLink RX0 25 "ChalkSlate" "lineKind" "[I", .fieldLink RX0 40 "ChalkSlate" "lineTakenBackBy" "[I"] ++ wsX00)
def wsX0_left_r1 : List Cond := [Cond.classLink RX0 81 "java/lang/IndexOutOfBoundsException", Cond.initialized "java/lang/IndexOutOfBoundsException", Cond.fieldLink RX0 13 "ChalkSlate" "shelf" "[I", Cond.fieldLink RX0 166 "ChalkSlate" "dryLines" "I", Cond.fieldLink RX0 28 "ChalkSlate" "linePot" "[I", Cond.fieldLink RX0 34 "ChalkSlate" "lineBehind" "[I", Cond.fieldLink RX0 49 "ChalkSlate" "dishes" "I", Cond.methodLink RX0 78 yX0_isPot, Cond.static yX0_isPot, Cond.initialized RX0, Cond.code yX0_isPot cX0_isPot 1 (some .boolean), Cond.methodLink RX0 141 yX0_isBelow, Cond.static yX0_isBelow, Cond.code yX0_isBelow cX0_isBelow 2 (some .boolean), Cond.methodLink RX0 102 yX0_at, Cond.static yX0_at, Cond.code yX0_at cX0_at 2 (some .int), Cond.methodLink RX0 181 yX0_isToDoAnew, Cond.instanceMethod yX0_isToDoAnew, Cond.selects RX0 yX0_isToDoAnew yX0_isToDoAnew, Cond.code yX0_isToDoAnew cX0_isToDoAnew 3 (some .boolean), Cond.fieldLink RX0 16 "ChalkSlate" "stamp" "[I", Cond.methodLink RX0 184 yX0_stateByLines, Cond.instanceMethod yX0_stateByLines]
def wsX0_left_r2 : List Cond := [Cond.selects RX0 yX0_stateByLines yX0_stateByLines, Cond.code yX0_stateByLines cX0_stateByLines 5 (some .int), Cond.fieldLink RX0 22 "ChalkSlate" "lineDish" "[I", Cond.fieldLink RX0 25 "ChalkSlate" "lineKind" "[I", Cond.methodLink RX0 216 yX0_stateAfter, Cond.static yX0_stateAfter, Cond.code yX0_stateAfter cX0_stateAfter 2 (some .int), Cond.methodLink RX0 187 yX0_spoonsAfterUndoing, Cond.instanceMethod yX0_spoonsAfterUndoing, Cond.selects RX0 yX0_spoonsAfterUndoing yX0_spoonsAfterUndoing, Cond.code yX0_spoonsAfterUndoing cX0_spoonsAfterUndoing 6 (some .int), Cond.fieldLink RX0 31 "ChalkSlate" "lineAhead" "[I", Cond.methodLink RX0 219 yX0_isChangeNotTakenBack, Cond.instanceMethod yX0_isChangeNotTakenBack, Cond.selects RX0 yX0_isChangeNotTakenBack yX0_isChangeNotTakenBack, Cond.code yX0_isChangeNotTakenBack cX0_isChangeNotTakenBack 4 (some .boolean), Cond.fieldLink RX0 40 "ChalkSlate" "lineTakenBackBy" "[I"]
def wsX0_left : List Cond := .code yX0_left cX0_left 4 (some .int) :: ((wsX0_left_r1 ++ wsX0_left_r2) ++ wsX00 ++ (vx_atS RX0 85 "java/lang/IndexOutOfBoundsException" ["java/lang/RuntimeException", "java/lang/Exception"]).filter goodWord)
def wsX0_mean : List Cond := .code yX0_mean cX0_mean 1 (some .double) :: ([.fieldLink RX0 9 "ChalkSlate" "stove" "[I", .constantDouble RX0 195 (4620693217682128896), .methodLink RX0 191 yX0_sumOf, .static yX0_sumOf, .initialized RX0, .code yX0_sumOf cX0_sumOf 3 (some .int)] ++ wsX00)
def wsX0_digest_r1 : List Cond := [Cond.constantLong RX0 197 (1291), Cond.constantLong RX0 199 (31), Cond.fieldLink RX0 49 "ChalkSlate" "dishes" "I", Cond.fieldLink RX0 112 "ChalkSlate" "lines" "I", Cond.methodLink RX0 163 yX0_countAnswer, Cond.instanceMethod yX0_countAnswer, Cond.selects RX0 yX0_countAnswer yX0_countAnswer, Cond.initialized RX0, Cond.code yX0_countAnswer cX0_countAnswer 2 (some .int), Cond.fieldLink RX0 166 "ChalkSlate" "dryLines" "I", Cond.fieldLink RX0 9 "ChalkSlate" "stove" "[I", Cond.fieldLink RX0 13 "ChalkSlate" "shelf" "[I", Cond.fieldLink RX0 138 "ChalkSlate" "falls" "I", Cond.methodLink RX0 213 yX0_dishesThatAre, Cond.instanceMethod yX0_dishesThatAre, Cond.selects RX0 yX0_dishesThatAre yX0_dishesThatAre, Cond.code yX0_dishesThatAre cX0_dishesThatAre 4 (some .int), Cond.fieldLink RX0 19 "ChalkSlate" "dishState" "[I", Cond.methodLink RX0 102 yX0_at, Cond.static yX0_at, Cond.code yX0_at cX0_at 2 (some .int), Cond.methodLink RX0 141 yX0_isBelow, Cond.static yX0_isBelow, Cond.code yX0_isBelow cX0_isBelow 2 (some .boolean)]
def wsX0_digest_r2 : List Cond := [Cond.methodLink RX0 60 yX0_roomLeft, Cond.instanceMethod yX0_roomLeft, Cond.selects RX0 yX0_roomLeft yX0_roomLeft, Cond.code yX0_roomLeft cX0_roomLeft 3 (some .int), Cond.methodLink RX0 91 yX0_isOpen, Cond.instanceMethod yX0_isOpen, Cond.selects RX0 yX0_isOpen yX0_isOpen, Cond.code yX0_isOpen cX0_isOpen 2 (some .boolean), Cond.methodLink RX0 204 yX0_changesNotTakenBack, Cond.instanceMethod yX0_changesNotTakenBack, Cond.selects RX0 yX0_changesNotTakenBack yX0_changesNotTakenBack, Cond.code yX0_changesNotTakenBack cX0_changesNotTakenBack 5 (some .int), Cond.methodLink RX0 219 yX0_isChangeNotTakenBack, Cond.instanceMethod yX0_isChangeNotTakenBack, Cond.selects RX0 yX0_isChangeNotTakenBack yX0_isChangeNotTakenBack, Cond.code yX0_isChangeNotTakenBack cX0_isChangeNotTakenBack 4 (some .boolean), Cond.fieldLink RX0 22 "ChalkSlate" "lineDish" "[I", Cond.fieldLink RX0 25 "ChalkSlate" "lineKind" "[I", Cond.fieldLink RX0 40 "ChalkSlate" "lineTakenBackBy" "[I", Cond.methodLink RX0 191 yX0_sumOf, Cond.static yX0_sumOf, Cond.code yX0_sumOf cX0_sumOf 3 (some .int), Cond.methodLink RX0 147 yX0_potAnswer, Cond.instanceMethod yX0_potAnswer]
def wsX0_digest_r3 : List Cond := [Cond.selects RX0 yX0_potAnswer yX0_potAnswer, Cond.code yX0_potAnswer cX0_potAnswer 3 (some .int), Cond.fieldLink RX0 16 "ChalkSlate" "stamp" "[I", Cond.methodLink RX0 96 yX0_holderOf, Cond.instanceMethod yX0_holderOf, Cond.selects RX0 yX0_holderOf yX0_holderOf, Cond.code yX0_holderOf cX0_holderOf 4 (some .int), Cond.fieldLink RX0 28 "ChalkSlate" "linePot" "[I", Cond.methodLink RX0 123 yX0_latestLineOf, Cond.instanceMethod yX0_latestLineOf, Cond.selects RX0 yX0_latestLineOf yX0_latestLineOf, Cond.code yX0_latestLineOf cX0_latestLineOf 3 (some .int), Cond.methodLink RX0 153 yX0_dishAnswer, Cond.instanceMethod yX0_dishAnswer, Cond.selects RX0 yX0_dishAnswer yX0_dishAnswer, Cond.code yX0_dishAnswer cX0_dishAnswer 3 (some .int), Cond.methodLink RX0 201 yX0_linesOf, Cond.instanceMethod yX0_linesOf, Cond.selects RX0 yX0_linesOf yX0_linesOf, Cond.code yX0_linesOf cX0_linesOf 4 (some .int), Cond.methodLink RX0 207 yX0_potsHeldBy, Cond.instanceMethod yX0_potsHeldBy, Cond.selects RX0 yX0_potsHeldBy yX0_potsHeldBy, Cond.code yX0_potsHeldBy cX0_potsHeldBy 4 (some .int)]
def wsX0_digest_r4 : List Cond := [Cond.methodLink RX0 210 yX0_lastLineOf, Cond.instanceMethod yX0_lastLineOf, Cond.selects RX0 yX0_lastLineOf yX0_lastLineOf, Cond.code yX0_lastLineOf cX0_lastLineOf 3 (some .int), Cond.methodLink RX0 158 yX0_lineAnswer, Cond.instanceMethod yX0_lineAnswer, Cond.selects RX0 yX0_lineAnswer yX0_lineAnswer, Cond.code yX0_lineAnswer cX0_lineAnswer 3 (some .int), Cond.fieldLink RX0 31 "ChalkSlate" "lineAhead" "[I", Cond.fieldLink RX0 34 "ChalkSlate" "lineBehind" "[I", Cond.fieldLink RX0 37 "ChalkSlate" "lineTakesBack" "[I"]
def wsX0_digest : List Cond := .code yX0_digest cX0_digest 5 (some .long) :: ((wsX0_digest_r1 ++ (wsX0_digest_r2 ++ (wsX0_digest_r3 ++ wsX0_digest_r4))) ++ wsX00)
def wsX1_init : List Cond := .code yX1_init cX1_init 3 none :: ([.fieldLink RX1 3 "ChalkSlateModel$State" "this$0" "LChalkSlateModel;", .methodLink RX1 9 objectInit, .instanceMethod objectInit, .code objectInit ⟨#[0xb1]⟩ 1 none, .arrayClass .int, .fieldLink RX1 15 "ChalkSlateModel$State" "stove" "[I", .fieldLink RX1 19 "ChalkSlateModel$State" "shelf" "[I", .fieldLink RX1 22 "ChalkSlateModel$State" "stamp" "[I", .fieldLink RX1 25 "ChalkSlateModel$State" "dish" "[I", .fieldLink RX1 28 "ChalkSlateModel$State" "kind" "[I", .fieldLink RX1 31 "ChalkSlateModel$State" "pot" "[I", .fieldLink RX1 34 "ChalkSlateModel$State" "ahead" "[I", .fieldLink RX1 37 "ChalkSlateModel$State" "behind" "[I", .fieldLink RX1 40 "ChalkSlateModel$State" "takes" "[I"] ++ wsX10)
def wsX1_copy : List Cond := .code yX1_copy cX1_copy 3 none :: ([.methodLink RX1 43 arraycopyName, .native arraycopyName, .static arraycopyName, .initialized "java/lang/System"])
def wsX1_become : List Cond := .code yX1_become cX1_become 2 none :: ([.fieldLink RX1 49 "ChalkSlateModel$State" "lines" "I", .fieldLink RX1 53 "ChalkSlateModel$State" "dry" "I", .fieldLink RX1 15 "ChalkSlateModel$State" "stove" "[I", .fieldLink RX1 19 "ChalkSlateModel$State" "shelf" "[I", .fieldLink RX1 22 "ChalkSlateModel$State" "stamp" "[I", .fieldLink RX1 25 "ChalkSlateModel$State" "dish" "[I", .fieldLink RX1 28 "ChalkSlateModel$State" "kind" "[I", .fieldLink RX1 31 "ChalkSlateModel$State" "pot" "[I", .fieldLink RX1 34 "ChalkSlateModel$State" "ahead" "[I", .fieldLink RX1 37 "ChalkSlateModel$State" "behind" "[I", .fieldLink RX1 40 "ChalkSlateModel$State" "takes" "[I", .methodLink RX1 56 yX1_copy, .instanceMethod yX1_copy, .selects RX1 yX1_copy yX1_copy, .initialized RX1, .code yX1_copy cX1_copy 3 none, .methodLink RX1 43 arraycopyName, .native arraycopyName, .static arraycopyName, .initialized "java/lang/System"] ++ wsX10)
def wsX1_is : List Cond := .code yX1_is cX1_is 4 (some .int) :: ([.fieldLink RX1 49 "ChalkSlateModel$State" "lines" "I", .fieldLink RX1 25 "ChalkSlateModel$State" "dish" "[I", .fieldLink RX1 28 "ChalkSlateModel$State" "kind" "[I"] ++ wsX10)
def wsX1_isTakenBack : List Cond := .code yX1_isTakenBack cX1_isTakenBack 3 (some .boolean) :: ([.fieldLink RX1 49 "ChalkSlateModel$State" "lines" "I", .fieldLink RX1 28 "ChalkSlateModel$State" "kind" "[I", .fieldLink RX1 40 "ChalkSlateModel$State" "takes" "[I"] ++ wsX10)
def wsX1_isKept : List Cond := .code yX1_isKept cX1_isKept 3 (some .boolean) :: ([.fieldLink RX1 25 "ChalkSlateModel$State" "dish" "[I", .fieldLink RX1 28 "ChalkSlateModel$State" "kind" "[I", .methodLink RX1 60 yX1_isTakenBack, .instanceMethod yX1_isTakenBack, .selects RX1 yX1_isTakenBack yX1_isTakenBack, .initialized RX1, .code yX1_isTakenBack cX1_isTakenBack 3 (some .boolean), .fieldLink RX1 49 "ChalkSlateModel$State" "lines" "I", .fieldLink RX1 40 "ChalkSlateModel$State" "takes" "[I"] ++ wsX10)
def wsX1_kept : List Cond := .code yX1_kept cX1_kept 4 (some .int) :: ([.fieldLink RX1 49 "ChalkSlateModel$State" "lines" "I", .methodLink RX1 64 yX1_isKept, .instanceMethod yX1_isKept, .selects RX1 yX1_isKept yX1_isKept, .initialized RX1, .code yX1_isKept cX1_isKept 3 (some .boolean), .fieldLink RX1 25 "ChalkSlateModel$State" "dish" "[I", .fieldLink RX1 28 "ChalkSlateModel$State" "kind" "[I", .methodLink RX1 60 yX1_isTakenBack, .instanceMethod yX1_isTakenBack, .selects RX1 yX1_isTakenBack yX1_isTakenBack, .code yX1_isTakenBack cX1_isTakenBack 3 (some .boolean), .fieldLink RX1 40 "ChalkSlateModel$State" "takes" "[I"] ++ wsX10)
def wsX1_room : List Cond := .code yX1_room cX1_room 3 (some .int) :: ([.fieldLink RX1 49 "ChalkSlateModel$State" "lines" "I", .fieldLink RX1 3 "ChalkSlateModel$State" "this$0" "LChalkSlateModel;", .methodLink RX1 71 yX1_is, .instanceMethod yX1_is, .selects RX1 yX1_is yX1_is, .initialized RX1, .code yX1_is cX1_is 4 (some .int), .fieldLink RX1 25 "ChalkSlateModel$State" "dish" "[I", .fieldLink RX1 28 "ChalkSlateModel$State" "kind" "[I", .methodLink RX1 75 yX1_kept, .instanceMethod yX1_kept, .selects RX1 yX1_kept yX1_kept, .code yX1_kept cX1_kept 4 (some .int), .methodLink RX1 64 yX1_isKept, .instanceMethod yX1_isKept, .selects RX1 yX1_isKept yX1_isKept, .code yX1_isKept cX1_isKept 3 (some .boolean), .methodLink RX1 60 yX1_isTakenBack, .instanceMethod yX1_isTakenBack, .selects RX1 yX1_isTakenBack yX1_isTakenBack, .code yX1_isTakenBack cX1_isTakenBack 3 (some .boolean), .fieldLink RX1 40 "ChalkSlateModel$State" "takes" "[I"] ++ wsX10 ++ wsX20)
def wsX1_isHeld : List Cond := .code yX1_isHeld cX1_isHeld 5 (some .boolean) :: ([.fieldLink RX1 49 "ChalkSlateModel$State" "lines" "I", .fieldLink RX1 25 "ChalkSlateModel$State" "dish" "[I", .fieldLink RX1 28 "ChalkSlateModel$State" "kind" "[I", .fieldLink RX1 31 "ChalkSlateModel$State" "pot" "[I", .methodLink RX1 71 yX1_is, .instanceMethod yX1_is, .selects RX1 yX1_is yX1_is, .initialized RX1, .code yX1_is cX1_is 4 (some .int)] ++ wsX10)
def wsX1_holder : List Cond := .code yX1_holder cX1_holder 3 (some .int) :: ([.fieldLink RX1 3 "ChalkSlateModel$State" "this$0" "LChalkSlateModel;", .methodLink RX1 78 yX1_isHeld, .instanceMethod yX1_isHeld, .selects RX1 yX1_isHeld yX1_isHeld, .initialized RX1, .code yX1_isHeld cX1_isHeld 5 (some .boolean), .fieldLink RX1 49 "ChalkSlateModel$State" "lines" "I", .fieldLink RX1 25 "ChalkSlateModel$State" "dish" "[I", .fieldLink RX1 28 "ChalkSlateModel$State" "kind" "[I", .fieldLink RX1 31 "ChalkSlateModel$State" "pot" "[I", .methodLink RX1 71 yX1_is, .instanceMethod yX1_is, .selects RX1 yX1_is yX1_is, .code yX1_is cX1_is 4 (some .int)] ++ wsX10 ++ wsX20)
def wsX1_latest : List Cond := .code yX1_latest cX1_latest 4 (some .int) :: ([.fieldLink RX1 49 "ChalkSlateModel$State" "lines" "I", .fieldLink RX1 31 "ChalkSlateModel$State" "pot" "[I"] ++ wsX10)
def wsX1_chalk : List Cond := .code yX1_chalk cX1_chalk 3 none :: ([.fieldLink RX1 25 "ChalkSlateModel$State" "dish" "[I", .fieldLink RX1 49 "ChalkSlateModel$State" "lines" "I", .fieldLink RX1 28 "ChalkSlateModel$State" "kind" "[I", .fieldLink RX1 31 "ChalkSlateModel$State" "pot" "[I", .fieldLink RX1 34 "ChalkSlateModel$State" "ahead" "[I", .fieldLink RX1 37 "ChalkSlateModel$State" "behind" "[I", .fieldLink RX1 40 "ChalkSlateModel$State" "takes" "[I"] ++ wsX10)
def wsX1_chalk_ : List Cond := .code yX1_chalk_ cX1_chalk_ 6 none :: ([.fieldLink RX1 31 "ChalkSlateModel$State" "pot" "[I", .fieldLink RX1 49 "ChalkSlateModel$State" "lines" "I", .fieldLink RX1 34 "ChalkSlateModel$State" "ahead" "[I", .fieldLink RX1 15 "ChalkSlateModel$State" "stove" "[I", .fieldLink RX1 37 "ChalkSlateModel$State" "behind" "[I", .fieldLink RX1 40 "ChalkSlateModel$State" "takes" "[I", .methodLink RX1 81 yX1_chalk, .instanceMethod yX1_chalk, .selects RX1 yX1_chalk yX1_chalk, .initialized RX1, .code yX1_chalk cX1_chalk 3 none, .fieldLink RX1 25 "ChalkSlateModel$State" "dish" "[I", .fieldLink RX1 28 "ChalkSlateModel$State" "kind" "[I"] ++ wsX10)
def wsX1_undo_r1 : List Cond := [Cond.fieldLink RX1 49 "ChalkSlateModel$State" "lines" "I", Cond.fieldLink RX1 31 "ChalkSlateModel$State" "pot" "[I", Cond.fieldLink RX1 34 "ChalkSlateModel$State" "ahead" "[I", Cond.methodLink RX1 64 yX1_isKept, Cond.instanceMethod yX1_isKept, Cond.selects RX1 yX1_isKept yX1_isKept, Cond.initialized RX1, Cond.code yX1_isKept cX1_isKept 3 (some .boolean), Cond.fieldLink RX1 25 "ChalkSlateModel$State" "dish" "[I", Cond.fieldLink RX1 28 "ChalkSlateModel$State" "kind" "[I", Cond.methodLink RX1 60 yX1_isTakenBack, Cond.instanceMethod yX1_isTakenBack, Cond.selects RX1 yX1_isTakenBack yX1_isTakenBack, Cond.code yX1_isTakenBack cX1_isTakenBack 3 (some .boolean), Cond.fieldLink RX1 40 "ChalkSlateModel$State" "takes" "[I", Cond.methodLink RX1 85 yX1_chalk_, Cond.instanceMethod yX1_chalk_, Cond.selects RX1 yX1_chalk_ yX1_chalk_, Cond.code yX1_chalk_ cX1_chalk_ 6 none, Cond.fieldLink RX1 15 "ChalkSlateModel$State" "stove" "[I", Cond.fieldLink RX1 37 "ChalkSlateModel$State" "behind" "[I", Cond.methodLink RX1 81 yX1_chalk, Cond.instanceMethod yX1_chalk, Cond.selects RX1 yX1_chalk yX1_chalk]
def wsX1_undo_r2 : List Cond := [Cond.code yX1_chalk cX1_chalk 3 none]
def wsX1_undo : List Cond := .code yX1_undo cX1_undo 4 (some .int) :: ((wsX1_undo_r1 ++ wsX1_undo_r2) ++ wsX10)
def wsX1_dries : List Cond := .code yX1_dries cX1_dries 3 (some .int) :: ([.fieldLink RX1 53 "ChalkSlateModel$State" "dry" "I", .methodLink RX1 88 Lib.Math.max.name, .static Lib.Math.max.name, .initialized "java/lang/Math", .code Lib.Math.max.name Lib.Math.max.code 2 (some .int)] ++ wsX10)
def wsX1_fall_r1 : List Cond := [Cond.fieldLink RX1 53 "ChalkSlateModel$State" "dry" "I", Cond.fieldLink RX1 49 "ChalkSlateModel$State" "lines" "I", Cond.fieldLink RX1 94 "ChalkSlateModel$State" "anew" "I", Cond.fieldLink RX1 97 "ChalkSlateModel$State" "first" "I", Cond.fieldLink RX1 100 "ChalkSlateModel$State" "back" "I", Cond.fieldLink RX1 15 "ChalkSlateModel$State" "stove" "[I", Cond.fieldLink RX1 19 "ChalkSlateModel$State" "shelf" "[I", Cond.fieldLink RX1 31 "ChalkSlateModel$State" "pot" "[I", Cond.fieldLink RX1 22 "ChalkSlateModel$State" "stamp" "[I", Cond.fieldLink RX1 37 "ChalkSlateModel$State" "behind" "[I", Cond.fieldLink RX1 3 "ChalkSlateModel$State" "this$0" "LChalkSlateModel;", Cond.methodLink RX1 71 yX1_is, Cond.instanceMethod yX1_is, Cond.selects RX1 yX1_is yX1_is, Cond.initialized RX1, Cond.code yX1_is cX1_is 4 (some .int), Cond.fieldLink RX1 25 "ChalkSlateModel$State" "dish" "[I", Cond.fieldLink RX1 28 "ChalkSlateModel$State" "kind" "[I", Cond.methodLink RX1 103 yX1_undo, Cond.instanceMethod yX1_undo, Cond.selects RX1 yX1_undo yX1_undo, Cond.code yX1_undo cX1_undo 4 (some .int), Cond.fieldLink RX1 34 "ChalkSlateModel$State" "ahead" "[I", Cond.methodLink RX1 64 yX1_isKept]
def wsX1_fall_r2 : List Cond := [Cond.instanceMethod yX1_isKept, Cond.selects RX1 yX1_isKept yX1_isKept, Cond.code yX1_isKept cX1_isKept 3 (some .boolean), Cond.methodLink RX1 60 yX1_isTakenBack, Cond.instanceMethod yX1_isTakenBack, Cond.selects RX1 yX1_isTakenBack yX1_isTakenBack, Cond.code yX1_isTakenBack cX1_isTakenBack 3 (some .boolean), Cond.fieldLink RX1 40 "ChalkSlateModel$State" "takes" "[I", Cond.methodLink RX1 85 yX1_chalk_, Cond.instanceMethod yX1_chalk_, Cond.selects RX1 yX1_chalk_ yX1_chalk_, Cond.code yX1_chalk_ cX1_chalk_ 6 none, Cond.methodLink RX1 81 yX1_chalk, Cond.instanceMethod yX1_chalk, Cond.selects RX1 yX1_chalk yX1_chalk, Cond.code yX1_chalk cX1_chalk 3 none]
def wsX1_fall : List Cond := .code yX1_fall cX1_fall 2 none :: ((wsX1_fall_r1 ++ wsX1_fall_r2) ++ wsX10 ++ wsX20)
def wsX1_are : List Cond := .code yX1_are cX1_are 4 (some .int) :: ([.fieldLink RX1 3 "ChalkSlateModel$State" "this$0" "LChalkSlateModel;", .methodLink RX1 71 yX1_is, .instanceMethod yX1_is, .selects RX1 yX1_is yX1_is, .initialized RX1, .code yX1_is cX1_is 4 (some .int), .fieldLink RX1 49 "ChalkSlateModel$State" "lines" "I", .fieldLink RX1 25 "ChalkSlateModel$State" "dish" "[I", .fieldLink RX1 28 "ChalkSlateModel$State" "kind" "[I"] ++ wsX10 ++ wsX20)
def wsX1_sum : List Cond := .code yX1_sum cX1_sum 7 (some .int) :: ([])
def wsX2_init : List Cond := .code yX2_init cX2_init 1 none :: ([.methodLink RX2 1 objectInit, .instanceMethod objectInit, .code objectInit ⟨#[0xb1]⟩ 1 none, .classLink RX2 7 RX1, .instantiable RX1 15, .initialized RX1, .fieldLink RX2 12 "ChalkSlateModel" "s" "LChalkSlateModel$State;", .fieldLink RX2 18 "ChalkSlateModel" "then" "LChalkSlateModel$State;", .methodLink RX2 9 yX1_init, .instanceMethod yX1_init, .code yX1_init cX1_init 3 none, .fieldLink RX1 3 "ChalkSlateModel$State" "this$0" "LChalkSlateModel;", .methodLink RX1 9 objectInit, .arrayClass .int, .fieldLink RX1 15 "ChalkSlateModel$State" "stove" "[I", .fieldLink RX1 19 "ChalkSlateModel$State" "shelf" "[I", .fieldLink RX1 22 "ChalkSlateModel$State" "stamp" "[I", .fieldLink RX1 25 "ChalkSlateModel$State" "dish" "[I", .fieldLink RX1 28 "ChalkSlateModel$State" "kind" "[I", .fieldLink RX1 31 "ChalkSlateModel$State" "pot" "[I", .fieldLink RX1 34 "ChalkSlateModel$State" "ahead" "[I", .fieldLink RX1 37 "ChalkSlateModel$State" "behind" "[I", .fieldLink RX1 40 "ChalkSlateModel$State" "takes" "[I"] ++ wsX10 ++ wsX20)
def wsX2_thrown : List Cond := .code yX2_thrown cX2_thrown 1 (some .int) :: ([.fieldLink RX2 21 "ChalkSlateModel" "thrown" "I"] ++ wsX20)
def wsX2_no : List Cond := .code yX2_no cX2_no 2 (some .int) :: ([.fieldLink RX2 21 "ChalkSlateModel" "thrown" "I"] ++ wsX20)
def wsX2_isIn : List Cond := .code yX2_isIn cX2_isIn 3 (some .boolean) :: ([])
def wsX2_isPot : List Cond := .code yX2_isPot cX2_isPot 1 (some .boolean) :: ([.methodLink RX2 25 yX2_isIn, .static yX2_isIn, .initialized RX2, .code yX2_isIn cX2_isIn 3 (some .boolean)])
def wsX2_isDish : List Cond := .code yX2_isDish cX2_isDish 2 (some .boolean) :: ([.fieldLink RX2 29 "ChalkSlateModel" "dishes" "I", .methodLink RX2 25 yX2_isIn, .static yX2_isIn, .initialized RX2, .code yX2_isIn cX2_isIn 3 (some .boolean)] ++ wsX20)
def wsX2_begin_r1 : List Cond := [Cond.fieldLink RX2 21 "ChalkSlateModel" "thrown" "I", Cond.fieldLink RX2 29 "ChalkSlateModel" "dishes" "I", Cond.fieldLink RX2 12 "ChalkSlateModel" "s" "LChalkSlateModel$State;", Cond.methodLink RX2 32 yX1_room, Cond.instanceMethod yX1_room, Cond.selects RX1 yX1_room yX1_room, Cond.initialized RX1, Cond.code yX1_room cX1_room 3 (some .int), Cond.fieldLink RX1 49 "ChalkSlateModel$State" "lines" "I", Cond.fieldLink RX1 3 "ChalkSlateModel$State" "this$0" "LChalkSlateModel;", Cond.methodLink RX1 71 yX1_is, Cond.instanceMethod yX1_is, Cond.selects RX1 yX1_is yX1_is, Cond.code yX1_is cX1_is 4 (some .int), Cond.fieldLink RX1 25 "ChalkSlateModel$State" "dish" "[I", Cond.fieldLink RX1 28 "ChalkSlateModel$State" "kind" "[I", Cond.methodLink RX1 75 yX1_kept, Cond.instanceMethod yX1_kept, Cond.selects RX1 yX1_kept yX1_kept, Cond.code yX1_kept cX1_kept 4 (some .int), Cond.methodLink RX1 64 yX1_isKept, Cond.instanceMethod yX1_isKept, Cond.selects RX1 yX1_isKept yX1_isKept, Cond.code yX1_isKept cX1_isKept 3 (some .boolean)]
def wsX2_begin_r2 : List Cond := [Cond.methodLink RX1 60 yX1_isTakenBack, Cond.instanceMethod yX1_isTakenBack, Cond.selects RX1 yX1_isTakenBack yX1_isTakenBack, Cond.code yX1_isTakenBack cX1_isTakenBack 3 (some .boolean), Cond.fieldLink RX1 40 "ChalkSlateModel$State" "takes" "[I", Cond.methodLink RX2 36 yX2_no, Cond.instanceMethod yX2_no, Cond.selects RX2 yX2_no yX2_no, Cond.initialized RX2, Cond.code yX2_no cX2_no 2 (some .int), Cond.methodLink RX2 40 yX1_chalk, Cond.instanceMethod yX1_chalk, Cond.selects RX1 yX1_chalk yX1_chalk, Cond.code yX1_chalk cX1_chalk 3 none, Cond.fieldLink RX1 31 "ChalkSlateModel$State" "pot" "[I", Cond.fieldLink RX1 34 "ChalkSlateModel$State" "ahead" "[I", Cond.fieldLink RX1 37 "ChalkSlateModel$State" "behind" "[I"]
def wsX2_begin : List Cond := .code yX2_begin cX2_begin 1 (some .int) :: ((wsX2_begin_r1 ++ wsX2_begin_r2) ++ wsX20 ++ wsX10)
def wsX2_cook_r1 : List Cond := [Cond.fieldLink RX2 21 "ChalkSlateModel" "thrown" "I", Cond.fieldLink RX2 12 "ChalkSlateModel" "s" "LChalkSlateModel$State;", Cond.methodLink RX2 44 yX2_isDish, Cond.instanceMethod yX2_isDish, Cond.selects RX2 yX2_isDish yX2_isDish, Cond.initialized RX2, Cond.code yX2_isDish cX2_isDish 2 (some .boolean), Cond.fieldLink RX2 29 "ChalkSlateModel" "dishes" "I", Cond.methodLink RX2 25 yX2_isIn, Cond.static yX2_isIn, Cond.code yX2_isIn cX2_isIn 3 (some .boolean), Cond.methodLink RX2 48 yX2_isPot, Cond.static yX2_isPot, Cond.code yX2_isPot cX2_isPot 1 (some .boolean), Cond.methodLink RX2 36 yX2_no, Cond.instanceMethod yX2_no, Cond.selects RX2 yX2_no yX2_no, Cond.code yX2_no cX2_no 2 (some .int), Cond.methodLink RX2 51 yX1_holder, Cond.instanceMethod yX1_holder, Cond.selects RX1 yX1_holder yX1_holder, Cond.initialized RX1, Cond.code yX1_holder cX1_holder 3 (some .int), Cond.fieldLink RX1 3 "ChalkSlateModel$State" "this$0" "LChalkSlateModel;"]
def wsX2_cook_r2 : List Cond := [Cond.methodLink RX1 78 yX1_isHeld, Cond.instanceMethod yX1_isHeld, Cond.selects RX1 yX1_isHeld yX1_isHeld, Cond.code yX1_isHeld cX1_isHeld 5 (some .boolean), Cond.fieldLink RX1 49 "ChalkSlateModel$State" "lines" "I", Cond.fieldLink RX1 25 "ChalkSlateModel$State" "dish" "[I", Cond.fieldLink RX1 28 "ChalkSlateModel$State" "kind" "[I", Cond.fieldLink RX1 31 "ChalkSlateModel$State" "pot" "[I", Cond.methodLink RX1 71 yX1_is, Cond.instanceMethod yX1_is, Cond.selects RX1 yX1_is yX1_is, Cond.code yX1_is cX1_is 4 (some .int), Cond.methodLink RX2 54 yX1_is, Cond.methodLink RX2 32 yX1_room, Cond.instanceMethod yX1_room, Cond.selects RX1 yX1_room yX1_room, Cond.code yX1_room cX1_room 3 (some .int), Cond.methodLink RX1 75 yX1_kept, Cond.instanceMethod yX1_kept, Cond.selects RX1 yX1_kept yX1_kept, Cond.code yX1_kept cX1_kept 4 (some .int), Cond.methodLink RX1 64 yX1_isKept, Cond.instanceMethod yX1_isKept, Cond.selects RX1 yX1_isKept yX1_isKept]
def wsX2_cook_r3 : List Cond := [Cond.code yX1_isKept cX1_isKept 3 (some .boolean), Cond.methodLink RX1 60 yX1_isTakenBack, Cond.instanceMethod yX1_isTakenBack, Cond.selects RX1 yX1_isTakenBack yX1_isTakenBack, Cond.code yX1_isTakenBack cX1_isTakenBack 3 (some .boolean), Cond.fieldLink RX1 40 "ChalkSlateModel$State" "takes" "[I", Cond.methodLink RX2 61 yX1_chalk_, Cond.instanceMethod yX1_chalk_, Cond.selects RX1 yX1_chalk_ yX1_chalk_, Cond.code yX1_chalk_ cX1_chalk_ 6 none, Cond.fieldLink RX1 34 "ChalkSlateModel$State" "ahead" "[I", Cond.fieldLink RX1 15 "ChalkSlateModel$State" "stove" "[I", Cond.fieldLink RX1 37 "ChalkSlateModel$State" "behind" "[I", Cond.methodLink RX1 81 yX1_chalk, Cond.instanceMethod yX1_chalk, Cond.selects RX1 yX1_chalk yX1_chalk, Cond.code yX1_chalk cX1_chalk 3 none]
def wsX2_cook : List Cond := .code yX2_cook cX2_cook 6 (some .int) :: ((wsX2_cook_r1 ++ (wsX2_cook_r2 ++ wsX2_cook_r3)) ++ wsX20 ++ wsX10)
def wsX2_finish_r1 : List Cond := [Cond.fieldLink RX2 21 "ChalkSlateModel" "thrown" "I", Cond.fieldLink RX2 12 "ChalkSlateModel" "s" "LChalkSlateModel$State;", Cond.methodLink RX2 44 yX2_isDish, Cond.instanceMethod yX2_isDish, Cond.selects RX2 yX2_isDish yX2_isDish, Cond.initialized RX2, Cond.code yX2_isDish cX2_isDish 2 (some .boolean), Cond.fieldLink RX2 29 "ChalkSlateModel" "dishes" "I", Cond.methodLink RX2 25 yX2_isIn, Cond.static yX2_isIn, Cond.code yX2_isIn cX2_isIn 3 (some .boolean), Cond.methodLink RX2 36 yX2_no, Cond.instanceMethod yX2_no, Cond.selects RX2 yX2_no yX2_no, Cond.code yX2_no cX2_no 2 (some .int), Cond.methodLink RX2 54 yX1_is, Cond.instanceMethod yX1_is, Cond.selects RX1 yX1_is yX1_is, Cond.initialized RX1, Cond.code yX1_is cX1_is 4 (some .int), Cond.fieldLink RX1 49 "ChalkSlateModel$State" "lines" "I", Cond.fieldLink RX1 25 "ChalkSlateModel$State" "dish" "[I", Cond.fieldLink RX1 28 "ChalkSlateModel$State" "kind" "[I", Cond.methodLink RX2 40 yX1_chalk]
def wsX2_finish_r2 : List Cond := [Cond.instanceMethod yX1_chalk, Cond.selects RX1 yX1_chalk yX1_chalk, Cond.code yX1_chalk cX1_chalk 3 none, Cond.fieldLink RX1 31 "ChalkSlateModel$State" "pot" "[I", Cond.fieldLink RX1 34 "ChalkSlateModel$State" "ahead" "[I", Cond.fieldLink RX1 37 "ChalkSlateModel$State" "behind" "[I", Cond.fieldLink RX1 40 "ChalkSlateModel$State" "takes" "[I", Cond.methodLink RX2 67 yX1_dries, Cond.instanceMethod yX1_dries, Cond.selects RX1 yX1_dries yX1_dries, Cond.code yX1_dries cX1_dries 3 (some .int), Cond.fieldLink RX1 53 "ChalkSlateModel$State" "dry" "I", Cond.methodLink RX1 88 Lib.Math.max.name, Cond.static Lib.Math.max.name, Cond.initialized "java/lang/Math", Cond.code Lib.Math.max.name Lib.Math.max.code 2 (some .int)]
def wsX2_finish : List Cond := .code yX2_finish cX2_finish 2 (some .int) :: ((wsX2_finish_r1 ++ wsX2_finish_r2) ++ wsX20 ++ wsX10)
def wsX2_drop_r1 : List Cond := [Cond.fieldLink RX2 21 "ChalkSlateModel" "thrown" "I", Cond.fieldLink RX2 12 "ChalkSlateModel" "s" "LChalkSlateModel$State;", Cond.methodLink RX2 44 yX2_isDish, Cond.instanceMethod yX2_isDish, Cond.selects RX2 yX2_isDish yX2_isDish, Cond.initialized RX2, Cond.code yX2_isDish cX2_isDish 2 (some .boolean), Cond.fieldLink RX2 29 "ChalkSlateModel" "dishes" "I", Cond.methodLink RX2 25 yX2_isIn, Cond.static yX2_isIn, Cond.code yX2_isIn cX2_isIn 3 (some .boolean), Cond.methodLink RX2 36 yX2_no, Cond.instanceMethod yX2_no, Cond.selects RX2 yX2_no yX2_no, Cond.code yX2_no cX2_no 2 (some .int), Cond.methodLink RX2 54 yX1_is, Cond.instanceMethod yX1_is, Cond.selects RX1 yX1_is yX1_is, Cond.initialized RX1, Cond.code yX1_is cX1_is 4 (some .int), Cond.fieldLink RX1 49 "ChalkSlateModel$State" "lines" "I", Cond.fieldLink RX1 25 "ChalkSlateModel$State" "dish" "[I", Cond.fieldLink RX1 28 "ChalkSlateModel$State" "kind" "[I", Cond.methodLink RX2 70 yX1_undo]
def wsX2_drop_r2 : List Cond := [Cond.instanceMethod yX1_undo, Cond.selects RX1 yX1_undo yX1_undo, Cond.code yX1_undo cX1_undo 4 (some .int), Cond.fieldLink RX1 31 "ChalkSlateModel$State" "pot" "[I", Cond.fieldLink RX1 34 "ChalkSlateModel$State" "ahead" "[I", Cond.methodLink RX1 64 yX1_isKept, Cond.instanceMethod yX1_isKept, Cond.selects RX1 yX1_isKept yX1_isKept, Cond.code yX1_isKept cX1_isKept 3 (some .boolean), Cond.methodLink RX1 60 yX1_isTakenBack, Cond.instanceMethod yX1_isTakenBack, Cond.selects RX1 yX1_isTakenBack yX1_isTakenBack, Cond.code yX1_isTakenBack cX1_isTakenBack 3 (some .boolean), Cond.fieldLink RX1 40 "ChalkSlateModel$State" "takes" "[I", Cond.methodLink RX1 85 yX1_chalk_, Cond.instanceMethod yX1_chalk_, Cond.selects RX1 yX1_chalk_ yX1_chalk_, Cond.code yX1_chalk_ cX1_chalk_ 6 none, Cond.fieldLink RX1 15 "ChalkSlateModel$State" "stove" "[I", Cond.fieldLink RX1 37 "ChalkSlateModel$State" "behind" "[I", Cond.methodLink RX1 81 yX1_chalk, Cond.instanceMethod yX1_chalk, Cond.selects RX1 yX1_chalk yX1_chalk, Cond.code yX1_chalk cX1_chalk 3 none]
def wsX2_drop : List Cond := .code yX2_drop cX2_drop 2 (some .int) :: ((wsX2_drop_r1 ++ wsX2_drop_r2) ++ wsX20 ++ wsX10)
def wsX2_shelve_r1 : List Cond := [Cond.fieldLink RX2 21 "ChalkSlateModel" "thrown" "I", Cond.fieldLink RX2 12 "ChalkSlateModel" "s" "LChalkSlateModel$State;", Cond.methodLink RX2 48 yX2_isPot, Cond.static yX2_isPot, Cond.initialized RX2, Cond.code yX2_isPot cX2_isPot 1 (some .boolean), Cond.methodLink RX2 25 yX2_isIn, Cond.static yX2_isIn, Cond.code yX2_isIn cX2_isIn 3 (some .boolean), Cond.methodLink RX2 36 yX2_no, Cond.instanceMethod yX2_no, Cond.selects RX2 yX2_no yX2_no, Cond.code yX2_no cX2_no 2 (some .int), Cond.methodLink RX2 73 yX1_latest, Cond.instanceMethod yX1_latest, Cond.selects RX1 yX1_latest yX1_latest, Cond.initialized RX1, Cond.code yX1_latest cX1_latest 4 (some .int), Cond.fieldLink RX1 49 "ChalkSlateModel$State" "lines" "I", Cond.fieldLink RX1 31 "ChalkSlateModel$State" "pot" "[I", Cond.methodLink RX2 67 yX1_dries, Cond.instanceMethod yX1_dries, Cond.selects RX1 yX1_dries yX1_dries, Cond.code yX1_dries cX1_dries 3 (some .int)]
def wsX2_shelve_r2 : List Cond := [Cond.fieldLink RX1 53 "ChalkSlateModel$State" "dry" "I", Cond.methodLink RX1 88 Lib.Math.max.name, Cond.static Lib.Math.max.name, Cond.initialized "java/lang/Math", Cond.code Lib.Math.max.name Lib.Math.max.code 2 (some .int)]
def wsX2_shelve : List Cond := .code yX2_shelve cX2_shelve 3 (some .int) :: ((wsX2_shelve_r1 ++ wsX2_shelve_r2) ++ wsX20 ++ wsX10)
def wsX2_blow : List Cond := .code yX2_blow cX2_blow 1 (some .int) :: ([.fieldLink RX2 21 "ChalkSlateModel" "thrown" "I", .fieldLink RX2 12 "ChalkSlateModel" "s" "LChalkSlateModel$State;", .methodLink RX2 67 yX1_dries, .instanceMethod yX1_dries, .selects RX1 yX1_dries yX1_dries, .initialized RX1, .code yX1_dries cX1_dries 3 (some .int), .fieldLink RX1 53 "ChalkSlateModel$State" "dry" "I", .methodLink RX1 88 Lib.Math.max.name, .static Lib.Math.max.name, .initialized "java/lang/Math", .code Lib.Math.max.name Lib.Math.max.code 2 (some .int)] ++ wsX20 ++ wsX10)
def wsX2_fall_r1 : List Cond := [Cond.fieldLink RX2 21 "ChalkSlateModel" "thrown" "I", Cond.fieldLink RX2 12 "ChalkSlateModel" "s" "LChalkSlateModel$State;", Cond.fieldLink RX2 85 "ChalkSlateModel" "falls" "I", Cond.methodLink RX2 82 yX1_fall, Cond.instanceMethod yX1_fall, Cond.selects RX1 yX1_fall yX1_fall, Cond.initialized RX1, Cond.code yX1_fall cX1_fall 2 none, Cond.fieldLink RX1 53 "ChalkSlateModel$State" "dry" "I", Cond.fieldLink RX1 49 "ChalkSlateModel$State" "lines" "I", Cond.fieldLink RX1 94 "ChalkSlateModel$State" "anew" "I", Cond.fieldLink RX1 97 "ChalkSlateModel$State" "first" "I", Cond.fieldLink RX1 100 "ChalkSlateModel$State" "back" "I", Cond.fieldLink RX1 15 "ChalkSlateModel$State" "stove" "[I", Cond.fieldLink RX1 19 "ChalkSlateModel$State" "shelf" "[I", Cond.fieldLink RX1 31 "ChalkSlateModel$State" "pot" "[I", Cond.fieldLink RX1 22 "ChalkSlateModel$State" "stamp" "[I", Cond.fieldLink RX1 37 "ChalkSlateModel$State" "behind" "[I", Cond.fieldLink RX1 3 "ChalkSlateModel$State" "this$0" "LChalkSlateModel;", Cond.methodLink RX1 71 yX1_is, Cond.instanceMethod yX1_is, Cond.selects RX1 yX1_is yX1_is, Cond.code yX1_is cX1_is 4 (some .int), Cond.fieldLink RX1 25 "ChalkSlateModel$State" "dish" "[I"]
def wsX2_fall_r2 : List Cond := [Cond.fieldLink RX1 28 "ChalkSlateModel$State" "kind" "[I", Cond.methodLink RX1 103 yX1_undo, Cond.instanceMethod yX1_undo, Cond.selects RX1 yX1_undo yX1_undo, Cond.code yX1_undo cX1_undo 4 (some .int), Cond.fieldLink RX1 34 "ChalkSlateModel$State" "ahead" "[I", Cond.methodLink RX1 64 yX1_isKept, Cond.instanceMethod yX1_isKept, Cond.selects RX1 yX1_isKept yX1_isKept, Cond.code yX1_isKept cX1_isKept 3 (some .boolean), Cond.methodLink RX1 60 yX1_isTakenBack, Cond.instanceMethod yX1_isTakenBack, Cond.selects RX1 yX1_isTakenBack yX1_isTakenBack, Cond.code yX1_isTakenBack cX1_isTakenBack 3 (some .boolean), Cond.fieldLink RX1 40 "ChalkSlateModel$State" "takes" "[I", Cond.methodLink RX1 85 yX1_chalk_, Cond.instanceMethod yX1_chalk_, Cond.selects RX1 yX1_chalk_ yX1_chalk_, Cond.code yX1_chalk_ cX1_chalk_ 6 none, Cond.methodLink RX1 81 yX1_chalk, Cond.instanceMethod yX1_chalk, Cond.selects RX1 yX1_chalk yX1_chalk, Cond.code yX1_chalk cX1_chalk 3 none]
def wsX2_fall : List Cond := .code yX2_fall cX2_fall 1 (some .int) :: ((wsX2_fall_r1 ++ wsX2_fall_r2) ++ wsX20 ++ wsX10)
def wsX2_potTold : List Cond := .code yX2_potTold cX2_potTold 4 (some .int) :: ([.arrayClass .int, .fieldLink RX2 12 "ChalkSlateModel" "s" "LChalkSlateModel$State;", .methodLink RX2 51 yX1_holder, .instanceMethod yX1_holder, .selects RX1 yX1_holder yX1_holder, .initialized RX1, .code yX1_holder cX1_holder 3 (some .int), .fieldLink RX1 3 "ChalkSlateModel$State" "this$0" "LChalkSlateModel;", .methodLink RX1 78 yX1_isHeld, .instanceMethod yX1_isHeld, .selects RX1 yX1_isHeld yX1_isHeld, .code yX1_isHeld cX1_isHeld 5 (some .boolean), .fieldLink RX1 49 "ChalkSlateModel$State" "lines" "I", .fieldLink RX1 25 "ChalkSlateModel$State" "dish" "[I", .fieldLink RX1 28 "ChalkSlateModel$State" "kind" "[I", .fieldLink RX1 31 "ChalkSlateModel$State" "pot" "[I", .methodLink RX1 71 yX1_is, .instanceMethod yX1_is, .selects RX1 yX1_is yX1_is, .code yX1_is cX1_is 4 (some .int), .methodLink RX2 73 yX1_latest, .instanceMethod yX1_latest, .selects RX1 yX1_latest yX1_latest, .code yX1_latest cX1_latest 4 (some .int)] ++ wsX20 ++ wsX10)
def wsX2_pot_r1 : List Cond := [Cond.fieldLink RX2 21 "ChalkSlateModel" "thrown" "I", Cond.methodLink RX2 48 yX2_isPot, Cond.static yX2_isPot, Cond.initialized RX2, Cond.code yX2_isPot cX2_isPot 1 (some .boolean), Cond.methodLink RX2 25 yX2_isIn, Cond.static yX2_isIn, Cond.code yX2_isIn cX2_isIn 3 (some .boolean), Cond.methodLink RX2 91 yX2_potTold, Cond.instanceMethod yX2_potTold, Cond.selects RX2 yX2_potTold yX2_potTold, Cond.code yX2_potTold cX2_potTold 4 (some .int), Cond.arrayClass .int, Cond.fieldLink RX2 12 "ChalkSlateModel" "s" "LChalkSlateModel$State;", Cond.methodLink RX2 51 yX1_holder, Cond.instanceMethod yX1_holder, Cond.selects RX1 yX1_holder yX1_holder, Cond.initialized RX1, Cond.code yX1_holder cX1_holder 3 (some .int), Cond.fieldLink RX1 3 "ChalkSlateModel$State" "this$0" "LChalkSlateModel;", Cond.methodLink RX1 78 yX1_isHeld, Cond.instanceMethod yX1_isHeld, Cond.selects RX1 yX1_isHeld yX1_isHeld, Cond.code yX1_isHeld cX1_isHeld 5 (some .boolean)]
def wsX2_pot_r2 : List Cond := [Cond.fieldLink RX1 49 "ChalkSlateModel$State" "lines" "I", Cond.fieldLink RX1 25 "ChalkSlateModel$State" "dish" "[I", Cond.fieldLink RX1 28 "ChalkSlateModel$State" "kind" "[I", Cond.fieldLink RX1 31 "ChalkSlateModel$State" "pot" "[I", Cond.methodLink RX1 71 yX1_is, Cond.instanceMethod yX1_is, Cond.selects RX1 yX1_is yX1_is, Cond.code yX1_is cX1_is 4 (some .int), Cond.methodLink RX2 73 yX1_latest, Cond.instanceMethod yX1_latest, Cond.selects RX1 yX1_latest yX1_latest, Cond.code yX1_latest cX1_latest 4 (some .int), Cond.methodLink RX2 36 yX2_no, Cond.instanceMethod yX2_no, Cond.selects RX2 yX2_no yX2_no, Cond.code yX2_no cX2_no 2 (some .int)]
def wsX2_pot : List Cond := .code yX2_pot cX2_pot 3 (some .int) :: ((wsX2_pot_r1 ++ wsX2_pot_r2) ++ wsX20 ++ wsX10)
def wsX2_dishTold_r1 : List Cond := [Cond.fieldLink RX2 12 "ChalkSlateModel" "s" "LChalkSlateModel$State;", Cond.arrayClass .int, Cond.methodLink RX2 98 yX1_isHeld, Cond.instanceMethod yX1_isHeld, Cond.selects RX1 yX1_isHeld yX1_isHeld, Cond.initialized RX1, Cond.code yX1_isHeld cX1_isHeld 5 (some .boolean), Cond.fieldLink RX1 49 "ChalkSlateModel$State" "lines" "I", Cond.fieldLink RX1 25 "ChalkSlateModel$State" "dish" "[I", Cond.fieldLink RX1 28 "ChalkSlateModel$State" "kind" "[I", Cond.fieldLink RX1 31 "ChalkSlateModel$State" "pot" "[I", Cond.methodLink RX1 71 yX1_is, Cond.instanceMethod yX1_is, Cond.selects RX1 yX1_is yX1_is, Cond.code yX1_is cX1_is 4 (some .int), Cond.methodLink RX2 54 yX1_is, Cond.methodLink RX2 102 yX1_kept, Cond.instanceMethod yX1_kept, Cond.selects RX1 yX1_kept yX1_kept, Cond.code yX1_kept cX1_kept 4 (some .int), Cond.methodLink RX1 64 yX1_isKept, Cond.instanceMethod yX1_isKept, Cond.selects RX1 yX1_isKept yX1_isKept, Cond.code yX1_isKept cX1_isKept 3 (some .boolean)]
def wsX2_dishTold_r2 : List Cond := [Cond.methodLink RX1 60 yX1_isTakenBack, Cond.instanceMethod yX1_isTakenBack, Cond.selects RX1 yX1_isTakenBack yX1_isTakenBack, Cond.code yX1_isTakenBack cX1_isTakenBack 3 (some .boolean), Cond.fieldLink RX1 40 "ChalkSlateModel$State" "takes" "[I"]
def wsX2_dishTold : List Cond := .code yX2_dishTold cX2_dishTold 7 (some .int) :: ((wsX2_dishTold_r1 ++ wsX2_dishTold_r2) ++ wsX20 ++ wsX10)
def wsX2_dish_r1 : List Cond := [Cond.fieldLink RX2 21 "ChalkSlateModel" "thrown" "I", Cond.methodLink RX2 44 yX2_isDish, Cond.instanceMethod yX2_isDish, Cond.selects RX2 yX2_isDish yX2_isDish, Cond.initialized RX2, Cond.code yX2_isDish cX2_isDish 2 (some .boolean), Cond.fieldLink RX2 29 "ChalkSlateModel" "dishes" "I", Cond.methodLink RX2 25 yX2_isIn, Cond.static yX2_isIn, Cond.code yX2_isIn cX2_isIn 3 (some .boolean), Cond.methodLink RX2 105 yX2_dishTold, Cond.instanceMethod yX2_dishTold, Cond.selects RX2 yX2_dishTold yX2_dishTold, Cond.code yX2_dishTold cX2_dishTold 7 (some .int), Cond.fieldLink RX2 12 "ChalkSlateModel" "s" "LChalkSlateModel$State;", Cond.arrayClass .int, Cond.methodLink RX2 98 yX1_isHeld, Cond.instanceMethod yX1_isHeld, Cond.selects RX1 yX1_isHeld yX1_isHeld, Cond.initialized RX1, Cond.code yX1_isHeld cX1_isHeld 5 (some .boolean), Cond.fieldLink RX1 49 "ChalkSlateModel$State" "lines" "I", Cond.fieldLink RX1 25 "ChalkSlateModel$State" "dish" "[I", Cond.fieldLink RX1 28 "ChalkSlateModel$State" "kind" "[I"]
def wsX2_dish_r2 : List Cond := [Cond.fieldLink RX1 31 "ChalkSlateModel$State" "pot" "[I", Cond.methodLink RX1 71 yX1_is, Cond.instanceMethod yX1_is, Cond.selects RX1 yX1_is yX1_is, Cond.code yX1_is cX1_is 4 (some .int), Cond.methodLink RX2 54 yX1_is, Cond.methodLink RX2 102 yX1_kept, Cond.instanceMethod yX1_kept, Cond.selects RX1 yX1_kept yX1_kept, Cond.code yX1_kept cX1_kept 4 (some .int), Cond.methodLink RX1 64 yX1_isKept, Cond.instanceMethod yX1_isKept, Cond.selects RX1 yX1_isKept yX1_isKept, Cond.code yX1_isKept cX1_isKept 3 (some .boolean), Cond.methodLink RX1 60 yX1_isTakenBack, Cond.instanceMethod yX1_isTakenBack, Cond.selects RX1 yX1_isTakenBack yX1_isTakenBack, Cond.code yX1_isTakenBack cX1_isTakenBack 3 (some .boolean), Cond.fieldLink RX1 40 "ChalkSlateModel$State" "takes" "[I", Cond.methodLink RX2 36 yX2_no, Cond.instanceMethod yX2_no, Cond.selects RX2 yX2_no yX2_no, Cond.code yX2_no cX2_no 2 (some .int)]
def wsX2_dish : List Cond := .code yX2_dish cX2_dish 3 (some .int) :: ((wsX2_dish_r1 ++ wsX2_dish_r2) ++ wsX20 ++ wsX10)
def wsX2_lineTold : List Cond := .code yX2_lineTold cX2_lineTold 4 (some .int) :: ([.arrayClass .int, .fieldLink RX2 12 "ChalkSlateModel" "s" "LChalkSlateModel$State;"] ++ wsX20 ++ wsX10)
def wsX2_line : List Cond := .code yX2_line cX2_line 3 (some .int) :: ([.fieldLink RX2 21 "ChalkSlateModel" "thrown" "I", .fieldLink RX2 12 "ChalkSlateModel" "s" "LChalkSlateModel$State;", .methodLink RX2 25 yX2_isIn, .static yX2_isIn, .initialized RX2, .code yX2_isIn cX2_isIn 3 (some .boolean), .methodLink RX2 126 yX2_lineTold, .instanceMethod yX2_lineTold, .selects RX2 yX2_lineTold yX2_lineTold, .code yX2_lineTold cX2_lineTold 4 (some .int), .arrayClass .int, .methodLink RX2 36 yX2_no, .instanceMethod yX2_no, .selects RX2 yX2_no yX2_no, .code yX2_no cX2_no 2 (some .int)] ++ wsX20 ++ wsX10)
def wsX2_counted_r1 : List Cond := [Cond.fieldLink RX2 12 "ChalkSlateModel" "s" "LChalkSlateModel$State;", Cond.fieldLink RX2 29 "ChalkSlateModel" "dishes" "I", Cond.fieldLink RX2 85 "ChalkSlateModel" "falls" "I", Cond.methodLink RX2 129 yX1_are, Cond.instanceMethod yX1_are, Cond.selects RX1 yX1_are yX1_are, Cond.initialized RX1, Cond.code yX1_are cX1_are 4 (some .int), Cond.fieldLink RX1 3 "ChalkSlateModel$State" "this$0" "LChalkSlateModel;", Cond.methodLink RX1 71 yX1_is, Cond.instanceMethod yX1_is, Cond.selects RX1 yX1_is yX1_is, Cond.code yX1_is cX1_is 4 (some .int), Cond.fieldLink RX1 49 "ChalkSlateModel$State" "lines" "I", Cond.fieldLink RX1 25 "ChalkSlateModel$State" "dish" "[I", Cond.fieldLink RX1 28 "ChalkSlateModel$State" "kind" "[I", Cond.methodLink RX2 32 yX1_room, Cond.instanceMethod yX1_room, Cond.selects RX1 yX1_room yX1_room, Cond.code yX1_room cX1_room 3 (some .int), Cond.methodLink RX1 75 yX1_kept, Cond.instanceMethod yX1_kept, Cond.selects RX1 yX1_kept yX1_kept, Cond.code yX1_kept cX1_kept 4 (some .int)]
def wsX2_counted_r2 : List Cond := [Cond.methodLink RX1 64 yX1_isKept, Cond.instanceMethod yX1_isKept, Cond.selects RX1 yX1_isKept yX1_isKept, Cond.code yX1_isKept cX1_isKept 3 (some .boolean), Cond.methodLink RX1 60 yX1_isTakenBack, Cond.instanceMethod yX1_isTakenBack, Cond.selects RX1 yX1_isTakenBack yX1_isTakenBack, Cond.code yX1_isTakenBack cX1_isTakenBack 3 (some .boolean), Cond.fieldLink RX1 40 "ChalkSlateModel$State" "takes" "[I", Cond.methodLink RX2 132 yX1_sum, Cond.instanceMethod yX1_sum, Cond.selects RX1 yX1_sum yX1_sum, Cond.code yX1_sum cX1_sum 7 (some .int)]
def wsX2_counted : List Cond := .code yX2_counted cX2_counted 2 (some .int) :: ((wsX2_counted_r1 ++ wsX2_counted_r2) ++ wsX20 ++ wsX10)
def wsX2_count_r1 : List Cond := [Cond.fieldLink RX2 21 "ChalkSlateModel" "thrown" "I", Cond.methodLink RX2 25 yX2_isIn, Cond.static yX2_isIn, Cond.initialized RX2, Cond.code yX2_isIn cX2_isIn 3 (some .boolean), Cond.methodLink RX2 136 yX2_counted, Cond.instanceMethod yX2_counted, Cond.selects RX2 yX2_counted yX2_counted, Cond.code yX2_counted cX2_counted 2 (some .int), Cond.fieldLink RX2 12 "ChalkSlateModel" "s" "LChalkSlateModel$State;", Cond.fieldLink RX2 29 "ChalkSlateModel" "dishes" "I", Cond.fieldLink RX2 85 "ChalkSlateModel" "falls" "I", Cond.methodLink RX2 129 yX1_are, Cond.instanceMethod yX1_are, Cond.selects RX1 yX1_are yX1_are, Cond.initialized RX1, Cond.code yX1_are cX1_are 4 (some .int), Cond.fieldLink RX1 3 "ChalkSlateModel$State" "this$0" "LChalkSlateModel;", Cond.methodLink RX1 71 yX1_is, Cond.instanceMethod yX1_is, Cond.selects RX1 yX1_is yX1_is, Cond.code yX1_is cX1_is 4 (some .int), Cond.fieldLink RX1 49 "ChalkSlateModel$State" "lines" "I", Cond.fieldLink RX1 25 "ChalkSlateModel$State" "dish" "[I"]
def wsX2_count_r2 : List Cond := [Cond.fieldLink RX1 28 "ChalkSlateModel$State" "kind" "[I", Cond.methodLink RX2 32 yX1_room, Cond.instanceMethod yX1_room, Cond.selects RX1 yX1_room yX1_room, Cond.code yX1_room cX1_room 3 (some .int), Cond.methodLink RX1 75 yX1_kept, Cond.instanceMethod yX1_kept, Cond.selects RX1 yX1_kept yX1_kept, Cond.code yX1_kept cX1_kept 4 (some .int), Cond.methodLink RX1 64 yX1_isKept, Cond.instanceMethod yX1_isKept, Cond.selects RX1 yX1_isKept yX1_isKept, Cond.code yX1_isKept cX1_isKept 3 (some .boolean), Cond.methodLink RX1 60 yX1_isTakenBack, Cond.instanceMethod yX1_isTakenBack, Cond.selects RX1 yX1_isTakenBack yX1_isTakenBack, Cond.code yX1_isTakenBack cX1_isTakenBack 3 (some .boolean), Cond.fieldLink RX1 40 "ChalkSlateModel$State" "takes" "[I", Cond.methodLink RX2 132 yX1_sum, Cond.instanceMethod yX1_sum, Cond.selects RX1 yX1_sum yX1_sum, Cond.code yX1_sum cX1_sum 7 (some .int), Cond.methodLink RX2 36 yX2_no, Cond.instanceMethod yX2_no]
def wsX2_count_r3 : List Cond := [Cond.selects RX2 yX2_no yX2_no, Cond.code yX2_no cX2_no 2 (some .int)]
def wsX2_count : List Cond := .code yX2_count cX2_count 2 (some .int) :: ((wsX2_count_r1 ++ (wsX2_count_r2 ++ wsX2_count_r3)) ++ wsX20 ++ wsX10)
def wsX2_would_r1 : List Cond := [Cond.fieldLink RX2 21 "ChalkSlateModel" "thrown" "I", Cond.fieldLink RX2 18 "ChalkSlateModel" "then" "LChalkSlateModel$State;", Cond.fieldLink RX2 12 "ChalkSlateModel" "s" "LChalkSlateModel$State;", Cond.arrayClass .int, Cond.methodLink RX2 25 yX2_isIn, Cond.static yX2_isIn, Cond.initialized RX2, Cond.code yX2_isIn cX2_isIn 3 (some .boolean), Cond.methodLink RX2 36 yX2_no, Cond.instanceMethod yX2_no, Cond.selects RX2 yX2_no yX2_no, Cond.code yX2_no cX2_no 2 (some .int), Cond.methodLink RX2 139 yX1_become, Cond.instanceMethod yX1_become, Cond.selects RX1 yX1_become yX1_become, Cond.initialized RX1, Cond.code yX1_become cX1_become 2 none, Cond.fieldLink RX1 49 "ChalkSlateModel$State" "lines" "I", Cond.fieldLink RX1 53 "ChalkSlateModel$State" "dry" "I", Cond.fieldLink RX1 15 "ChalkSlateModel$State" "stove" "[I", Cond.fieldLink RX1 19 "ChalkSlateModel$State" "shelf" "[I", Cond.fieldLink RX1 22 "ChalkSlateModel$State" "stamp" "[I", Cond.fieldLink RX1 25 "ChalkSlateModel$State" "dish" "[I", Cond.fieldLink RX1 28 "ChalkSlateModel$State" "kind" "[I"]
def wsX2_would_r2 : List Cond := [Cond.fieldLink RX1 31 "ChalkSlateModel$State" "pot" "[I", Cond.fieldLink RX1 34 "ChalkSlateModel$State" "ahead" "[I", Cond.fieldLink RX1 37 "ChalkSlateModel$State" "behind" "[I", Cond.fieldLink RX1 40 "ChalkSlateModel$State" "takes" "[I", Cond.methodLink RX1 56 yX1_copy, Cond.instanceMethod yX1_copy, Cond.selects RX1 yX1_copy yX1_copy, Cond.code yX1_copy cX1_copy 3 none, Cond.methodLink RX1 43 arraycopyName, Cond.native arraycopyName, Cond.static arraycopyName, Cond.initialized "java/lang/System", Cond.methodLink RX2 82 yX1_fall, Cond.instanceMethod yX1_fall, Cond.selects RX1 yX1_fall yX1_fall, Cond.code yX1_fall cX1_fall 2 none, Cond.fieldLink RX1 94 "ChalkSlateModel$State" "anew" "I", Cond.fieldLink RX1 97 "ChalkSlateModel$State" "first" "I", Cond.fieldLink RX1 100 "ChalkSlateModel$State" "back" "I", Cond.fieldLink RX1 3 "ChalkSlateModel$State" "this$0" "LChalkSlateModel;", Cond.methodLink RX1 71 yX1_is, Cond.instanceMethod yX1_is, Cond.selects RX1 yX1_is yX1_is, Cond.code yX1_is cX1_is 4 (some .int)]
def wsX2_would_r3 : List Cond := [Cond.methodLink RX1 103 yX1_undo, Cond.instanceMethod yX1_undo, Cond.selects RX1 yX1_undo yX1_undo, Cond.code yX1_undo cX1_undo 4 (some .int), Cond.methodLink RX1 64 yX1_isKept, Cond.instanceMethod yX1_isKept, Cond.selects RX1 yX1_isKept yX1_isKept, Cond.code yX1_isKept cX1_isKept 3 (some .boolean), Cond.methodLink RX1 60 yX1_isTakenBack, Cond.instanceMethod yX1_isTakenBack, Cond.selects RX1 yX1_isTakenBack yX1_isTakenBack, Cond.code yX1_isTakenBack cX1_isTakenBack 3 (some .boolean), Cond.methodLink RX1 85 yX1_chalk_, Cond.instanceMethod yX1_chalk_, Cond.selects RX1 yX1_chalk_ yX1_chalk_, Cond.code yX1_chalk_ cX1_chalk_ 6 none, Cond.methodLink RX1 81 yX1_chalk, Cond.instanceMethod yX1_chalk, Cond.selects RX1 yX1_chalk yX1_chalk, Cond.code yX1_chalk cX1_chalk 3 none, Cond.methodLink RX2 129 yX1_are, Cond.instanceMethod yX1_are, Cond.selects RX1 yX1_are yX1_are, Cond.code yX1_are cX1_are 4 (some .int)]
def wsX2_would : List Cond := .code yX2_would cX2_would 3 (some .int) :: ((wsX2_would_r1 ++ (wsX2_would_r2 ++ wsX2_would_r3)) ++ wsX20 ++ wsX10)
def wsX2_left_r1 : List Cond := [Cond.fieldLink RX2 21 "ChalkSlateModel" "thrown" "I", Cond.fieldLink RX2 18 "ChalkSlateModel" "then" "LChalkSlateModel$State;", Cond.fieldLink RX2 12 "ChalkSlateModel" "s" "LChalkSlateModel$State;", Cond.methodLink RX2 48 yX2_isPot, Cond.static yX2_isPot, Cond.initialized RX2, Cond.code yX2_isPot cX2_isPot 1 (some .boolean), Cond.methodLink RX2 25 yX2_isIn, Cond.static yX2_isIn, Cond.code yX2_isIn cX2_isIn 3 (some .boolean), Cond.methodLink RX2 36 yX2_no, Cond.instanceMethod yX2_no, Cond.selects RX2 yX2_no yX2_no, Cond.code yX2_no cX2_no 2 (some .int), Cond.methodLink RX2 139 yX1_become, Cond.instanceMethod yX1_become, Cond.selects RX1 yX1_become yX1_become, Cond.initialized RX1, Cond.code yX1_become cX1_become 2 none, Cond.fieldLink RX1 49 "ChalkSlateModel$State" "lines" "I", Cond.fieldLink RX1 53 "ChalkSlateModel$State" "dry" "I", Cond.fieldLink RX1 15 "ChalkSlateModel$State" "stove" "[I", Cond.fieldLink RX1 19 "ChalkSlateModel$State" "shelf" "[I", Cond.fieldLink RX1 22 "ChalkSlateModel$State" "stamp" "[I"]
def wsX2_left_r2 : List Cond := [Cond.fieldLink RX1 25 "ChalkSlateModel$State" "dish" "[I", Cond.fieldLink RX1 28 "ChalkSlateModel$State" "kind" "[I", Cond.fieldLink RX1 31 "ChalkSlateModel$State" "pot" "[I", Cond.fieldLink RX1 34 "ChalkSlateModel$State" "ahead" "[I", Cond.fieldLink RX1 37 "ChalkSlateModel$State" "behind" "[I", Cond.fieldLink RX1 40 "ChalkSlateModel$State" "takes" "[I", Cond.methodLink RX1 56 yX1_copy, Cond.instanceMethod yX1_copy, Cond.selects RX1 yX1_copy yX1_copy, Cond.code yX1_copy cX1_copy 3 none, Cond.methodLink RX1 43 arraycopyName, Cond.native arraycopyName, Cond.static arraycopyName, Cond.initialized "java/lang/System", Cond.methodLink RX2 82 yX1_fall, Cond.instanceMethod yX1_fall, Cond.selects RX1 yX1_fall yX1_fall, Cond.code yX1_fall cX1_fall 2 none, Cond.fieldLink RX1 94 "ChalkSlateModel$State" "anew" "I", Cond.fieldLink RX1 97 "ChalkSlateModel$State" "first" "I", Cond.fieldLink RX1 100 "ChalkSlateModel$State" "back" "I", Cond.fieldLink RX1 3 "ChalkSlateModel$State" "this$0" "LChalkSlateModel;", Cond.methodLink RX1 71 yX1_is, Cond.instanceMethod yX1_is]
def wsX2_left_r3 : List Cond := [Cond.selects RX1 yX1_is yX1_is, Cond.code yX1_is cX1_is 4 (some .int), Cond.methodLink RX1 103 yX1_undo, Cond.instanceMethod yX1_undo, Cond.selects RX1 yX1_undo yX1_undo, Cond.code yX1_undo cX1_undo 4 (some .int), Cond.methodLink RX1 64 yX1_isKept, Cond.instanceMethod yX1_isKept, Cond.selects RX1 yX1_isKept yX1_isKept, Cond.code yX1_isKept cX1_isKept 3 (some .boolean), Cond.methodLink RX1 60 yX1_isTakenBack, Cond.instanceMethod yX1_isTakenBack, Cond.selects RX1 yX1_isTakenBack yX1_isTakenBack, Cond.code yX1_isTakenBack cX1_isTakenBack 3 (some .boolean), Cond.methodLink RX1 85 yX1_chalk_, Cond.instanceMethod yX1_chalk_, Cond.selects RX1 yX1_chalk_ yX1_chalk_, Cond.code yX1_chalk_ cX1_chalk_ 6 none, Cond.methodLink RX1 81 yX1_chalk, Cond.instanceMethod yX1_chalk, Cond.selects RX1 yX1_chalk yX1_chalk, Cond.code yX1_chalk cX1_chalk 3 none]
def wsX2_left : List Cond := .code yX2_left cX2_left 2 (some .int) :: ((wsX2_left_r1 ++ (wsX2_left_r2 ++ wsX2_left_r3)) ++ wsX20 ++ wsX10)
def wsX2_mean : List Cond := .code yX2_mean cX2_mean 1 (some .double) :: ([.fieldLink RX2 21 "ChalkSlateModel" "thrown" "I", .fieldLink RX2 12 "ChalkSlateModel" "s" "LChalkSlateModel$State;", .constantDouble RX2 149 (4620693217682128896), .methodLink RX2 132 yX1_sum, .instanceMethod yX1_sum, .selects RX1 yX1_sum yX1_sum, .initialized RX1, .code yX1_sum cX1_sum 7 (some .int)] ++ wsX20 ++ wsX10)
def wsX2_digest_r1 : List Cond := [Cond.fieldLink RX2 21 "ChalkSlateModel" "thrown" "I", Cond.constantLong RX2 151 (1291), Cond.constantLong RX2 153 (31), Cond.fieldLink RX2 29 "ChalkSlateModel" "dishes" "I", Cond.fieldLink RX2 12 "ChalkSlateModel" "s" "LChalkSlateModel$State;", Cond.methodLink RX2 136 yX2_counted, Cond.instanceMethod yX2_counted, Cond.selects RX2 yX2_counted yX2_counted, Cond.initialized RX2, Cond.code yX2_counted cX2_counted 2 (some .int), Cond.fieldLink RX2 85 "ChalkSlateModel" "falls" "I", Cond.methodLink RX2 129 yX1_are, Cond.instanceMethod yX1_are, Cond.selects RX1 yX1_are yX1_are, Cond.initialized RX1, Cond.code yX1_are cX1_are 4 (some .int), Cond.fieldLink RX1 3 "ChalkSlateModel$State" "this$0" "LChalkSlateModel;", Cond.methodLink RX1 71 yX1_is, Cond.instanceMethod yX1_is, Cond.selects RX1 yX1_is yX1_is, Cond.code yX1_is cX1_is 4 (some .int), Cond.fieldLink RX1 49 "ChalkSlateModel$State" "lines" "I", Cond.fieldLink RX1 25 "ChalkSlateModel$State" "dish" "[I", Cond.fieldLink RX1 28 "ChalkSlateModel$State" "kind" "[I"]
def wsX2_digest_r2 : List Cond := [Cond.methodLink RX2 32 yX1_room, Cond.instanceMethod yX1_room, Cond.selects RX1 yX1_room yX1_room, Cond.code yX1_room cX1_room 3 (some .int), Cond.methodLink RX1 75 yX1_kept, Cond.instanceMethod yX1_kept, Cond.selects RX1 yX1_kept yX1_kept, Cond.code yX1_kept cX1_kept 4 (some .int), Cond.methodLink RX1 64 yX1_isKept, Cond.instanceMethod yX1_isKept, Cond.selects RX1 yX1_isKept yX1_isKept, Cond.code yX1_isKept cX1_isKept 3 (some .boolean), Cond.methodLink RX1 60 yX1_isTakenBack, Cond.instanceMethod yX1_isTakenBack, Cond.selects RX1 yX1_isTakenBack yX1_isTakenBack, Cond.code yX1_isTakenBack cX1_isTakenBack 3 (some .boolean), Cond.fieldLink RX1 40 "ChalkSlateModel$State" "takes" "[I", Cond.methodLink RX2 132 yX1_sum, Cond.instanceMethod yX1_sum, Cond.selects RX1 yX1_sum yX1_sum, Cond.code yX1_sum cX1_sum 7 (some .int), Cond.methodLink RX2 91 yX2_potTold, Cond.instanceMethod yX2_potTold, Cond.selects RX2 yX2_potTold yX2_potTold]
def wsX2_digest_r3 : List Cond := [Cond.code yX2_potTold cX2_potTold 4 (some .int), Cond.arrayClass .int, Cond.methodLink RX2 51 yX1_holder, Cond.instanceMethod yX1_holder, Cond.selects RX1 yX1_holder yX1_holder, Cond.code yX1_holder cX1_holder 3 (some .int), Cond.methodLink RX1 78 yX1_isHeld, Cond.instanceMethod yX1_isHeld, Cond.selects RX1 yX1_isHeld yX1_isHeld, Cond.code yX1_isHeld cX1_isHeld 5 (some .boolean), Cond.fieldLink RX1 31 "ChalkSlateModel$State" "pot" "[I", Cond.methodLink RX2 73 yX1_latest, Cond.instanceMethod yX1_latest, Cond.selects RX1 yX1_latest yX1_latest, Cond.code yX1_latest cX1_latest 4 (some .int), Cond.methodLink RX2 105 yX2_dishTold, Cond.instanceMethod yX2_dishTold, Cond.selects RX2 yX2_dishTold yX2_dishTold, Cond.code yX2_dishTold cX2_dishTold 7 (some .int), Cond.methodLink RX2 98 yX1_isHeld, Cond.methodLink RX2 54 yX1_is, Cond.methodLink RX2 102 yX1_kept, Cond.methodLink RX2 126 yX2_lineTold, Cond.instanceMethod yX2_lineTold]
def wsX2_digest_r4 : List Cond := [Cond.selects RX2 yX2_lineTold yX2_lineTold, Cond.code yX2_lineTold cX2_lineTold 4 (some .int)]
def wsX2_digest : List Cond := .code yX2_digest cX2_digest 5 (some .long) :: ((wsX2_digest_r1 ++ (wsX2_digest_r2 ++ (wsX2_digest_r3 ++ wsX2_digest_r4))) ++ wsX20 ++ wsX10)
def wsJ9_max_7cf53 : List Cond := .code yJ9_max_7cf53 cJ9_max_7cf53 2 (some .int) :: ([])
def wsL_begin_r1 : List Cond := [Cond.classLink RL 13 "java/lang/IllegalStateException", Cond.methodLink RL 7 yX0_begin, Cond.instanceMethod yX0_begin, Cond.selects RX0 yX0_begin yX0_begin, Cond.initialized RX0, Cond.code yX0_begin cX0_begin 2 (some .int), Cond.classLink RX0 53 "java/lang/IllegalStateException", Cond.initialized "java/lang/IllegalStateException", Cond.fieldLink RX0 49 "ChalkSlate" "dishes" "I", Cond.fieldLink RX0 19 "ChalkSlate" "dishState" "[I", Cond.methodLink RX0 60 yX0_roomLeft, Cond.instanceMethod yX0_roomLeft, Cond.selects RX0 yX0_roomLeft yX0_roomLeft, Cond.code yX0_roomLeft cX0_roomLeft 3 (some .int), Cond.fieldLink RX0 112 "ChalkSlate" "lines" "I", Cond.methodLink RX0 91 yX0_isOpen, Cond.instanceMethod yX0_isOpen, Cond.selects RX0 yX0_isOpen yX0_isOpen, Cond.code yX0_isOpen cX0_isOpen 2 (some .boolean), Cond.methodLink RX0 102 yX0_at, Cond.static yX0_at, Cond.code yX0_at cX0_at 2 (some .int), Cond.methodLink RX0 141 yX0_isBelow, Cond.static yX0_isBelow]
def wsL_begin_r2 : List Cond := [Cond.code yX0_isBelow cX0_isBelow 2 (some .boolean), Cond.methodLink RX0 204 yX0_changesNotTakenBack, Cond.instanceMethod yX0_changesNotTakenBack, Cond.selects RX0 yX0_changesNotTakenBack yX0_changesNotTakenBack, Cond.code yX0_changesNotTakenBack cX0_changesNotTakenBack 5 (some .int), Cond.methodLink RX0 219 yX0_isChangeNotTakenBack, Cond.instanceMethod yX0_isChangeNotTakenBack, Cond.selects RX0 yX0_isChangeNotTakenBack yX0_isChangeNotTakenBack, Cond.code yX0_isChangeNotTakenBack cX0_isChangeNotTakenBack 4 (some .boolean), Cond.fieldLink RX0 22 "ChalkSlate" "lineDish" "[I", Cond.fieldLink RX0 25 "ChalkSlate" "lineKind" "[I", Cond.fieldLink RX0 40 "ChalkSlate" "lineTakenBackBy" "[I", Cond.methodLink RX0 66 yX0_put, Cond.static yX0_put, Cond.code yX0_put cX0_put 3 none, Cond.methodLink RX0 70 yX0_chalk, Cond.instanceMethod yX0_chalk, Cond.selects RX0 yX0_chalk yX0_chalk, Cond.code yX0_chalk cX0_chalk 3 none, Cond.fieldLink RX0 28 "ChalkSlate" "linePot" "[I", Cond.fieldLink RX0 31 "ChalkSlate" "lineAhead" "[I", Cond.fieldLink RX0 34 "ChalkSlate" "lineBehind" "[I", Cond.fieldLink RX0 37 "ChalkSlate" "lineTakesBack" "[I"]
def wsL_begin : List Cond := .codeWith yL_begin cL_begin 3 (some .int) [(0, 8, 11, 13)] :: ((wsL_begin_r1 ++ wsL_begin_r2) ++ wsX00 ++ (vx_atS RX0 57 "java/lang/IllegalStateException" ["java/lang/RuntimeException", "java/lang/Exception"]).filter goodWord)
def wsL_cook_r1 : List Cond := [Cond.classLink RL 19 "java/lang/IndexOutOfBoundsException", Cond.classLink RL 21 "java/lang/IllegalArgumentException", Cond.classLink RL 13 "java/lang/IllegalStateException", Cond.methodLink RL 15 yX0_cook, Cond.instanceMethod yX0_cook, Cond.selects RX0 yX0_cook yX0_cook, Cond.initialized RX0, Cond.code yX0_cook cX0_cook 6 (some .int), Cond.classLink RX0 81 "java/lang/IndexOutOfBoundsException", Cond.initialized "java/lang/IndexOutOfBoundsException", Cond.classLink RX0 86 "java/lang/IllegalArgumentException", Cond.initialized "java/lang/IllegalArgumentException", Cond.classLink RX0 53 "java/lang/IllegalStateException", Cond.initialized "java/lang/IllegalStateException", Cond.fieldLink RX0 9 "ChalkSlate" "stove" "[I", Cond.methodLink RX0 74 yX0_isDish, Cond.instanceMethod yX0_isDish, Cond.selects RX0 yX0_isDish yX0_isDish, Cond.code yX0_isDish cX0_isDish 2 (some .boolean), Cond.fieldLink RX0 49 "ChalkSlate" "dishes" "I", Cond.methodLink RX0 141 yX0_isBelow, Cond.static yX0_isBelow, Cond.code yX0_isBelow cX0_isBelow 2 (some .boolean), Cond.methodLink RX0 78 yX0_isPot]
def wsL_cook_r2 : List Cond := [Cond.static yX0_isPot, Cond.code yX0_isPot cX0_isPot 1 (some .boolean), Cond.methodLink RX0 91 yX0_isOpen, Cond.instanceMethod yX0_isOpen, Cond.selects RX0 yX0_isOpen yX0_isOpen, Cond.code yX0_isOpen cX0_isOpen 2 (some .boolean), Cond.fieldLink RX0 19 "ChalkSlate" "dishState" "[I", Cond.methodLink RX0 102 yX0_at, Cond.static yX0_at, Cond.code yX0_at cX0_at 2 (some .int), Cond.methodLink RX0 96 yX0_holderOf, Cond.instanceMethod yX0_holderOf, Cond.selects RX0 yX0_holderOf yX0_holderOf, Cond.code yX0_holderOf cX0_holderOf 4 (some .int), Cond.fieldLink RX0 112 "ChalkSlate" "lines" "I", Cond.fieldLink RX0 22 "ChalkSlate" "lineDish" "[I", Cond.fieldLink RX0 25 "ChalkSlate" "lineKind" "[I", Cond.fieldLink RX0 28 "ChalkSlate" "linePot" "[I", Cond.methodLink RX0 60 yX0_roomLeft, Cond.instanceMethod yX0_roomLeft, Cond.selects RX0 yX0_roomLeft yX0_roomLeft, Cond.code yX0_roomLeft cX0_roomLeft 3 (some .int), Cond.methodLink RX0 204 yX0_changesNotTakenBack, Cond.instanceMethod yX0_changesNotTakenBack]
def wsL_cook_r3 : List Cond := [Cond.selects RX0 yX0_changesNotTakenBack yX0_changesNotTakenBack, Cond.code yX0_changesNotTakenBack cX0_changesNotTakenBack 5 (some .int), Cond.methodLink RX0 219 yX0_isChangeNotTakenBack, Cond.instanceMethod yX0_isChangeNotTakenBack, Cond.selects RX0 yX0_isChangeNotTakenBack yX0_isChangeNotTakenBack, Cond.code yX0_isChangeNotTakenBack cX0_isChangeNotTakenBack 4 (some .boolean), Cond.fieldLink RX0 40 "ChalkSlate" "lineTakenBackBy" "[I", Cond.methodLink RX0 106 yX0_chalkSpoons, Cond.instanceMethod yX0_chalkSpoons, Cond.selects RX0 yX0_chalkSpoons yX0_chalkSpoons, Cond.code yX0_chalkSpoons cX0_chalkSpoons 6 none, Cond.fieldLink RX0 31 "ChalkSlate" "lineAhead" "[I", Cond.fieldLink RX0 34 "ChalkSlate" "lineBehind" "[I", Cond.methodLink RX0 70 yX0_chalk, Cond.instanceMethod yX0_chalk, Cond.selects RX0 yX0_chalk yX0_chalk, Cond.code yX0_chalk cX0_chalk 3 none, Cond.fieldLink RX0 37 "ChalkSlate" "lineTakesBack" "[I", Cond.methodLink RX0 66 yX0_put, Cond.static yX0_put, Cond.code yX0_put cX0_put 3 none]
def wsL_cook : List Cond := .codeWith yL_cook cL_cook 6 (some .int) [(0, 12, 15, 19), (0, 12, 19, 21), (0, 12, 23, 13)] :: ((wsL_cook_r1 ++ (wsL_cook_r2 ++ wsL_cook_r3)) ++ wsX00 ++ (vx_atS RX0 85 "java/lang/IndexOutOfBoundsException" ["java/lang/RuntimeException", "java/lang/Exception"]).filter goodWord ++ (vx_atS RX0 90 "java/lang/IllegalArgumentException" ["java/lang/RuntimeException", "java/lang/Exception"]).filter goodWord ++ (vx_atS RX0 57 "java/lang/IllegalStateException" ["java/lang/RuntimeException", "java/lang/Exception"]).filter goodWord)
def wsL_finish_r1 : List Cond := [Cond.classLink RL 19 "java/lang/IndexOutOfBoundsException", Cond.classLink RL 13 "java/lang/IllegalStateException", Cond.methodLink RL 23 yX0_finish, Cond.instanceMethod yX0_finish, Cond.selects RX0 yX0_finish yX0_finish, Cond.initialized RX0, Cond.code yX0_finish cX0_finish 2 (some .int), Cond.classLink RX0 81 "java/lang/IndexOutOfBoundsException", Cond.initialized "java/lang/IndexOutOfBoundsException", Cond.classLink RX0 53 "java/lang/IllegalStateException", Cond.initialized "java/lang/IllegalStateException", Cond.fieldLink RX0 19 "ChalkSlate" "dishState" "[I", Cond.fieldLink RX0 112 "ChalkSlate" "lines" "I", Cond.methodLink RX0 74 yX0_isDish, Cond.instanceMethod yX0_isDish, Cond.selects RX0 yX0_isDish yX0_isDish, Cond.code yX0_isDish cX0_isDish 2 (some .boolean), Cond.fieldLink RX0 49 "ChalkSlate" "dishes" "I", Cond.methodLink RX0 141 yX0_isBelow, Cond.static yX0_isBelow, Cond.code yX0_isBelow cX0_isBelow 2 (some .boolean), Cond.methodLink RX0 91 yX0_isOpen, Cond.instanceMethod yX0_isOpen, Cond.selects RX0 yX0_isOpen yX0_isOpen]
def wsL_finish_r2 : List Cond := [Cond.code yX0_isOpen cX0_isOpen 2 (some .boolean), Cond.methodLink RX0 102 yX0_at, Cond.static yX0_at, Cond.code yX0_at cX0_at 2 (some .int), Cond.methodLink RX0 70 yX0_chalk, Cond.instanceMethod yX0_chalk, Cond.selects RX0 yX0_chalk yX0_chalk, Cond.code yX0_chalk cX0_chalk 3 none, Cond.fieldLink RX0 22 "ChalkSlate" "lineDish" "[I", Cond.fieldLink RX0 25 "ChalkSlate" "lineKind" "[I", Cond.fieldLink RX0 28 "ChalkSlate" "linePot" "[I", Cond.fieldLink RX0 31 "ChalkSlate" "lineAhead" "[I", Cond.fieldLink RX0 34 "ChalkSlate" "lineBehind" "[I", Cond.fieldLink RX0 37 "ChalkSlate" "lineTakesBack" "[I", Cond.fieldLink RX0 40 "ChalkSlate" "lineTakenBackBy" "[I", Cond.methodLink RX0 66 yX0_put, Cond.static yX0_put, Cond.code yX0_put cX0_put 3 none, Cond.methodLink RX0 115 yX0_dryUpTo, Cond.instanceMethod yX0_dryUpTo, Cond.selects RX0 yX0_dryUpTo yX0_dryUpTo, Cond.code yX0_dryUpTo cX0_dryUpTo 3 (some .int), Cond.fieldLink RX0 166 "ChalkSlate" "dryLines" "I", Cond.methodLink RX0 227 Lib.Math.max.name]
def wsL_finish_r3 : List Cond := [Cond.static Lib.Math.max.name, Cond.initialized "java/lang/Math", Cond.code Lib.Math.max.name Lib.Math.max.code 2 (some .int)]
def wsL_finish : List Cond := .codeWith yL_finish cL_finish 4 (some .int) [(0, 9, 12, 19), (0, 9, 15, 13)] :: ((wsL_finish_r1 ++ (wsL_finish_r2 ++ wsL_finish_r3)) ++ wsX00 ++ (vx_atS RX0 85 "java/lang/IndexOutOfBoundsException" ["java/lang/RuntimeException", "java/lang/Exception"]).filter goodWord ++ (vx_atS RX0 57 "java/lang/IllegalStateException" ["java/lang/RuntimeException", "java/lang/Exception"]).filter goodWord)
def wsL_drop_r1 : List Cond := [Cond.classLink RL 19 "java/lang/IndexOutOfBoundsException", Cond.classLink RL 13 "java/lang/IllegalStateException", Cond.methodLink RL 27 yX0_drop, Cond.instanceMethod yX0_drop, Cond.selects RX0 yX0_drop yX0_drop, Cond.initialized RX0, Cond.code yX0_drop cX0_drop 2 (some .int), Cond.classLink RX0 81 "java/lang/IndexOutOfBoundsException", Cond.initialized "java/lang/IndexOutOfBoundsException", Cond.classLink RX0 53 "java/lang/IllegalStateException", Cond.initialized "java/lang/IllegalStateException", Cond.methodLink RX0 74 yX0_isDish, Cond.instanceMethod yX0_isDish, Cond.selects RX0 yX0_isDish yX0_isDish, Cond.code yX0_isDish cX0_isDish 2 (some .boolean), Cond.fieldLink RX0 49 "ChalkSlate" "dishes" "I", Cond.methodLink RX0 141 yX0_isBelow, Cond.static yX0_isBelow, Cond.code yX0_isBelow cX0_isBelow 2 (some .boolean), Cond.methodLink RX0 91 yX0_isOpen, Cond.instanceMethod yX0_isOpen, Cond.selects RX0 yX0_isOpen yX0_isOpen, Cond.code yX0_isOpen cX0_isOpen 2 (some .boolean), Cond.fieldLink RX0 19 "ChalkSlate" "dishState" "[I"]
def wsL_drop_r2 : List Cond := [Cond.methodLink RX0 102 yX0_at, Cond.static yX0_at, Cond.code yX0_at cX0_at 2 (some .int), Cond.methodLink RX0 118 yX0_undo, Cond.instanceMethod yX0_undo, Cond.selects RX0 yX0_undo yX0_undo, Cond.code yX0_undo cX0_undo 4 (some .int), Cond.fieldLink RX0 112 "ChalkSlate" "lines" "I", Cond.methodLink RX0 219 yX0_isChangeNotTakenBack, Cond.instanceMethod yX0_isChangeNotTakenBack, Cond.selects RX0 yX0_isChangeNotTakenBack yX0_isChangeNotTakenBack, Cond.code yX0_isChangeNotTakenBack cX0_isChangeNotTakenBack 4 (some .boolean), Cond.fieldLink RX0 22 "ChalkSlate" "lineDish" "[I", Cond.fieldLink RX0 25 "ChalkSlate" "lineKind" "[I", Cond.fieldLink RX0 40 "ChalkSlate" "lineTakenBackBy" "[I", Cond.methodLink RX0 223 yX0_takeBack, Cond.instanceMethod yX0_takeBack, Cond.selects RX0 yX0_takeBack yX0_takeBack, Cond.code yX0_takeBack cX0_takeBack 3 none, Cond.fieldLink RX0 28 "ChalkSlate" "linePot" "[I", Cond.fieldLink RX0 31 "ChalkSlate" "lineAhead" "[I", Cond.fieldLink RX0 37 "ChalkSlate" "lineTakesBack" "[I", Cond.methodLink RX0 106 yX0_chalkSpoons, Cond.instanceMethod yX0_chalkSpoons]
def wsL_drop_r3 : List Cond := [Cond.selects RX0 yX0_chalkSpoons yX0_chalkSpoons, Cond.code yX0_chalkSpoons cX0_chalkSpoons 6 none, Cond.fieldLink RX0 9 "ChalkSlate" "stove" "[I", Cond.fieldLink RX0 34 "ChalkSlate" "lineBehind" "[I", Cond.methodLink RX0 70 yX0_chalk, Cond.instanceMethod yX0_chalk, Cond.selects RX0 yX0_chalk yX0_chalk, Cond.code yX0_chalk cX0_chalk 3 none, Cond.methodLink RX0 66 yX0_put, Cond.static yX0_put, Cond.code yX0_put cX0_put 3 none]
def wsL_drop : List Cond := .codeWith yL_drop cL_drop 4 (some .int) [(0, 9, 12, 19), (0, 9, 15, 13)] :: ((wsL_drop_r1 ++ (wsL_drop_r2 ++ wsL_drop_r3)) ++ wsX00 ++ (vx_atS RX0 85 "java/lang/IndexOutOfBoundsException" ["java/lang/RuntimeException", "java/lang/Exception"]).filter goodWord ++ (vx_atS RX0 57 "java/lang/IllegalStateException" ["java/lang/RuntimeException", "java/lang/Exception"]).filter goodWord)
def wsL_shelve_r1 : List Cond := [Cond.classLink RL 19 "java/lang/IndexOutOfBoundsException", Cond.methodLink RL 30 yX0_shelve, Cond.instanceMethod yX0_shelve, Cond.selects RX0 yX0_shelve yX0_shelve, Cond.initialized RX0, Cond.code yX0_shelve cX0_shelve 4 (some .int), Cond.classLink RX0 81 "java/lang/IndexOutOfBoundsException", Cond.initialized "java/lang/IndexOutOfBoundsException", Cond.fieldLink RX0 13 "ChalkSlate" "shelf" "[I", Cond.fieldLink RX0 9 "ChalkSlate" "stove" "[I", Cond.fieldLink RX0 16 "ChalkSlate" "stamp" "[I", Cond.methodLink RX0 78 yX0_isPot, Cond.static yX0_isPot, Cond.code yX0_isPot cX0_isPot 1 (some .boolean), Cond.methodLink RX0 141 yX0_isBelow, Cond.static yX0_isBelow, Cond.code yX0_isBelow cX0_isBelow 2 (some .boolean), Cond.methodLink RX0 123 yX0_latestLineOf, Cond.instanceMethod yX0_latestLineOf, Cond.selects RX0 yX0_latestLineOf yX0_latestLineOf, Cond.code yX0_latestLineOf cX0_latestLineOf 3 (some .int), Cond.fieldLink RX0 112 "ChalkSlate" "lines" "I", Cond.fieldLink RX0 28 "ChalkSlate" "linePot" "[I", Cond.methodLink RX0 102 yX0_at]
def wsL_shelve_r2 : List Cond := [Cond.static yX0_at, Cond.code yX0_at cX0_at 2 (some .int), Cond.methodLink RX0 115 yX0_dryUpTo, Cond.instanceMethod yX0_dryUpTo, Cond.selects RX0 yX0_dryUpTo yX0_dryUpTo, Cond.code yX0_dryUpTo cX0_dryUpTo 3 (some .int), Cond.fieldLink RX0 166 "ChalkSlate" "dryLines" "I", Cond.methodLink RX0 227 Lib.Math.max.name, Cond.static Lib.Math.max.name, Cond.initialized "java/lang/Math", Cond.code Lib.Math.max.name Lib.Math.max.code 2 (some .int), Cond.methodLink RX0 66 yX0_put, Cond.static yX0_put, Cond.code yX0_put cX0_put 3 none]
def wsL_shelve : List Cond := .codeWith yL_shelve cL_shelve 4 (some .int) [(0, 9, 12, 19)] :: ((wsL_shelve_r1 ++ wsL_shelve_r2) ++ wsX00 ++ (vx_atS RX0 85 "java/lang/IndexOutOfBoundsException" ["java/lang/RuntimeException", "java/lang/Exception"]).filter goodWord)
def wsL_pot_r1 : List Cond := [Cond.classLink RL 19 "java/lang/IndexOutOfBoundsException", Cond.methodLink RL 33 yX0_pot, Cond.instanceMethod yX0_pot, Cond.selects RX0 yX0_pot yX0_pot, Cond.initialized RX0, Cond.code yX0_pot cX0_pot 3 (some .int), Cond.classLink RX0 81 "java/lang/IndexOutOfBoundsException", Cond.initialized "java/lang/IndexOutOfBoundsException", Cond.methodLink RX0 78 yX0_isPot, Cond.static yX0_isPot, Cond.code yX0_isPot cX0_isPot 1 (some .boolean), Cond.methodLink RX0 141 yX0_isBelow, Cond.static yX0_isBelow, Cond.code yX0_isBelow cX0_isBelow 2 (some .boolean), Cond.methodLink RX0 147 yX0_potAnswer, Cond.instanceMethod yX0_potAnswer, Cond.selects RX0 yX0_potAnswer yX0_potAnswer, Cond.code yX0_potAnswer cX0_potAnswer 3 (some .int), Cond.fieldLink RX0 9 "ChalkSlate" "stove" "[I", Cond.fieldLink RX0 13 "ChalkSlate" "shelf" "[I", Cond.fieldLink RX0 16 "ChalkSlate" "stamp" "[I", Cond.methodLink RX0 102 yX0_at, Cond.static yX0_at, Cond.code yX0_at cX0_at 2 (some .int)]
def wsL_pot_r2 : List Cond := [Cond.methodLink RX0 96 yX0_holderOf, Cond.instanceMethod yX0_holderOf, Cond.selects RX0 yX0_holderOf yX0_holderOf, Cond.code yX0_holderOf cX0_holderOf 4 (some .int), Cond.fieldLink RX0 112 "ChalkSlate" "lines" "I", Cond.fieldLink RX0 22 "ChalkSlate" "lineDish" "[I", Cond.fieldLink RX0 25 "ChalkSlate" "lineKind" "[I", Cond.fieldLink RX0 28 "ChalkSlate" "linePot" "[I", Cond.methodLink RX0 91 yX0_isOpen, Cond.instanceMethod yX0_isOpen, Cond.selects RX0 yX0_isOpen yX0_isOpen, Cond.code yX0_isOpen cX0_isOpen 2 (some .boolean), Cond.fieldLink RX0 19 "ChalkSlate" "dishState" "[I", Cond.methodLink RX0 123 yX0_latestLineOf, Cond.instanceMethod yX0_latestLineOf, Cond.selects RX0 yX0_latestLineOf yX0_latestLineOf, Cond.code yX0_latestLineOf cX0_latestLineOf 3 (some .int)]
def wsL_pot : List Cond := .codeWith yL_pot cL_pot 5 (some .int) [(0, 10, 13, 19)] :: ((wsL_pot_r1 ++ wsL_pot_r2) ++ wsX00 ++ (vx_atS RX0 85 "java/lang/IndexOutOfBoundsException" ["java/lang/RuntimeException", "java/lang/Exception"]).filter goodWord)
def wsL_dish_r1 : List Cond := [Cond.classLink RL 19 "java/lang/IndexOutOfBoundsException", Cond.methodLink RL 37 yX0_dish, Cond.instanceMethod yX0_dish, Cond.selects RX0 yX0_dish yX0_dish, Cond.initialized RX0, Cond.code yX0_dish cX0_dish 3 (some .int), Cond.classLink RX0 81 "java/lang/IndexOutOfBoundsException", Cond.initialized "java/lang/IndexOutOfBoundsException", Cond.methodLink RX0 74 yX0_isDish, Cond.instanceMethod yX0_isDish, Cond.selects RX0 yX0_isDish yX0_isDish, Cond.code yX0_isDish cX0_isDish 2 (some .boolean), Cond.fieldLink RX0 49 "ChalkSlate" "dishes" "I", Cond.methodLink RX0 141 yX0_isBelow, Cond.static yX0_isBelow, Cond.code yX0_isBelow cX0_isBelow 2 (some .boolean), Cond.methodLink RX0 153 yX0_dishAnswer, Cond.instanceMethod yX0_dishAnswer, Cond.selects RX0 yX0_dishAnswer yX0_dishAnswer, Cond.code yX0_dishAnswer cX0_dishAnswer 3 (some .int), Cond.fieldLink RX0 19 "ChalkSlate" "dishState" "[I", Cond.fieldLink RX0 112 "ChalkSlate" "lines" "I", Cond.methodLink RX0 102 yX0_at, Cond.static yX0_at]
def wsL_dish_r2 : List Cond := [Cond.code yX0_at cX0_at 2 (some .int), Cond.methodLink RX0 201 yX0_linesOf, Cond.instanceMethod yX0_linesOf, Cond.selects RX0 yX0_linesOf yX0_linesOf, Cond.code yX0_linesOf cX0_linesOf 4 (some .int), Cond.fieldLink RX0 22 "ChalkSlate" "lineDish" "[I", Cond.methodLink RX0 204 yX0_changesNotTakenBack, Cond.instanceMethod yX0_changesNotTakenBack, Cond.selects RX0 yX0_changesNotTakenBack yX0_changesNotTakenBack, Cond.code yX0_changesNotTakenBack cX0_changesNotTakenBack 5 (some .int), Cond.methodLink RX0 219 yX0_isChangeNotTakenBack, Cond.instanceMethod yX0_isChangeNotTakenBack, Cond.selects RX0 yX0_isChangeNotTakenBack yX0_isChangeNotTakenBack, Cond.code yX0_isChangeNotTakenBack cX0_isChangeNotTakenBack 4 (some .boolean), Cond.fieldLink RX0 25 "ChalkSlate" "lineKind" "[I", Cond.fieldLink RX0 40 "ChalkSlate" "lineTakenBackBy" "[I", Cond.methodLink RX0 207 yX0_potsHeldBy, Cond.instanceMethod yX0_potsHeldBy, Cond.selects RX0 yX0_potsHeldBy yX0_potsHeldBy, Cond.code yX0_potsHeldBy cX0_potsHeldBy 4 (some .int), Cond.methodLink RX0 96 yX0_holderOf, Cond.instanceMethod yX0_holderOf, Cond.selects RX0 yX0_holderOf yX0_holderOf, Cond.code yX0_holderOf cX0_holderOf 4 (some .int)]
def wsL_dish_r3 : List Cond := [Cond.fieldLink RX0 28 "ChalkSlate" "linePot" "[I", Cond.methodLink RX0 91 yX0_isOpen, Cond.instanceMethod yX0_isOpen, Cond.selects RX0 yX0_isOpen yX0_isOpen, Cond.code yX0_isOpen cX0_isOpen 2 (some .boolean), Cond.methodLink RX0 210 yX0_lastLineOf, Cond.instanceMethod yX0_lastLineOf, Cond.selects RX0 yX0_lastLineOf yX0_lastLineOf, Cond.code yX0_lastLineOf cX0_lastLineOf 3 (some .int)]
def wsL_dish : List Cond := .codeWith yL_dish cL_dish 5 (some .int) [(0, 10, 13, 19)] :: ((wsL_dish_r1 ++ (wsL_dish_r2 ++ wsL_dish_r3)) ++ wsX00 ++ (vx_atS RX0 85 "java/lang/IndexOutOfBoundsException" ["java/lang/RuntimeException", "java/lang/Exception"]).filter goodWord)
def wsL_line_r1 : List Cond := [Cond.classLink RL 19 "java/lang/IndexOutOfBoundsException", Cond.methodLink RL 40 yX0_line, Cond.instanceMethod yX0_line, Cond.selects RX0 yX0_line yX0_line, Cond.initialized RX0, Cond.code yX0_line cX0_line 3 (some .int), Cond.classLink RX0 81 "java/lang/IndexOutOfBoundsException", Cond.initialized "java/lang/IndexOutOfBoundsException", Cond.fieldLink RX0 112 "ChalkSlate" "lines" "I", Cond.methodLink RX0 141 yX0_isBelow, Cond.static yX0_isBelow, Cond.code yX0_isBelow cX0_isBelow 2 (some .boolean), Cond.methodLink RX0 158 yX0_lineAnswer, Cond.instanceMethod yX0_lineAnswer, Cond.selects RX0 yX0_lineAnswer yX0_lineAnswer, Cond.code yX0_lineAnswer cX0_lineAnswer 3 (some .int), Cond.fieldLink RX0 22 "ChalkSlate" "lineDish" "[I", Cond.fieldLink RX0 25 "ChalkSlate" "lineKind" "[I", Cond.fieldLink RX0 28 "ChalkSlate" "linePot" "[I", Cond.fieldLink RX0 31 "ChalkSlate" "lineAhead" "[I", Cond.fieldLink RX0 34 "ChalkSlate" "lineBehind" "[I", Cond.fieldLink RX0 37 "ChalkSlate" "lineTakesBack" "[I", Cond.fieldLink RX0 166 "ChalkSlate" "dryLines" "I", Cond.methodLink RX0 102 yX0_at]
def wsL_line_r2 : List Cond := [Cond.static yX0_at, Cond.code yX0_at cX0_at 2 (some .int)]
def wsL_line : List Cond := .codeWith yL_line cL_line 5 (some .int) [(0, 10, 13, 19)] :: ((wsL_line_r1 ++ wsL_line_r2) ++ wsX00 ++ (vx_atS RX0 85 "java/lang/IndexOutOfBoundsException" ["java/lang/RuntimeException", "java/lang/Exception"]).filter goodWord)
def wsL_count_r1 : List Cond := [Cond.classLink RL 19 "java/lang/IndexOutOfBoundsException", Cond.methodLink RL 43 yX0_count, Cond.instanceMethod yX0_count, Cond.selects RX0 yX0_count yX0_count, Cond.initialized RX0, Cond.code yX0_count cX0_count 2 (some .int), Cond.classLink RX0 81 "java/lang/IndexOutOfBoundsException", Cond.initialized "java/lang/IndexOutOfBoundsException", Cond.methodLink RX0 141 yX0_isBelow, Cond.static yX0_isBelow, Cond.code yX0_isBelow cX0_isBelow 2 (some .boolean), Cond.methodLink RX0 163 yX0_countAnswer, Cond.instanceMethod yX0_countAnswer, Cond.selects RX0 yX0_countAnswer yX0_countAnswer, Cond.code yX0_countAnswer cX0_countAnswer 2 (some .int), Cond.fieldLink RX0 112 "ChalkSlate" "lines" "I", Cond.fieldLink RX0 166 "ChalkSlate" "dryLines" "I", Cond.fieldLink RX0 49 "ChalkSlate" "dishes" "I", Cond.fieldLink RX0 9 "ChalkSlate" "stove" "[I", Cond.fieldLink RX0 13 "ChalkSlate" "shelf" "[I", Cond.fieldLink RX0 138 "ChalkSlate" "falls" "I", Cond.methodLink RX0 213 yX0_dishesThatAre, Cond.instanceMethod yX0_dishesThatAre, Cond.selects RX0 yX0_dishesThatAre yX0_dishesThatAre]
def wsL_count_r2 : List Cond := [Cond.code yX0_dishesThatAre cX0_dishesThatAre 4 (some .int), Cond.fieldLink RX0 19 "ChalkSlate" "dishState" "[I", Cond.methodLink RX0 102 yX0_at, Cond.static yX0_at, Cond.code yX0_at cX0_at 2 (some .int), Cond.methodLink RX0 60 yX0_roomLeft, Cond.instanceMethod yX0_roomLeft, Cond.selects RX0 yX0_roomLeft yX0_roomLeft, Cond.code yX0_roomLeft cX0_roomLeft 3 (some .int), Cond.methodLink RX0 91 yX0_isOpen, Cond.instanceMethod yX0_isOpen, Cond.selects RX0 yX0_isOpen yX0_isOpen, Cond.code yX0_isOpen cX0_isOpen 2 (some .boolean), Cond.methodLink RX0 204 yX0_changesNotTakenBack, Cond.instanceMethod yX0_changesNotTakenBack, Cond.selects RX0 yX0_changesNotTakenBack yX0_changesNotTakenBack, Cond.code yX0_changesNotTakenBack cX0_changesNotTakenBack 5 (some .int), Cond.methodLink RX0 219 yX0_isChangeNotTakenBack, Cond.instanceMethod yX0_isChangeNotTakenBack, Cond.selects RX0 yX0_isChangeNotTakenBack yX0_isChangeNotTakenBack, Cond.code yX0_isChangeNotTakenBack cX0_isChangeNotTakenBack 4 (some .boolean), Cond.fieldLink RX0 22 "ChalkSlate" "lineDish" "[I", Cond.fieldLink RX0 25 "ChalkSlate" "lineKind" "[I", Cond.fieldLink RX0 40 "ChalkSlate" "lineTakenBackBy" "[I"]
def wsL_count_r3 : List Cond := [Cond.methodLink RX0 191 yX0_sumOf, Cond.static yX0_sumOf, Cond.code yX0_sumOf cX0_sumOf 3 (some .int)]
def wsL_count : List Cond := .codeWith yL_count cL_count 4 (some .int) [(0, 9, 12, 19)] :: ((wsL_count_r1 ++ (wsL_count_r2 ++ wsL_count_r3)) ++ wsX00 ++ (vx_atS RX0 85 "java/lang/IndexOutOfBoundsException" ["java/lang/RuntimeException", "java/lang/Exception"]).filter goodWord)
def wsL_would_r1 : List Cond := [Cond.classLink RL 19 "java/lang/IndexOutOfBoundsException", Cond.methodLink RL 46 yX0_would, Cond.instanceMethod yX0_would, Cond.selects RX0 yX0_would yX0_would, Cond.initialized RX0, Cond.code yX0_would cX0_would 2 (some .int), Cond.classLink RX0 81 "java/lang/IndexOutOfBoundsException", Cond.initialized "java/lang/IndexOutOfBoundsException", Cond.fieldLink RX0 112 "ChalkSlate" "lines" "I", Cond.fieldLink RX0 166 "ChalkSlate" "dryLines" "I", Cond.methodLink RX0 141 yX0_isBelow, Cond.static yX0_isBelow, Cond.code yX0_isBelow cX0_isBelow 2 (some .boolean), Cond.methodLink RX0 169 yX0_linesToDoAnew, Cond.instanceMethod yX0_linesToDoAnew, Cond.selects RX0 yX0_linesToDoAnew yX0_linesToDoAnew, Cond.code yX0_linesToDoAnew cX0_linesToDoAnew 3 (some .int), Cond.methodLink RX0 181 yX0_isToDoAnew, Cond.instanceMethod yX0_isToDoAnew, Cond.selects RX0 yX0_isToDoAnew yX0_isToDoAnew, Cond.code yX0_isToDoAnew cX0_isToDoAnew 3 (some .boolean), Cond.fieldLink RX0 28 "ChalkSlate" "linePot" "[I", Cond.fieldLink RX0 16 "ChalkSlate" "stamp" "[I", Cond.methodLink RX0 102 yX0_at]
def wsL_would_r2 : List Cond := [Cond.static yX0_at, Cond.code yX0_at cX0_at 2 (some .int), Cond.methodLink RX0 172 yX0_linesToTakeBack, Cond.instanceMethod yX0_linesToTakeBack, Cond.selects RX0 yX0_linesToTakeBack yX0_linesToTakeBack, Cond.code yX0_linesToTakeBack cX0_linesToTakeBack 3 (some .int), Cond.fieldLink RX0 49 "ChalkSlate" "dishes" "I", Cond.methodLink RX0 184 yX0_stateByLines, Cond.instanceMethod yX0_stateByLines, Cond.selects RX0 yX0_stateByLines yX0_stateByLines, Cond.code yX0_stateByLines cX0_stateByLines 5 (some .int), Cond.fieldLink RX0 22 "ChalkSlate" "lineDish" "[I", Cond.fieldLink RX0 25 "ChalkSlate" "lineKind" "[I", Cond.methodLink RX0 216 yX0_stateAfter, Cond.static yX0_stateAfter, Cond.code yX0_stateAfter cX0_stateAfter 2 (some .int), Cond.methodLink RX0 204 yX0_changesNotTakenBack, Cond.instanceMethod yX0_changesNotTakenBack, Cond.selects RX0 yX0_changesNotTakenBack yX0_changesNotTakenBack, Cond.code yX0_changesNotTakenBack cX0_changesNotTakenBack 5 (some .int), Cond.methodLink RX0 219 yX0_isChangeNotTakenBack, Cond.instanceMethod yX0_isChangeNotTakenBack, Cond.selects RX0 yX0_isChangeNotTakenBack yX0_isChangeNotTakenBack, Cond.code yX0_isChangeNotTakenBack cX0_isChangeNotTakenBack 4 (some .boolean)]
def wsL_would_r3 : List Cond := [Cond.fieldLink RX0 40 "ChalkSlate" "lineTakenBackBy" "[I", Cond.methodLink RX0 175 yX0_firstLineToDoAnew, Cond.instanceMethod yX0_firstLineToDoAnew, Cond.selects RX0 yX0_firstLineToDoAnew yX0_firstLineToDoAnew, Cond.code yX0_firstLineToDoAnew cX0_firstLineToDoAnew 2 (some .int), Cond.methodLink RX0 178 yX0_dishesToForget, Cond.instanceMethod yX0_dishesToForget, Cond.selects RX0 yX0_dishesToForget yX0_dishesToForget, Cond.code yX0_dishesToForget cX0_dishesToForget 4 (some .int), Cond.fieldLink RX0 19 "ChalkSlate" "dishState" "[I"]
def wsL_would : List Cond := .codeWith yL_would cL_would 4 (some .int) [(0, 9, 12, 19)] :: ((wsL_would_r1 ++ (wsL_would_r2 ++ wsL_would_r3)) ++ wsX00 ++ (vx_atS RX0 85 "java/lang/IndexOutOfBoundsException" ["java/lang/RuntimeException", "java/lang/Exception"]).filter goodWord)
def wsL_left_r1 : List Cond := [Cond.classLink RL 19 "java/lang/IndexOutOfBoundsException", Cond.methodLink RL 49 yX0_left, Cond.instanceMethod yX0_left, Cond.selects RX0 yX0_left yX0_left, Cond.initialized RX0, Cond.code yX0_left cX0_left 4 (some .int), Cond.classLink RX0 81 "java/lang/IndexOutOfBoundsException", Cond.initialized "java/lang/IndexOutOfBoundsException", Cond.fieldLink RX0 13 "ChalkSlate" "shelf" "[I", Cond.fieldLink RX0 166 "ChalkSlate" "dryLines" "I", Cond.fieldLink RX0 28 "ChalkSlate" "linePot" "[I", Cond.fieldLink RX0 34 "ChalkSlate" "lineBehind" "[I", Cond.fieldLink RX0 49 "ChalkSlate" "dishes" "I", Cond.methodLink RX0 78 yX0_isPot, Cond.static yX0_isPot, Cond.code yX0_isPot cX0_isPot 1 (some .boolean), Cond.methodLink RX0 141 yX0_isBelow, Cond.static yX0_isBelow, Cond.code yX0_isBelow cX0_isBelow 2 (some .boolean), Cond.methodLink RX0 102 yX0_at, Cond.static yX0_at, Cond.code yX0_at cX0_at 2 (some .int), Cond.methodLink RX0 181 yX0_isToDoAnew, Cond.instanceMethod yX0_isToDoAnew]
def wsL_left_r2 : List Cond := [Cond.selects RX0 yX0_isToDoAnew yX0_isToDoAnew, Cond.code yX0_isToDoAnew cX0_isToDoAnew 3 (some .boolean), Cond.fieldLink RX0 16 "ChalkSlate" "stamp" "[I", Cond.methodLink RX0 184 yX0_stateByLines, Cond.instanceMethod yX0_stateByLines, Cond.selects RX0 yX0_stateByLines yX0_stateByLines, Cond.code yX0_stateByLines cX0_stateByLines 5 (some .int), Cond.fieldLink RX0 22 "ChalkSlate" "lineDish" "[I", Cond.fieldLink RX0 25 "ChalkSlate" "lineKind" "[I", Cond.methodLink RX0 216 yX0_stateAfter, Cond.static yX0_stateAfter, Cond.code yX0_stateAfter cX0_stateAfter 2 (some .int), Cond.methodLink RX0 187 yX0_spoonsAfterUndoing, Cond.instanceMethod yX0_spoonsAfterUndoing, Cond.selects RX0 yX0_spoonsAfterUndoing yX0_spoonsAfterUndoing, Cond.code yX0_spoonsAfterUndoing cX0_spoonsAfterUndoing 6 (some .int), Cond.fieldLink RX0 31 "ChalkSlate" "lineAhead" "[I", Cond.methodLink RX0 219 yX0_isChangeNotTakenBack, Cond.instanceMethod yX0_isChangeNotTakenBack, Cond.selects RX0 yX0_isChangeNotTakenBack yX0_isChangeNotTakenBack, Cond.code yX0_isChangeNotTakenBack cX0_isChangeNotTakenBack 4 (some .boolean), Cond.fieldLink RX0 40 "ChalkSlate" "lineTakenBackBy" "[I"]
def wsL_left : List Cond := .codeWith yL_left cL_left 4 (some .int) [(0, 9, 12, 19)] :: ((wsL_left_r1 ++ wsL_left_r2) ++ wsX00 ++ (vx_atS RX0 85 "java/lang/IndexOutOfBoundsException" ["java/lang/RuntimeException", "java/lang/Exception"]).filter goodWord)
def wsL_law0_r1 : List Cond := [Cond.classLink RL 8 RX0, Cond.instantiable RX0 15, Cond.initialized RX0, Cond.classLink RL 53 RX2, Cond.instantiable RX2 5, Cond.initialized RX2, Cond.arrayClass .long, Cond.methodLink RL 52 yX0_init, Cond.instanceMethod yX0_init, Cond.code yX0_init cX0_init 1 none, Cond.methodLink RX0 1 objectInit, Cond.instanceMethod objectInit, Cond.code objectInit ⟨#[0xb1]⟩ 1 none, Cond.arrayClass .int, Cond.fieldLink RX0 9 "ChalkSlate" "stove" "[I", Cond.fieldLink RX0 13 "ChalkSlate" "shelf" "[I", Cond.fieldLink RX0 16 "ChalkSlate" "stamp" "[I", Cond.fieldLink RX0 19 "ChalkSlate" "dishState" "[I", Cond.fieldLink RX0 22 "ChalkSlate" "lineDish" "[I", Cond.fieldLink RX0 25 "ChalkSlate" "lineKind" "[I", Cond.fieldLink RX0 28 "ChalkSlate" "linePot" "[I", Cond.fieldLink RX0 31 "ChalkSlate" "lineAhead" "[I", Cond.fieldLink RX0 34 "ChalkSlate" "lineBehind" "[I", Cond.fieldLink RX0 37 "ChalkSlate" "lineTakesBack" "[I"]
def wsL_law0_r2 : List Cond := [Cond.fieldLink RX0 40 "ChalkSlate" "lineTakenBackBy" "[I", Cond.methodLink RX0 43 yJ7_fill_53178, Cond.static yJ7_fill_53178, Cond.initialized RJ7, Cond.code yJ7_fill_53178 cJ7_fill_53178 4 none, Cond.methodLink RL 55 yX2_init, Cond.instanceMethod yX2_init, Cond.code yX2_init cX2_init 1 none, Cond.methodLink RX2 1 objectInit, Cond.classLink RX2 7 RX1, Cond.instantiable RX1 15, Cond.initialized RX1, Cond.fieldLink RX2 12 "ChalkSlateModel" "s" "LChalkSlateModel$State;", Cond.fieldLink RX2 18 "ChalkSlateModel" "then" "LChalkSlateModel$State;", Cond.methodLink RX2 9 yX1_init, Cond.instanceMethod yX1_init, Cond.code yX1_init cX1_init 3 none, Cond.fieldLink RX1 3 "ChalkSlateModel$State" "this$0" "LChalkSlateModel;", Cond.methodLink RX1 9 objectInit, Cond.fieldLink RX1 15 "ChalkSlateModel$State" "stove" "[I", Cond.fieldLink RX1 19 "ChalkSlateModel$State" "shelf" "[I", Cond.fieldLink RX1 22 "ChalkSlateModel$State" "stamp" "[I", Cond.fieldLink RX1 25 "ChalkSlateModel$State" "dish" "[I", Cond.fieldLink RX1 28 "ChalkSlateModel$State" "kind" "[I"]
def wsL_law0_r3 : List Cond := [Cond.fieldLink RX1 31 "ChalkSlateModel$State" "pot" "[I", Cond.fieldLink RX1 34 "ChalkSlateModel$State" "ahead" "[I", Cond.fieldLink RX1 37 "ChalkSlateModel$State" "behind" "[I", Cond.fieldLink RX1 40 "ChalkSlateModel$State" "takes" "[I", Cond.methodLink RL 56 yL_begin, Cond.static yL_begin, Cond.initialized RL, Cond.codeWith yL_begin cL_begin 3 (some .int) [(0, 8, 11, 13)], Cond.classLink RL 13 "java/lang/IllegalStateException", Cond.methodLink RL 7 yX0_begin, Cond.instanceMethod yX0_begin, Cond.selects RX0 yX0_begin yX0_begin, Cond.code yX0_begin cX0_begin 2 (some .int), Cond.classLink RX0 53 "java/lang/IllegalStateException", Cond.initialized "java/lang/IllegalStateException", Cond.fieldLink RX0 49 "ChalkSlate" "dishes" "I", Cond.methodLink RX0 60 yX0_roomLeft, Cond.instanceMethod yX0_roomLeft, Cond.selects RX0 yX0_roomLeft yX0_roomLeft, Cond.code yX0_roomLeft cX0_roomLeft 3 (some .int), Cond.fieldLink RX0 112 "ChalkSlate" "lines" "I", Cond.methodLink RX0 91 yX0_isOpen, Cond.instanceMethod yX0_isOpen, Cond.selects RX0 yX0_isOpen yX0_isOpen]
def wsL_law0_r4 : List Cond := [Cond.code yX0_isOpen cX0_isOpen 2 (some .boolean), Cond.methodLink RX0 102 yX0_at, Cond.static yX0_at, Cond.code yX0_at cX0_at 2 (some .int), Cond.methodLink RX0 141 yX0_isBelow, Cond.static yX0_isBelow, Cond.code yX0_isBelow cX0_isBelow 2 (some .boolean), Cond.methodLink RX0 204 yX0_changesNotTakenBack, Cond.instanceMethod yX0_changesNotTakenBack, Cond.selects RX0 yX0_changesNotTakenBack yX0_changesNotTakenBack, Cond.code yX0_changesNotTakenBack cX0_changesNotTakenBack 5 (some .int), Cond.methodLink RX0 219 yX0_isChangeNotTakenBack, Cond.instanceMethod yX0_isChangeNotTakenBack, Cond.selects RX0 yX0_isChangeNotTakenBack yX0_isChangeNotTakenBack, Cond.code yX0_isChangeNotTakenBack cX0_isChangeNotTakenBack 4 (some .boolean), Cond.methodLink RX0 66 yX0_put, Cond.static yX0_put, Cond.code yX0_put cX0_put 3 none, Cond.methodLink RX0 70 yX0_chalk, Cond.instanceMethod yX0_chalk, Cond.selects RX0 yX0_chalk yX0_chalk, Cond.code yX0_chalk cX0_chalk 3 none, Cond.methodLink RL 61 yX2_begin, Cond.instanceMethod yX2_begin]
def wsL_law0_r5 : List Cond := [Cond.selects RX2 yX2_begin yX2_begin, Cond.code yX2_begin cX2_begin 1 (some .int), Cond.fieldLink RX2 21 "ChalkSlateModel" "thrown" "I", Cond.fieldLink RX2 29 "ChalkSlateModel" "dishes" "I", Cond.methodLink RX2 32 yX1_room, Cond.instanceMethod yX1_room, Cond.selects RX1 yX1_room yX1_room, Cond.code yX1_room cX1_room 3 (some .int), Cond.fieldLink RX1 49 "ChalkSlateModel$State" "lines" "I", Cond.methodLink RX1 71 yX1_is, Cond.instanceMethod yX1_is, Cond.selects RX1 yX1_is yX1_is, Cond.code yX1_is cX1_is 4 (some .int), Cond.methodLink RX1 75 yX1_kept, Cond.instanceMethod yX1_kept, Cond.selects RX1 yX1_kept yX1_kept, Cond.code yX1_kept cX1_kept 4 (some .int), Cond.methodLink RX1 64 yX1_isKept, Cond.instanceMethod yX1_isKept, Cond.selects RX1 yX1_isKept yX1_isKept, Cond.code yX1_isKept cX1_isKept 3 (some .boolean), Cond.methodLink RX1 60 yX1_isTakenBack, Cond.instanceMethod yX1_isTakenBack, Cond.selects RX1 yX1_isTakenBack yX1_isTakenBack]
def wsL_law0_r6 : List Cond := [Cond.code yX1_isTakenBack cX1_isTakenBack 3 (some .boolean), Cond.methodLink RX2 36 yX2_no, Cond.instanceMethod yX2_no, Cond.selects RX2 yX2_no yX2_no, Cond.code yX2_no cX2_no 2 (some .int), Cond.methodLink RX2 40 yX1_chalk, Cond.instanceMethod yX1_chalk, Cond.selects RX1 yX1_chalk yX1_chalk, Cond.code yX1_chalk cX1_chalk 3 none, Cond.methodLink RL 62 yX2_thrown, Cond.instanceMethod yX2_thrown, Cond.selects RX2 yX2_thrown yX2_thrown, Cond.code yX2_thrown cX2_thrown 1 (some .int), Cond.methodLink RL 65 yL_cook, Cond.static yL_cook, Cond.codeWith yL_cook cL_cook 6 (some .int) [(0, 12, 15, 19), (0, 12, 19, 21), (0, 12, 23, 13)], Cond.classLink RL 19 "java/lang/IndexOutOfBoundsException", Cond.classLink RL 21 "java/lang/IllegalArgumentException", Cond.methodLink RL 15 yX0_cook, Cond.instanceMethod yX0_cook, Cond.selects RX0 yX0_cook yX0_cook, Cond.code yX0_cook cX0_cook 6 (some .int), Cond.classLink RX0 81 "java/lang/IndexOutOfBoundsException", Cond.initialized "java/lang/IndexOutOfBoundsException"]
def wsL_law0_r7 : List Cond := [Cond.classLink RX0 86 "java/lang/IllegalArgumentException", Cond.initialized "java/lang/IllegalArgumentException", Cond.methodLink RX0 74 yX0_isDish, Cond.instanceMethod yX0_isDish, Cond.selects RX0 yX0_isDish yX0_isDish, Cond.code yX0_isDish cX0_isDish 2 (some .boolean), Cond.methodLink RX0 78 yX0_isPot, Cond.static yX0_isPot, Cond.code yX0_isPot cX0_isPot 1 (some .boolean), Cond.methodLink RX0 96 yX0_holderOf, Cond.instanceMethod yX0_holderOf, Cond.selects RX0 yX0_holderOf yX0_holderOf, Cond.code yX0_holderOf cX0_holderOf 4 (some .int), Cond.methodLink RX0 106 yX0_chalkSpoons, Cond.instanceMethod yX0_chalkSpoons, Cond.selects RX0 yX0_chalkSpoons yX0_chalkSpoons, Cond.code yX0_chalkSpoons cX0_chalkSpoons 6 none, Cond.methodLink RL 68 yX2_cook, Cond.instanceMethod yX2_cook, Cond.selects RX2 yX2_cook yX2_cook, Cond.code yX2_cook cX2_cook 6 (some .int), Cond.methodLink RX2 44 yX2_isDish, Cond.instanceMethod yX2_isDish, Cond.selects RX2 yX2_isDish yX2_isDish]
def wsL_law0_r8 : List Cond := [Cond.code yX2_isDish cX2_isDish 2 (some .boolean), Cond.methodLink RX2 25 yX2_isIn, Cond.static yX2_isIn, Cond.code yX2_isIn cX2_isIn 3 (some .boolean), Cond.methodLink RX2 48 yX2_isPot, Cond.static yX2_isPot, Cond.code yX2_isPot cX2_isPot 1 (some .boolean), Cond.methodLink RX2 51 yX1_holder, Cond.instanceMethod yX1_holder, Cond.selects RX1 yX1_holder yX1_holder, Cond.code yX1_holder cX1_holder 3 (some .int), Cond.methodLink RX1 78 yX1_isHeld, Cond.instanceMethod yX1_isHeld, Cond.selects RX1 yX1_isHeld yX1_isHeld, Cond.code yX1_isHeld cX1_isHeld 5 (some .boolean), Cond.methodLink RX2 54 yX1_is, Cond.methodLink RX2 61 yX1_chalk_, Cond.instanceMethod yX1_chalk_, Cond.selects RX1 yX1_chalk_ yX1_chalk_, Cond.code yX1_chalk_ cX1_chalk_ 6 none, Cond.methodLink RX1 81 yX1_chalk, Cond.methodLink RL 69 yL_finish, Cond.static yL_finish, Cond.codeWith yL_finish cL_finish 4 (some .int) [(0, 9, 12, 19), (0, 9, 15, 13)]]
def wsL_law0_r9 : List Cond := [Cond.methodLink RL 23 yX0_finish, Cond.instanceMethod yX0_finish, Cond.selects RX0 yX0_finish yX0_finish, Cond.code yX0_finish cX0_finish 2 (some .int), Cond.methodLink RX0 115 yX0_dryUpTo, Cond.instanceMethod yX0_dryUpTo, Cond.selects RX0 yX0_dryUpTo yX0_dryUpTo, Cond.code yX0_dryUpTo cX0_dryUpTo 3 (some .int), Cond.fieldLink RX0 166 "ChalkSlate" "dryLines" "I", Cond.methodLink RX0 227 Lib.Math.max.name, Cond.static Lib.Math.max.name, Cond.initialized "java/lang/Math", Cond.code Lib.Math.max.name Lib.Math.max.code 2 (some .int), Cond.methodLink RL 72 yX2_finish, Cond.instanceMethod yX2_finish, Cond.selects RX2 yX2_finish yX2_finish, Cond.code yX2_finish cX2_finish 2 (some .int), Cond.methodLink RX2 67 yX1_dries, Cond.instanceMethod yX1_dries, Cond.selects RX1 yX1_dries yX1_dries, Cond.code yX1_dries cX1_dries 3 (some .int), Cond.fieldLink RX1 53 "ChalkSlateModel$State" "dry" "I", Cond.methodLink RX1 88 Lib.Math.max.name, Cond.methodLink RL 73 yL_drop]
def wsL_law0_r10 : List Cond := [Cond.static yL_drop, Cond.codeWith yL_drop cL_drop 4 (some .int) [(0, 9, 12, 19), (0, 9, 15, 13)], Cond.methodLink RL 27 yX0_drop, Cond.instanceMethod yX0_drop, Cond.selects RX0 yX0_drop yX0_drop, Cond.code yX0_drop cX0_drop 2 (some .int), Cond.methodLink RX0 118 yX0_undo, Cond.instanceMethod yX0_undo, Cond.selects RX0 yX0_undo yX0_undo, Cond.code yX0_undo cX0_undo 4 (some .int), Cond.methodLink RX0 223 yX0_takeBack, Cond.instanceMethod yX0_takeBack, Cond.selects RX0 yX0_takeBack yX0_takeBack, Cond.code yX0_takeBack cX0_takeBack 3 none, Cond.methodLink RL 75 yX2_drop, Cond.instanceMethod yX2_drop, Cond.selects RX2 yX2_drop yX2_drop, Cond.code yX2_drop cX2_drop 2 (some .int), Cond.methodLink RX2 70 yX1_undo, Cond.instanceMethod yX1_undo, Cond.selects RX1 yX1_undo yX1_undo, Cond.code yX1_undo cX1_undo 4 (some .int), Cond.methodLink RX1 85 yX1_chalk_, Cond.methodLink RL 76 yL_shelve]
def wsL_law0_r11 : List Cond := [Cond.static yL_shelve, Cond.codeWith yL_shelve cL_shelve 4 (some .int) [(0, 9, 12, 19)], Cond.methodLink RL 30 yX0_shelve, Cond.instanceMethod yX0_shelve, Cond.selects RX0 yX0_shelve yX0_shelve, Cond.code yX0_shelve cX0_shelve 4 (some .int), Cond.methodLink RX0 123 yX0_latestLineOf, Cond.instanceMethod yX0_latestLineOf, Cond.selects RX0 yX0_latestLineOf yX0_latestLineOf, Cond.code yX0_latestLineOf cX0_latestLineOf 3 (some .int), Cond.methodLink RL 78 yX2_shelve, Cond.instanceMethod yX2_shelve, Cond.selects RX2 yX2_shelve yX2_shelve, Cond.code yX2_shelve cX2_shelve 3 (some .int), Cond.methodLink RX2 73 yX1_latest, Cond.instanceMethod yX1_latest, Cond.selects RX1 yX1_latest yX1_latest, Cond.code yX1_latest cX1_latest 4 (some .int), Cond.methodLink RL 79 yX0_blow, Cond.instanceMethod yX0_blow, Cond.selects RX0 yX0_blow yX0_blow, Cond.code yX0_blow cX0_blow 1 (some .int), Cond.methodLink RL 82 yX2_blow, Cond.instanceMethod yX2_blow]
def wsL_law0_r12 : List Cond := [Cond.selects RX2 yX2_blow yX2_blow, Cond.code yX2_blow cX2_blow 1 (some .int), Cond.methodLink RL 83 yX0_fall, Cond.instanceMethod yX0_fall, Cond.selects RX0 yX0_fall yX0_fall, Cond.code yX0_fall cX0_fall 3 (some .int), Cond.methodLink RX0 129 arraycopyName, Cond.native arraycopyName, Cond.static arraycopyName, Cond.initialized "java/lang/System", Cond.fieldLink RX0 138 "ChalkSlate" "falls" "I", Cond.methodLink RX0 126 yX0_wipeWhatIsNotDry, Cond.instanceMethod yX0_wipeWhatIsNotDry, Cond.selects RX0 yX0_wipeWhatIsNotDry yX0_wipeWhatIsNotDry, Cond.code yX0_wipeWhatIsNotDry cX0_wipeWhatIsNotDry 2 none, Cond.methodLink RX0 184 yX0_stateByLines, Cond.instanceMethod yX0_stateByLines, Cond.selects RX0 yX0_stateByLines yX0_stateByLines, Cond.code yX0_stateByLines cX0_stateByLines 5 (some .int), Cond.methodLink RX0 216 yX0_stateAfter, Cond.static yX0_stateAfter, Cond.code yX0_stateAfter cX0_stateAfter 2 (some .int), Cond.methodLink RX0 135 yX0_doAnew, Cond.instanceMethod yX0_doAnew]
def wsL_law0_r13 : List Cond := [Cond.selects RX0 yX0_doAnew yX0_doAnew, Cond.code yX0_doAnew cX0_doAnew 3 (some .int), Cond.methodLink RX0 181 yX0_isToDoAnew, Cond.instanceMethod yX0_isToDoAnew, Cond.selects RX0 yX0_isToDoAnew yX0_isToDoAnew, Cond.code yX0_isToDoAnew cX0_isToDoAnew 3 (some .boolean), Cond.methodLink RL 86 yX2_fall, Cond.instanceMethod yX2_fall, Cond.selects RX2 yX2_fall yX2_fall, Cond.code yX2_fall cX2_fall 1 (some .int), Cond.fieldLink RX2 85 "ChalkSlateModel" "falls" "I", Cond.methodLink RX2 82 yX1_fall, Cond.instanceMethod yX1_fall, Cond.selects RX1 yX1_fall yX1_fall, Cond.code yX1_fall cX1_fall 2 none, Cond.fieldLink RX1 94 "ChalkSlateModel$State" "anew" "I", Cond.fieldLink RX1 97 "ChalkSlateModel$State" "first" "I", Cond.fieldLink RX1 100 "ChalkSlateModel$State" "back" "I", Cond.methodLink RX1 103 yX1_undo, Cond.methodLink RL 87 yL_pot, Cond.static yL_pot, Cond.codeWith yL_pot cL_pot 5 (some .int) [(0, 10, 13, 19)], Cond.methodLink RL 33 yX0_pot, Cond.instanceMethod yX0_pot]
def wsL_law0_r14 : List Cond := [Cond.selects RX0 yX0_pot yX0_pot, Cond.code yX0_pot cX0_pot 3 (some .int), Cond.methodLink RX0 147 yX0_potAnswer, Cond.instanceMethod yX0_potAnswer, Cond.selects RX0 yX0_potAnswer yX0_potAnswer, Cond.code yX0_potAnswer cX0_potAnswer 3 (some .int), Cond.methodLink RL 90 yX2_pot, Cond.instanceMethod yX2_pot, Cond.selects RX2 yX2_pot yX2_pot, Cond.code yX2_pot cX2_pot 3 (some .int), Cond.methodLink RX2 91 yX2_potTold, Cond.instanceMethod yX2_potTold, Cond.selects RX2 yX2_potTold yX2_potTold, Cond.code yX2_potTold cX2_potTold 4 (some .int), Cond.methodLink RL 91 yL_dish, Cond.static yL_dish, Cond.codeWith yL_dish cL_dish 5 (some .int) [(0, 10, 13, 19)], Cond.methodLink RL 37 yX0_dish, Cond.instanceMethod yX0_dish, Cond.selects RX0 yX0_dish yX0_dish, Cond.code yX0_dish cX0_dish 3 (some .int), Cond.methodLink RX0 153 yX0_dishAnswer, Cond.instanceMethod yX0_dishAnswer, Cond.selects RX0 yX0_dishAnswer yX0_dishAnswer]
def wsL_law0_r15 : List Cond := [Cond.code yX0_dishAnswer cX0_dishAnswer 3 (some .int), Cond.methodLink RX0 201 yX0_linesOf, Cond.instanceMethod yX0_linesOf, Cond.selects RX0 yX0_linesOf yX0_linesOf, Cond.code yX0_linesOf cX0_linesOf 4 (some .int), Cond.methodLink RX0 207 yX0_potsHeldBy, Cond.instanceMethod yX0_potsHeldBy, Cond.selects RX0 yX0_potsHeldBy yX0_potsHeldBy, Cond.code yX0_potsHeldBy cX0_potsHeldBy 4 (some .int), Cond.methodLink RX0 210 yX0_lastLineOf, Cond.instanceMethod yX0_lastLineOf, Cond.selects RX0 yX0_lastLineOf yX0_lastLineOf, Cond.code yX0_lastLineOf cX0_lastLineOf 3 (some .int), Cond.methodLink RL 93 yX2_dish, Cond.instanceMethod yX2_dish, Cond.selects RX2 yX2_dish yX2_dish, Cond.code yX2_dish cX2_dish 3 (some .int), Cond.methodLink RX2 105 yX2_dishTold, Cond.instanceMethod yX2_dishTold, Cond.selects RX2 yX2_dishTold yX2_dishTold, Cond.code yX2_dishTold cX2_dishTold 7 (some .int), Cond.methodLink RX2 98 yX1_isHeld, Cond.methodLink RX2 102 yX1_kept, Cond.methodLink RL 94 yL_line]
def wsL_law0_r16 : List Cond := [Cond.static yL_line, Cond.codeWith yL_line cL_line 5 (some .int) [(0, 10, 13, 19)], Cond.methodLink RL 40 yX0_line, Cond.instanceMethod yX0_line, Cond.selects RX0 yX0_line yX0_line, Cond.code yX0_line cX0_line 3 (some .int), Cond.methodLink RX0 158 yX0_lineAnswer, Cond.instanceMethod yX0_lineAnswer, Cond.selects RX0 yX0_lineAnswer yX0_lineAnswer, Cond.code yX0_lineAnswer cX0_lineAnswer 3 (some .int), Cond.methodLink RL 96 yX2_line, Cond.instanceMethod yX2_line, Cond.selects RX2 yX2_line yX2_line, Cond.code yX2_line cX2_line 3 (some .int), Cond.methodLink RX2 126 yX2_lineTold, Cond.instanceMethod yX2_lineTold, Cond.selects RX2 yX2_lineTold yX2_lineTold, Cond.code yX2_lineTold cX2_lineTold 4 (some .int), Cond.methodLink RL 97 yL_count, Cond.static yL_count, Cond.codeWith yL_count cL_count 4 (some .int) [(0, 9, 12, 19)], Cond.methodLink RL 43 yX0_count, Cond.instanceMethod yX0_count, Cond.selects RX0 yX0_count yX0_count]
def wsL_law0_r17 : List Cond := [Cond.code yX0_count cX0_count 2 (some .int), Cond.methodLink RX0 163 yX0_countAnswer, Cond.instanceMethod yX0_countAnswer, Cond.selects RX0 yX0_countAnswer yX0_countAnswer, Cond.code yX0_countAnswer cX0_countAnswer 2 (some .int), Cond.methodLink RX0 213 yX0_dishesThatAre, Cond.instanceMethod yX0_dishesThatAre, Cond.selects RX0 yX0_dishesThatAre yX0_dishesThatAre, Cond.code yX0_dishesThatAre cX0_dishesThatAre 4 (some .int), Cond.methodLink RX0 191 yX0_sumOf, Cond.static yX0_sumOf, Cond.code yX0_sumOf cX0_sumOf 3 (some .int), Cond.methodLink RL 99 yX2_count, Cond.instanceMethod yX2_count, Cond.selects RX2 yX2_count yX2_count, Cond.code yX2_count cX2_count 2 (some .int), Cond.methodLink RX2 136 yX2_counted, Cond.instanceMethod yX2_counted, Cond.selects RX2 yX2_counted yX2_counted, Cond.code yX2_counted cX2_counted 2 (some .int), Cond.methodLink RX2 129 yX1_are, Cond.instanceMethod yX1_are, Cond.selects RX1 yX1_are yX1_are, Cond.code yX1_are cX1_are 4 (some .int)]
def wsL_law0_r18 : List Cond := [Cond.methodLink RX2 132 yX1_sum, Cond.instanceMethod yX1_sum, Cond.selects RX1 yX1_sum yX1_sum, Cond.code yX1_sum cX1_sum 7 (some .int), Cond.methodLink RL 100 yL_would, Cond.static yL_would, Cond.codeWith yL_would cL_would 4 (some .int) [(0, 9, 12, 19)], Cond.methodLink RL 46 yX0_would, Cond.instanceMethod yX0_would, Cond.selects RX0 yX0_would yX0_would, Cond.code yX0_would cX0_would 2 (some .int), Cond.methodLink RX0 169 yX0_linesToDoAnew, Cond.instanceMethod yX0_linesToDoAnew, Cond.selects RX0 yX0_linesToDoAnew yX0_linesToDoAnew, Cond.code yX0_linesToDoAnew cX0_linesToDoAnew 3 (some .int), Cond.methodLink RX0 172 yX0_linesToTakeBack, Cond.instanceMethod yX0_linesToTakeBack, Cond.selects RX0 yX0_linesToTakeBack yX0_linesToTakeBack, Cond.code yX0_linesToTakeBack cX0_linesToTakeBack 3 (some .int), Cond.methodLink RX0 175 yX0_firstLineToDoAnew, Cond.instanceMethod yX0_firstLineToDoAnew, Cond.selects RX0 yX0_firstLineToDoAnew yX0_firstLineToDoAnew, Cond.code yX0_firstLineToDoAnew cX0_firstLineToDoAnew 2 (some .int), Cond.methodLink RX0 178 yX0_dishesToForget]
def wsL_law0_r19 : List Cond := [Cond.instanceMethod yX0_dishesToForget, Cond.selects RX0 yX0_dishesToForget yX0_dishesToForget, Cond.code yX0_dishesToForget cX0_dishesToForget 4 (some .int), Cond.methodLink RL 102 yX2_would, Cond.instanceMethod yX2_would, Cond.selects RX2 yX2_would yX2_would, Cond.code yX2_would cX2_would 3 (some .int), Cond.methodLink RX2 139 yX1_become, Cond.instanceMethod yX1_become, Cond.selects RX1 yX1_become yX1_become, Cond.code yX1_become cX1_become 2 none, Cond.methodLink RX1 56 yX1_copy, Cond.instanceMethod yX1_copy, Cond.selects RX1 yX1_copy yX1_copy, Cond.code yX1_copy cX1_copy 3 none, Cond.methodLink RX1 43 arraycopyName, Cond.methodLink RL 103 yL_left, Cond.static yL_left, Cond.codeWith yL_left cL_left 4 (some .int) [(0, 9, 12, 19)], Cond.methodLink RL 49 yX0_left, Cond.instanceMethod yX0_left, Cond.selects RX0 yX0_left yX0_left, Cond.code yX0_left cX0_left 4 (some .int), Cond.methodLink RX0 187 yX0_spoonsAfterUndoing]
def wsL_law0_r20 : List Cond := [Cond.instanceMethod yX0_spoonsAfterUndoing, Cond.selects RX0 yX0_spoonsAfterUndoing yX0_spoonsAfterUndoing, Cond.code yX0_spoonsAfterUndoing cX0_spoonsAfterUndoing 6 (some .int), Cond.methodLink RL 105 yX2_left, Cond.instanceMethod yX2_left, Cond.selects RX2 yX2_left yX2_left, Cond.code yX2_left cX2_left 2 (some .int), Cond.methodLink RL 106 yX0_mean, Cond.instanceMethod yX0_mean, Cond.selects RX0 yX0_mean yX0_mean, Cond.code yX0_mean cX0_mean 1 (some .double), Cond.constantDouble RX0 195 (4620693217682128896), Cond.methodLink RL 110 yX2_mean, Cond.instanceMethod yX2_mean, Cond.selects RX2 yX2_mean yX2_mean, Cond.code yX2_mean cX2_mean 1 (some .double), Cond.constantDouble RX2 149 (4620693217682128896), Cond.methodLink RL 111 yX0_digest, Cond.instanceMethod yX0_digest, Cond.selects RX0 yX0_digest yX0_digest, Cond.code yX0_digest cX0_digest 5 (some .long), Cond.constantLong RX0 197 (1291), Cond.constantLong RX0 199 (31), Cond.methodLink RL 115 yX2_digest]
def wsL_law0_r21 : List Cond := [Cond.instanceMethod yX2_digest, Cond.selects RX2 yX2_digest yX2_digest, Cond.code yX2_digest cX2_digest 5 (some .long), Cond.constantLong RX2 151 (1291), Cond.constantLong RX2 153 (31)]
def wsL_law0 : List Cond := (wsL_law0_r1 ++ (wsL_law0_r2 ++ (wsL_law0_r3 ++ (wsL_law0_r4 ++ (wsL_law0_r5 ++ (wsL_law0_r6 ++ (wsL_law0_r7 ++ (wsL_law0_r8 ++ (wsL_law0_r9 ++ (wsL_law0_r10 ++ (wsL_law0_r11 ++ (wsL_law0_r12 ++ (wsL_law0_r13 ++ (wsL_law0_r14 ++ (wsL_law0_r15 ++ (wsL_law0_r16 ++ (wsL_law0_r17 ++ (wsL_law0_r18 ++ (wsL_law0_r19 ++ (wsL_law0_r20 ++ wsL_law0_r21)))))))))))))))))))) ++ wsX00 ++ wsX20 ++ wsX10 ++ ([] : List Cond)
def wsL_law : List Cond := wsL_law0 ++ (vx_atS RX0 57 "java/lang/IllegalStateException" ["java/lang/RuntimeException", "java/lang/Exception"]).filter goodWord ++ (vx_atS RX0 85 "java/lang/IndexOutOfBoundsException" ["java/lang/RuntimeException", "java/lang/Exception"]).filter goodWord ++ (vx_atS RX0 90 "java/lang/IllegalArgumentException" ["java/lang/RuntimeException", "java/lang/Exception"]).filter goodWord
end
section
set_option maxRecDepth 20000 in
theorem ggX0_init_J7_fill_53178 : GoodIn wsX0_init wsJ7_fill_53178 := goodIn_r _ [19] (by decide +kernel) (by decide +kernel)
set_option maxRecDepth 20000 in
theorem gX0_init_J7_fill_53178 : GoodIn wsX0_init (va_wsS RX0 43 yJ7_fill_53178 wsJ7_fill_53178) := goodIn_app (goodIn_of _ (by decide +kernel)) ggX0_init_J7_fill_53178
theorem dX0_init_0 : decode cX0_init 0 = .ok (.aload_n 0, 1) := by decide +kernel
theorem dX0_init_1 : decode cX0_init 1 = .ok (.invokespecial 1, 3) := by decide +kernel
theorem dX0_init_4 : decode cX0_init 4 = .ok (.aload_n 0, 1) := by decide +kernel
theorem dX0_init_5 : decode cX0_init 5 = .ok (.bipush 8, 2) := by decide +kernel
theorem dX0_init_7 : decode cX0_init 7 = .ok (.newarray .int, 2) := by decide +kernel
theorem dX0_init_9 : decode cX0_init 9 = .ok (.putfield 9, 3) := by decide +kernel
theorem dX0_init_12 : decode cX0_init 12 = .ok (.aload_n 0, 1) := by decide +kernel
theorem dX0_init_13 : decode cX0_init 13 = .ok (.bipush 8, 2) := by decide +kernel
theorem dX0_init_15 : decode cX0_init 15 = .ok (.newarray .int, 2) := by decide +kernel
theorem dX0_init_17 : decode cX0_init 17 = .ok (.putfield 13, 3) := by decide +kernel
theorem dX0_init_20 : decode cX0_init 20 = .ok (.aload_n 0, 1) := by decide +kernel
theorem dX0_init_21 : decode cX0_init 21 = .ok (.bipush 8, 2) := by decide +kernel
theorem dX0_init_23 : decode cX0_init 23 = .ok (.newarray .int, 2) := by decide +kernel
theorem dX0_init_25 : decode cX0_init 25 = .ok (.putfield 16, 3) := by decide +kernel
theorem dX0_init_28 : decode cX0_init 28 = .ok (.aload_n 0, 1) := by decide +kernel
theorem dX0_init_29 : decode cX0_init 29 = .ok (.bipush 20, 2) := by decide +kernel
theorem dX0_init_31 : decode cX0_init 31 = .ok (.newarray .int, 2) := by decide +kernel
theorem dX0_init_33 : decode cX0_init 33 = .ok (.putfield 19, 3) := by decide +kernel
theorem dX0_init_36 : decode cX0_init 36 = .ok (.aload_n 0, 1) := by decide +kernel
theorem dX0_init_37 : decode cX0_init 37 = .ok (.bipush 120, 2) := by decide +kernel
theorem dX0_init_39 : decode cX0_init 39 = .ok (.newarray .int, 2) := by decide +kernel
theorem dX0_init_41 : decode cX0_init 41 = .ok (.putfield 22, 3) := by decide +kernel
theorem dX0_init_44 : decode cX0_init 44 = .ok (.aload_n 0, 1) := by decide +kernel
theorem dX0_init_45 : decode cX0_init 45 = .ok (.bipush 120, 2) := by decide +kernel
theorem dX0_init_47 : decode cX0_init 47 = .ok (.newarray .int, 2) := by decide +kernel
theorem dX0_init_49 : decode cX0_init 49 = .ok (.putfield 25, 3) := by decide +kernel
theorem dX0_init_52 : decode cX0_init 52 = .ok (.aload_n 0, 1) := by decide +kernel
theorem dX0_init_53 : decode cX0_init 53 = .ok (.bipush 120, 2) := by decide +kernel
theorem dX0_init_55 : decode cX0_init 55 = .ok (.newarray .int, 2) := by decide +kernel
theorem dX0_init_57 : decode cX0_init 57 = .ok (.putfield 28, 3) := by decide +kernel
theorem dX0_init_60 : decode cX0_init 60 = .ok (.aload_n 0, 1) := by decide +kernel
theorem dX0_init_61 : decode cX0_init 61 = .ok (.bipush 120, 2) := by decide +kernel
theorem dX0_init_63 : decode cX0_init 63 = .ok (.newarray .int, 2) := by decide +kernel
theorem dX0_init_65 : decode cX0_init 65 = .ok (.putfield 31, 3) := by decide +kernel
theorem dX0_init_68 : decode cX0_init 68 = .ok (.aload_n 0, 1) := by decide +kernel
theorem dX0_init_69 : decode cX0_init 69 = .ok (.bipush 120, 2) := by decide +kernel
theorem dX0_init_71 : decode cX0_init 71 = .ok (.newarray .int, 2) := by decide +kernel
theorem dX0_init_73 : decode cX0_init 73 = .ok (.putfield 34, 3) := by decide +kernel
theorem dX0_init_76 : decode cX0_init 76 = .ok (.aload_n 0, 1) := by decide +kernel
theorem dX0_init_77 : decode cX0_init 77 = .ok (.bipush 120, 2) := by decide +kernel
theorem dX0_init_79 : decode cX0_init 79 = .ok (.newarray .int, 2) := by decide +kernel
theorem dX0_init_81 : decode cX0_init 81 = .ok (.putfield 37, 3) := by decide +kernel
theorem dX0_init_84 : decode cX0_init 84 = .ok (.aload_n 0, 1) := by decide +kernel
theorem dX0_init_85 : decode cX0_init 85 = .ok (.bipush 120, 2) := by decide +kernel
theorem dX0_init_87 : decode cX0_init 87 = .ok (.newarray .int, 2) := by decide +kernel
theorem dX0_init_89 : decode cX0_init 89 = .ok (.putfield 40, 3) := by decide +kernel
theorem dX0_init_92 : decode cX0_init 92 = .ok (.aload_n 0, 1) := by decide +kernel
theorem dX0_init_93 : decode cX0_init 93 = .ok (.getfield 16, 3) := by decide +kernel
theorem dX0_init_96 : decode cX0_init 96 = .ok (.iconst (-1), 1) := by decide +kernel
theorem dX0_init_97 : decode cX0_init 97 = .ok (.invokestatic 43, 3) := by decide +kernel
theorem dX0_init_100 : decode cX0_init 100 = .ok (.return_, 1) := by decide +kernel
set_option maxRecDepth 20000 in
theorem ggX0_begin_X0_roomLeft : GoodIn wsX0_begin wsX0_roomLeft := goodIn_r _ [9, 10, 3, 11, 12, 13, 8, 14, 4, 15, 16, 17, 18, 19, 20, 21, 22, 23, 24, 25, 26, 27, 28, 29, 30, 31, 43, 44, 45, 46, 47, 48, 49, 50, 51, 52, 53, 54, 55, 56, 57] (by decide +kernel) (by decide +kernel)
set_option maxRecDepth 20000 in
theorem gX0_begin_X0_roomLeft : GoodIn wsX0_begin (wsV RX0 60 RX0 yX0_roomLeft wsX0_roomLeft) := goodIn_app (goodIn_of _ (by decide +kernel)) ggX0_begin_X0_roomLeft
set_option maxRecDepth 20000 in
theorem ggX0_begin_X0_put : GoodIn wsX0_begin wsX0_put := goodIn_r _ [34, 18, 19, 8, 20] (by decide +kernel) (by decide +kernel)
set_option maxRecDepth 20000 in
theorem gX0_begin_X0_put : GoodIn wsX0_begin (va_wsS RX0 66 yX0_put wsX0_put) := goodIn_app (goodIn_of _ (by decide +kernel)) ggX0_begin_X0_put
set_option maxRecDepth 20000 in
theorem ggX0_begin_X0_chalk : GoodIn wsX0_begin wsX0_chalk := goodIn_r _ [38, 29, 10, 30, 39, 40, 41, 42, 31, 32, 33, 8, 34, 18, 19, 20, 43, 44, 45, 46, 47, 48, 49, 50, 51, 52, 53, 54, 55, 56, 57] (by decide +kernel) (by decide +kernel)
set_option maxRecDepth 20000 in
theorem gX0_begin_X0_chalk : GoodIn wsX0_begin (wsV RX0 70 RX0 yX0_chalk wsX0_chalk) := goodIn_app (goodIn_of _ (by decide +kernel)) ggX0_begin_X0_chalk
theorem dX0_begin_0 : decode cX0_begin 0 = .ok (.aload_n 0, 1) := by decide +kernel
theorem dX0_begin_1 : decode cX0_begin 1 = .ok (.getfield 49, 3) := by decide +kernel
theorem dX0_begin_4 : decode cX0_begin 4 = .ok (.bipush 20, 2) := by decide +kernel
theorem dX0_begin_6 : decode cX0_begin 6 = .ok (.if_icmp .lt 13, 3) := by decide +kernel
theorem dX0_begin_9 : decode cX0_begin 9 = .ok (.new 53, 3) := by decide +kernel
theorem dX0_begin_12 : decode cX0_begin 12 = .ok (.dup, 1) := by decide +kernel
theorem dX0_begin_13 : decode cX0_begin 13 = .ok (.ldc 55, 2) := by decide +kernel
theorem dX0_begin_15 : decode cX0_begin 15 = .ok (.invokespecial 57, 3) := by decide +kernel
theorem dX0_begin_18 : decode cX0_begin 18 = .ok (.athrow, 1) := by decide +kernel
theorem dX0_begin_19 : decode cX0_begin 19 = .ok (.aload_n 0, 1) := by decide +kernel
theorem dX0_begin_20 : decode cX0_begin 20 = .ok (.invokevirtual 60, 3) := by decide +kernel
theorem dX0_begin_23 : decode cX0_begin 23 = .ok (.iconst 2, 1) := by decide +kernel
theorem dX0_begin_24 : decode cX0_begin 24 = .ok (.if_icmp .ge 13, 3) := by decide +kernel
theorem dX0_begin_27 : decode cX0_begin 27 = .ok (.new 53, 3) := by decide +kernel
theorem dX0_begin_30 : decode cX0_begin 30 = .ok (.dup, 1) := by decide +kernel
theorem dX0_begin_31 : decode cX0_begin 31 = .ok (.ldc 64, 2) := by decide +kernel
theorem dX0_begin_33 : decode cX0_begin 33 = .ok (.invokespecial 57, 3) := by decide +kernel
theorem dX0_begin_36 : decode cX0_begin 36 = .ok (.athrow, 1) := by decide +kernel
theorem dX0_begin_37 : decode cX0_begin 37 = .ok (.aload_n 0, 1) := by decide +kernel
theorem dX0_begin_38 : decode cX0_begin 38 = .ok (.getfield 49, 3) := by decide +kernel
theorem dX0_begin_41 : decode cX0_begin 41 = .ok (.istore_n 1, 1) := by decide +kernel
theorem dX0_begin_42 : decode cX0_begin 42 = .ok (.aload_n 0, 1) := by decide +kernel
theorem dX0_begin_43 : decode cX0_begin 43 = .ok (.dup, 1) := by decide +kernel
theorem dX0_begin_44 : decode cX0_begin 44 = .ok (.getfield 49, 3) := by decide +kernel
theorem dX0_begin_47 : decode cX0_begin 47 = .ok (.iconst 1, 1) := by decide +kernel
theorem dX0_begin_48 : decode cX0_begin 48 = .ok (.iadd, 1) := by decide +kernel
theorem dX0_begin_49 : decode cX0_begin 49 = .ok (.putfield 49, 3) := by decide +kernel
theorem dX0_begin_52 : decode cX0_begin 52 = .ok (.aload_n 0, 1) := by decide +kernel
theorem dX0_begin_53 : decode cX0_begin 53 = .ok (.getfield 19, 3) := by decide +kernel
theorem dX0_begin_56 : decode cX0_begin 56 = .ok (.iload_n 1, 1) := by decide +kernel
theorem dX0_begin_57 : decode cX0_begin 57 = .ok (.iconst 0, 1) := by decide +kernel
theorem dX0_begin_58 : decode cX0_begin 58 = .ok (.invokestatic 66, 3) := by decide +kernel
theorem dX0_begin_61 : decode cX0_begin 61 = .ok (.aload_n 0, 1) := by decide +kernel
theorem dX0_begin_62 : decode cX0_begin 62 = .ok (.iload_n 1, 1) := by decide +kernel
theorem dX0_begin_63 : decode cX0_begin 63 = .ok (.iconst 0, 1) := by decide +kernel
theorem dX0_begin_64 : decode cX0_begin 64 = .ok (.invokevirtual 70, 3) := by decide +kernel
theorem dX0_begin_67 : decode cX0_begin 67 = .ok (.iload_n 1, 1) := by decide +kernel
theorem dX0_begin_68 : decode cX0_begin 68 = .ok (.ireturn, 1) := by decide +kernel
set_option maxRecDepth 20000 in
theorem ggX0_cook_X0_isDish : GoodIn wsX0_cook wsX0_isDish := goodIn_r _ [12, 13, 14, 15, 11, 16, 63, 64, 65, 66, 67, 68, 69, 70, 71, 72, 73, 74, 75, 76, 77] (by decide +kernel) (by decide +kernel)
set_option maxRecDepth 20000 in
theorem gX0_cook_X0_isDish : GoodIn wsX0_cook (wsV RX0 74 RX0 yX0_isDish wsX0_isDish) := goodIn_app (goodIn_of _ (by decide +kernel)) ggX0_cook_X0_isDish
set_option maxRecDepth 20000 in
theorem ggX0_cook_X0_isPot : GoodIn wsX0_cook wsX0_isPot := goodIn_r _ [19, 14, 15, 11, 16] (by decide +kernel) (by decide +kernel)
set_option maxRecDepth 20000 in
theorem gX0_cook_X0_isPot : GoodIn wsX0_cook (va_wsS RX0 78 yX0_isPot wsX0_isPot) := goodIn_app (goodIn_of _ (by decide +kernel)) ggX0_cook_X0_isPot
set_option maxRecDepth 20000 in
theorem ggX0_cook_X0_isOpen : GoodIn wsX0_cook wsX0_isOpen := goodIn_r _ [23, 24, 25, 26, 11, 27, 14, 15, 16, 63, 64, 65, 66, 67, 68, 69, 70, 71, 72, 73, 74, 75, 76, 77] (by decide +kernel) (by decide +kernel)
set_option maxRecDepth 20000 in
theorem gX0_cook_X0_isOpen : GoodIn wsX0_cook (wsV RX0 91 RX0 yX0_isOpen wsX0_isOpen) := goodIn_app (goodIn_of _ (by decide +kernel)) ggX0_cook_X0_isOpen
set_option maxRecDepth 20000 in
theorem ggX0_cook_X0_holderOf : GoodIn wsX0_cook wsX0_holderOf := goodIn_r _ [31, 32, 33, 34, 35, 25, 26, 11, 27, 14, 15, 16, 20, 21, 22, 23, 24, 63, 64, 65, 66, 67, 68, 69, 70, 71, 72, 73, 74, 75, 76, 77] (by decide +kernel) (by decide +kernel)
set_option maxRecDepth 20000 in
theorem gX0_cook_X0_holderOf : GoodIn wsX0_cook (wsV RX0 96 RX0 yX0_holderOf wsX0_holderOf) := goodIn_app (goodIn_of _ (by decide +kernel)) ggX0_cook_X0_holderOf
set_option maxRecDepth 20000 in
theorem ggX0_cook_X0_roomLeft : GoodIn wsX0_cook wsX0_roomLeft := goodIn_r _ [39, 32, 13, 20, 21, 22, 11, 23, 24, 25, 26, 27, 14, 15, 16, 40, 41, 42, 43, 44, 45, 46, 47, 33, 34, 48, 63, 64, 65, 66, 67, 68, 69, 70, 71, 72, 73, 74, 75, 76, 77] (by decide +kernel) (by decide +kernel)
set_option maxRecDepth 20000 in
theorem gX0_cook_X0_roomLeft : GoodIn wsX0_cook (wsV RX0 60 RX0 yX0_roomLeft wsX0_roomLeft) := goodIn_app (goodIn_of _ (by decide +kernel)) ggX0_cook_X0_roomLeft
set_option maxRecDepth 20000 in
theorem ggX0_cook_X0_at : GoodIn wsX0_cook wsX0_at := goodIn_r _ [27, 14, 15, 11, 16] (by decide +kernel) (by decide +kernel)
set_option maxRecDepth 20000 in
theorem gX0_cook_X0_at : GoodIn wsX0_cook (va_wsS RX0 102 yX0_at wsX0_at) := goodIn_app (goodIn_of _ (by decide +kernel)) ggX0_cook_X0_at
set_option maxRecDepth 20000 in
theorem ggX0_cook_X0_chalkSpoons : GoodIn wsX0_cook wsX0_chalkSpoons := goodIn_r _ [52, 32, 35, 53, 7, 54, 55, 56, 57, 11, 58, 33, 34, 59, 48, 60, 61, 62, 14, 15, 16, 25, 26, 27, 63, 64, 65, 66, 67, 68, 69, 70, 71, 72, 73, 74, 75, 76, 77] (by decide +kernel) (by decide +kernel)
set_option maxRecDepth 20000 in
theorem gX0_cook_X0_chalkSpoons : GoodIn wsX0_cook (wsV RX0 106 RX0 yX0_chalkSpoons wsX0_chalkSpoons) := goodIn_app (goodIn_of _ (by decide +kernel)) ggX0_cook_X0_chalkSpoons
theorem dX0_cook_0 : decode cX0_cook 0 = .ok (.aload_n 0, 1) := by decide +kernel
theorem dX0_cook_1 : decode cX0_cook 1 = .ok (.iload_n 1, 1) := by decide +kernel
theorem dX0_cook_2 : decode cX0_cook 2 = .ok (.invokevirtual 74, 3) := by decide +kernel
theorem dX0_cook_5 : decode cX0_cook 5 = .ok (.ifCond .eq 10, 3) := by decide +kernel
theorem dX0_cook_8 : decode cX0_cook 8 = .ok (.iload_n 2, 1) := by decide +kernel
theorem dX0_cook_9 : decode cX0_cook 9 = .ok (.invokestatic 78, 3) := by decide +kernel
theorem dX0_cook_12 : decode cX0_cook 12 = .ok (.ifCond .ne 13, 3) := by decide +kernel
theorem dX0_cook_15 : decode cX0_cook 15 = .ok (.new 81, 3) := by decide +kernel
theorem dX0_cook_18 : decode cX0_cook 18 = .ok (.dup, 1) := by decide +kernel
theorem dX0_cook_19 : decode cX0_cook 19 = .ok (.ldc 83, 2) := by decide +kernel
theorem dX0_cook_21 : decode cX0_cook 21 = .ok (.invokespecial 85, 3) := by decide +kernel
theorem dX0_cook_24 : decode cX0_cook 24 = .ok (.athrow, 1) := by decide +kernel
theorem dX0_cook_25 : decode cX0_cook 25 = .ok (.iload_n 3, 1) := by decide +kernel
theorem dX0_cook_26 : decode cX0_cook 26 = .ok (.ifCond .lt 10, 3) := by decide +kernel
theorem dX0_cook_29 : decode cX0_cook 29 = .ok (.iload_n 3, 1) := by decide +kernel
theorem dX0_cook_30 : decode cX0_cook 30 = .ok (.sipush 999, 3) := by decide +kernel
theorem dX0_cook_33 : decode cX0_cook 33 = .ok (.if_icmp .le 13, 3) := by decide +kernel
theorem dX0_cook_36 : decode cX0_cook 36 = .ok (.new 86, 3) := by decide +kernel
theorem dX0_cook_39 : decode cX0_cook 39 = .ok (.dup, 1) := by decide +kernel
theorem dX0_cook_40 : decode cX0_cook 40 = .ok (.ldc 88, 2) := by decide +kernel
theorem dX0_cook_42 : decode cX0_cook 42 = .ok (.invokespecial 90, 3) := by decide +kernel
theorem dX0_cook_45 : decode cX0_cook 45 = .ok (.athrow, 1) := by decide +kernel
theorem dX0_cook_46 : decode cX0_cook 46 = .ok (.aload_n 0, 1) := by decide +kernel
theorem dX0_cook_47 : decode cX0_cook 47 = .ok (.iload_n 1, 1) := by decide +kernel
theorem dX0_cook_48 : decode cX0_cook 48 = .ok (.invokevirtual 91, 3) := by decide +kernel
theorem dX0_cook_51 : decode cX0_cook 51 = .ok (.ifCond .ne 13, 3) := by decide +kernel
theorem dX0_cook_54 : decode cX0_cook 54 = .ok (.new 53, 3) := by decide +kernel
theorem dX0_cook_57 : decode cX0_cook 57 = .ok (.dup, 1) := by decide +kernel
theorem dX0_cook_58 : decode cX0_cook 58 = .ok (.ldc 94, 2) := by decide +kernel
theorem dX0_cook_60 : decode cX0_cook 60 = .ok (.invokespecial 57, 3) := by decide +kernel
theorem dX0_cook_63 : decode cX0_cook 63 = .ok (.athrow, 1) := by decide +kernel
theorem dX0_cook_64 : decode cX0_cook 64 = .ok (.aload_n 0, 1) := by decide +kernel
theorem dX0_cook_65 : decode cX0_cook 65 = .ok (.iload_n 2, 1) := by decide +kernel
theorem dX0_cook_66 : decode cX0_cook 66 = .ok (.invokevirtual 96, 3) := by decide +kernel
theorem dX0_cook_69 : decode cX0_cook 69 = .ok (.istore 4, 2) := by decide +kernel
theorem dX0_cook_71 : decode cX0_cook 71 = .ok (.iload 4, 2) := by decide +kernel
theorem dX0_cook_73 : decode cX0_cook 73 = .ok (.iconst (-1), 1) := by decide +kernel
theorem dX0_cook_74 : decode cX0_cook 74 = .ok (.if_icmp .eq 19, 3) := by decide +kernel
theorem dX0_cook_77 : decode cX0_cook 77 = .ok (.iload 4, 2) := by decide +kernel
theorem dX0_cook_79 : decode cX0_cook 79 = .ok (.iload_n 1, 1) := by decide +kernel
theorem dX0_cook_80 : decode cX0_cook 80 = .ok (.if_icmp .eq 13, 3) := by decide +kernel
theorem dX0_cook_83 : decode cX0_cook 83 = .ok (.new 53, 3) := by decide +kernel
theorem dX0_cook_86 : decode cX0_cook 86 = .ok (.dup, 1) := by decide +kernel
theorem dX0_cook_87 : decode cX0_cook 87 = .ok (.ldc 100, 2) := by decide +kernel
theorem dX0_cook_89 : decode cX0_cook 89 = .ok (.invokespecial 57, 3) := by decide +kernel
theorem dX0_cook_92 : decode cX0_cook 92 = .ok (.athrow, 1) := by decide +kernel
theorem dX0_cook_93 : decode cX0_cook 93 = .ok (.aload_n 0, 1) := by decide +kernel
theorem dX0_cook_94 : decode cX0_cook 94 = .ok (.invokevirtual 60, 3) := by decide +kernel
theorem dX0_cook_97 : decode cX0_cook 97 = .ok (.iconst 2, 1) := by decide +kernel
theorem dX0_cook_98 : decode cX0_cook 98 = .ok (.if_icmp .ge 13, 3) := by decide +kernel
theorem dX0_cook_101 : decode cX0_cook 101 = .ok (.new 53, 3) := by decide +kernel
theorem dX0_cook_104 : decode cX0_cook 104 = .ok (.dup, 1) := by decide +kernel
theorem dX0_cook_105 : decode cX0_cook 105 = .ok (.ldc 64, 2) := by decide +kernel
theorem dX0_cook_107 : decode cX0_cook 107 = .ok (.invokespecial 57, 3) := by decide +kernel
theorem dX0_cook_110 : decode cX0_cook 110 = .ok (.athrow, 1) := by decide +kernel
theorem dX0_cook_111 : decode cX0_cook 111 = .ok (.aload_n 0, 1) := by decide +kernel
theorem dX0_cook_112 : decode cX0_cook 112 = .ok (.getfield 9, 3) := by decide +kernel
theorem dX0_cook_115 : decode cX0_cook 115 = .ok (.iload_n 2, 1) := by decide +kernel
theorem dX0_cook_116 : decode cX0_cook 116 = .ok (.invokestatic 102, 3) := by decide +kernel
theorem dX0_cook_119 : decode cX0_cook 119 = .ok (.istore 5, 2) := by decide +kernel
theorem dX0_cook_121 : decode cX0_cook 121 = .ok (.aload_n 0, 1) := by decide +kernel
theorem dX0_cook_122 : decode cX0_cook 122 = .ok (.iload_n 1, 1) := by decide +kernel
theorem dX0_cook_123 : decode cX0_cook 123 = .ok (.iconst 1, 1) := by decide +kernel
theorem dX0_cook_124 : decode cX0_cook 124 = .ok (.iload_n 2, 1) := by decide +kernel
theorem dX0_cook_125 : decode cX0_cook 125 = .ok (.iload_n 3, 1) := by decide +kernel
theorem dX0_cook_126 : decode cX0_cook 126 = .ok (.invokevirtual 106, 3) := by decide +kernel
theorem dX0_cook_129 : decode cX0_cook 129 = .ok (.iload 5, 2) := by decide +kernel
theorem dX0_cook_131 : decode cX0_cook 131 = .ok (.ireturn, 1) := by decide +kernel
set_option maxRecDepth 20000 in
theorem ggX0_finish_X0_isDish : GoodIn wsX0_finish wsX0_isDish := goodIn_r _ [11, 12, 13, 14, 10, 15, 46, 47, 48, 49, 50, 51, 52, 53, 54, 55, 56, 57, 58, 59, 60] (by decide +kernel) (by decide +kernel)
set_option maxRecDepth 20000 in
theorem gX0_finish_X0_isDish : GoodIn wsX0_finish (wsV RX0 74 RX0 yX0_isDish wsX0_isDish) := goodIn_app (goodIn_of _ (by decide +kernel)) ggX0_finish_X0_isDish
set_option maxRecDepth 20000 in
theorem ggX0_finish_X0_isOpen : GoodIn wsX0_finish wsX0_isOpen := goodIn_r _ [19, 5, 20, 21, 10, 22, 13, 14, 15, 46, 47, 48, 49, 50, 51, 52, 53, 54, 55, 56, 57, 58, 59, 60] (by decide +kernel) (by decide +kernel)
set_option maxRecDepth 20000 in
theorem gX0_finish_X0_isOpen : GoodIn wsX0_finish (wsV RX0 91 RX0 yX0_isOpen wsX0_isOpen) := goodIn_app (goodIn_of _ (by decide +kernel)) ggX0_finish_X0_isOpen
set_option maxRecDepth 20000 in
theorem ggX0_finish_X0_chalk : GoodIn wsX0_finish wsX0_chalk := goodIn_r _ [26, 27, 6, 28, 29, 30, 31, 32, 33, 34, 35, 10, 36, 13, 14, 15, 46, 47, 48, 49, 50, 51, 52, 53, 54, 55, 56, 57, 58, 59, 60] (by decide +kernel) (by decide +kernel)
set_option maxRecDepth 20000 in
theorem gX0_finish_X0_chalk : GoodIn wsX0_finish (wsV RX0 70 RX0 yX0_chalk wsX0_chalk) := goodIn_app (goodIn_of _ (by decide +kernel)) ggX0_finish_X0_chalk
set_option maxRecDepth 20000 in
theorem ggX0_finish_X0_put : GoodIn wsX0_finish wsX0_put := goodIn_r _ [36, 13, 14, 10, 15] (by decide +kernel) (by decide +kernel)
set_option maxRecDepth 20000 in
theorem gX0_finish_X0_put : GoodIn wsX0_finish (va_wsS RX0 66 yX0_put wsX0_put) := goodIn_app (goodIn_of _ (by decide +kernel)) ggX0_finish_X0_put
set_option maxRecDepth 20000 in
theorem ggX0_finish_X0_dryUpTo : GoodIn wsX0_finish wsX0_dryUpTo := goodIn_r _ [40, 41, 42, 43, 44, 45, 46, 47, 48, 49, 50, 51, 52, 53, 54, 55, 56, 57, 58, 59, 60] (by decide +kernel) (by decide +kernel)
set_option maxRecDepth 20000 in
theorem gX0_finish_X0_dryUpTo : GoodIn wsX0_finish (wsV RX0 115 RX0 yX0_dryUpTo wsX0_dryUpTo) := goodIn_app (goodIn_of _ (by decide +kernel)) ggX0_finish_X0_dryUpTo
theorem dX0_finish_0 : decode cX0_finish 0 = .ok (.aload_n 0, 1) := by decide +kernel
theorem dX0_finish_1 : decode cX0_finish 1 = .ok (.iload_n 1, 1) := by decide +kernel
theorem dX0_finish_2 : decode cX0_finish 2 = .ok (.invokevirtual 74, 3) := by decide +kernel
theorem dX0_finish_5 : decode cX0_finish 5 = .ok (.ifCond .ne 13, 3) := by decide +kernel
theorem dX0_finish_8 : decode cX0_finish 8 = .ok (.new 81, 3) := by decide +kernel
theorem dX0_finish_11 : decode cX0_finish 11 = .ok (.dup, 1) := by decide +kernel
theorem dX0_finish_12 : decode cX0_finish 12 = .ok (.ldc 110, 2) := by decide +kernel
theorem dX0_finish_14 : decode cX0_finish 14 = .ok (.invokespecial 85, 3) := by decide +kernel
theorem dX0_finish_17 : decode cX0_finish 17 = .ok (.athrow, 1) := by decide +kernel
theorem dX0_finish_18 : decode cX0_finish 18 = .ok (.aload_n 0, 1) := by decide +kernel
theorem dX0_finish_19 : decode cX0_finish 19 = .ok (.iload_n 1, 1) := by decide +kernel
theorem dX0_finish_20 : decode cX0_finish 20 = .ok (.invokevirtual 91, 3) := by decide +kernel
theorem dX0_finish_23 : decode cX0_finish 23 = .ok (.ifCond .ne 13, 3) := by decide +kernel
theorem dX0_finish_26 : decode cX0_finish 26 = .ok (.new 53, 3) := by decide +kernel
theorem dX0_finish_29 : decode cX0_finish 29 = .ok (.dup, 1) := by decide +kernel
theorem dX0_finish_30 : decode cX0_finish 30 = .ok (.ldc 94, 2) := by decide +kernel
theorem dX0_finish_32 : decode cX0_finish 32 = .ok (.invokespecial 57, 3) := by decide +kernel
theorem dX0_finish_35 : decode cX0_finish 35 = .ok (.athrow, 1) := by decide +kernel
theorem dX0_finish_36 : decode cX0_finish 36 = .ok (.aload_n 0, 1) := by decide +kernel
theorem dX0_finish_37 : decode cX0_finish 37 = .ok (.iload_n 1, 1) := by decide +kernel
theorem dX0_finish_38 : decode cX0_finish 38 = .ok (.iconst 2, 1) := by decide +kernel
theorem dX0_finish_39 : decode cX0_finish 39 = .ok (.invokevirtual 70, 3) := by decide +kernel
theorem dX0_finish_42 : decode cX0_finish 42 = .ok (.aload_n 0, 1) := by decide +kernel
theorem dX0_finish_43 : decode cX0_finish 43 = .ok (.getfield 19, 3) := by decide +kernel
theorem dX0_finish_46 : decode cX0_finish 46 = .ok (.iload_n 1, 1) := by decide +kernel
theorem dX0_finish_47 : decode cX0_finish 47 = .ok (.iconst 1, 1) := by decide +kernel
theorem dX0_finish_48 : decode cX0_finish 48 = .ok (.invokestatic 66, 3) := by decide +kernel
theorem dX0_finish_51 : decode cX0_finish 51 = .ok (.aload_n 0, 1) := by decide +kernel
theorem dX0_finish_52 : decode cX0_finish 52 = .ok (.aload_n 0, 1) := by decide +kernel
theorem dX0_finish_53 : decode cX0_finish 53 = .ok (.getfield 112, 3) := by decide +kernel
theorem dX0_finish_56 : decode cX0_finish 56 = .ok (.invokevirtual 115, 3) := by decide +kernel
theorem dX0_finish_59 : decode cX0_finish 59 = .ok (.ireturn, 1) := by decide +kernel
set_option maxRecDepth 20000 in
theorem ggX0_drop_X0_isDish : GoodIn wsX0_drop wsX0_isDish := goodIn_r _ [9, 10, 11, 12, 8, 13, 54, 55, 56, 57, 58, 59, 60, 61, 62, 63, 64, 65, 66, 67, 68] (by decide +kernel) (by decide +kernel)
set_option maxRecDepth 20000 in
theorem gX0_drop_X0_isDish : GoodIn wsX0_drop (wsV RX0 74 RX0 yX0_isDish wsX0_isDish) := goodIn_app (goodIn_of _ (by decide +kernel)) ggX0_drop_X0_isDish
set_option maxRecDepth 20000 in
theorem ggX0_drop_X0_isOpen : GoodIn wsX0_drop wsX0_isOpen := goodIn_r _ [17, 18, 19, 20, 8, 21, 11, 12, 13, 54, 55, 56, 57, 58, 59, 60, 61, 62, 63, 64, 65, 66, 67, 68] (by decide +kernel) (by decide +kernel)
set_option maxRecDepth 20000 in
theorem gX0_drop_X0_isOpen : GoodIn wsX0_drop (wsV RX0 91 RX0 yX0_isOpen wsX0_isOpen) := goodIn_app (goodIn_of _ (by decide +kernel)) ggX0_drop_X0_isOpen
set_option maxRecDepth 20000 in
theorem ggX0_drop_X0_undo : GoodIn wsX0_drop wsX0_undo := goodIn_r _ [25, 26, 18, 27, 28, 29, 8, 30, 31, 32, 33, 19, 20, 21, 11, 12, 13, 34, 35, 36, 37, 38, 39, 40, 41, 42, 43, 44, 45, 46, 47, 48, 49, 50, 51, 52, 53, 54, 55, 56, 57, 58, 59, 60, 61, 62, 63, 64, 65, 66, 67, 68] (by decide +kernel) (by decide +kernel)
set_option maxRecDepth 20000 in
theorem gX0_drop_X0_undo : GoodIn wsX0_drop (wsV RX0 118 RX0 yX0_undo wsX0_undo) := goodIn_app (goodIn_of _ (by decide +kernel)) ggX0_drop_X0_undo
theorem dX0_drop_0 : decode cX0_drop 0 = .ok (.aload_n 0, 1) := by decide +kernel
theorem dX0_drop_1 : decode cX0_drop 1 = .ok (.iload_n 1, 1) := by decide +kernel
theorem dX0_drop_2 : decode cX0_drop 2 = .ok (.invokevirtual 74, 3) := by decide +kernel
theorem dX0_drop_5 : decode cX0_drop 5 = .ok (.ifCond .ne 13, 3) := by decide +kernel
theorem dX0_drop_8 : decode cX0_drop 8 = .ok (.new 81, 3) := by decide +kernel
theorem dX0_drop_11 : decode cX0_drop 11 = .ok (.dup, 1) := by decide +kernel
theorem dX0_drop_12 : decode cX0_drop 12 = .ok (.ldc 110, 2) := by decide +kernel
theorem dX0_drop_14 : decode cX0_drop 14 = .ok (.invokespecial 85, 3) := by decide +kernel
theorem dX0_drop_17 : decode cX0_drop 17 = .ok (.athrow, 1) := by decide +kernel
theorem dX0_drop_18 : decode cX0_drop 18 = .ok (.aload_n 0, 1) := by decide +kernel
theorem dX0_drop_19 : decode cX0_drop 19 = .ok (.iload_n 1, 1) := by decide +kernel
theorem dX0_drop_20 : decode cX0_drop 20 = .ok (.invokevirtual 91, 3) := by decide +kernel
theorem dX0_drop_23 : decode cX0_drop 23 = .ok (.ifCond .ne 13, 3) := by decide +kernel
theorem dX0_drop_26 : decode cX0_drop 26 = .ok (.new 53, 3) := by decide +kernel
theorem dX0_drop_29 : decode cX0_drop 29 = .ok (.dup, 1) := by decide +kernel
theorem dX0_drop_30 : decode cX0_drop 30 = .ok (.ldc 94, 2) := by decide +kernel
theorem dX0_drop_32 : decode cX0_drop 32 = .ok (.invokespecial 57, 3) := by decide +kernel
theorem dX0_drop_35 : decode cX0_drop 35 = .ok (.athrow, 1) := by decide +kernel
theorem dX0_drop_36 : decode cX0_drop 36 = .ok (.aload_n 0, 1) := by decide +kernel
theorem dX0_drop_37 : decode cX0_drop 37 = .ok (.iload_n 1, 1) := by decide +kernel
theorem dX0_drop_38 : decode cX0_drop 38 = .ok (.invokevirtual 118, 3) := by decide +kernel
theorem dX0_drop_41 : decode cX0_drop 41 = .ok (.ireturn, 1) := by decide +kernel
set_option maxRecDepth 20000 in
theorem ggX0_shelve_X0_isPot : GoodIn wsX0_shelve wsX0_isPot := goodIn_r _ [9, 10, 11, 8, 12] (by decide +kernel) (by decide +kernel)
set_option maxRecDepth 20000 in
theorem gX0_shelve_X0_isPot : GoodIn wsX0_shelve (va_wsS RX0 78 yX0_isPot wsX0_isPot) := goodIn_app (goodIn_of _ (by decide +kernel)) ggX0_shelve_X0_isPot
set_option maxRecDepth 20000 in
theorem ggX0_shelve_X0_latestLineOf : GoodIn wsX0_shelve wsX0_latestLineOf := goodIn_r _ [16, 17, 18, 19, 20, 8, 21, 10, 11, 12, 34, 35, 36, 37, 38, 39, 40, 41, 42, 43, 44, 45, 46, 47, 48] (by decide +kernel) (by decide +kernel)
set_option maxRecDepth 20000 in
theorem gX0_shelve_X0_latestLineOf : GoodIn wsX0_shelve (wsV RX0 123 RX0 yX0_latestLineOf wsX0_latestLineOf) := goodIn_app (goodIn_of _ (by decide +kernel)) ggX0_shelve_X0_latestLineOf
set_option maxRecDepth 20000 in
theorem ggX0_shelve_X0_dryUpTo : GoodIn wsX0_shelve wsX0_dryUpTo := goodIn_r _ [25, 26, 27, 28, 29, 30, 34, 35, 36, 37, 38, 39, 40, 41, 42, 43, 44, 45, 46, 47, 48] (by decide +kernel) (by decide +kernel)
set_option maxRecDepth 20000 in
theorem gX0_shelve_X0_dryUpTo : GoodIn wsX0_shelve (wsV RX0 115 RX0 yX0_dryUpTo wsX0_dryUpTo) := goodIn_app (goodIn_of _ (by decide +kernel)) ggX0_shelve_X0_dryUpTo
set_option maxRecDepth 20000 in
theorem ggX0_shelve_X0_at : GoodIn wsX0_shelve wsX0_at := goodIn_r _ [21, 10, 11, 8, 12] (by decide +kernel) (by decide +kernel)
set_option maxRecDepth 20000 in
theorem gX0_shelve_X0_at : GoodIn wsX0_shelve (va_wsS RX0 102 yX0_at wsX0_at) := goodIn_app (goodIn_of _ (by decide +kernel)) ggX0_shelve_X0_at
set_option maxRecDepth 20000 in
theorem ggX0_shelve_X0_put : GoodIn wsX0_shelve wsX0_put := goodIn_r _ [33, 10, 11, 8, 12] (by decide +kernel) (by decide +kernel)
set_option maxRecDepth 20000 in
theorem gX0_shelve_X0_put : GoodIn wsX0_shelve (va_wsS RX0 66 yX0_put wsX0_put) := goodIn_app (goodIn_of _ (by decide +kernel)) ggX0_shelve_X0_put
theorem dX0_shelve_0 : decode cX0_shelve 0 = .ok (.iload_n 1, 1) := by decide +kernel
theorem dX0_shelve_1 : decode cX0_shelve 1 = .ok (.invokestatic 78, 3) := by decide +kernel
theorem dX0_shelve_4 : decode cX0_shelve 4 = .ok (.ifCond .ne 13, 3) := by decide +kernel
theorem dX0_shelve_7 : decode cX0_shelve 7 = .ok (.new 81, 3) := by decide +kernel
theorem dX0_shelve_10 : decode cX0_shelve 10 = .ok (.dup, 1) := by decide +kernel
theorem dX0_shelve_11 : decode cX0_shelve 11 = .ok (.ldc 121, 2) := by decide +kernel
theorem dX0_shelve_13 : decode cX0_shelve 13 = .ok (.invokespecial 85, 3) := by decide +kernel
theorem dX0_shelve_16 : decode cX0_shelve 16 = .ok (.athrow, 1) := by decide +kernel
theorem dX0_shelve_17 : decode cX0_shelve 17 = .ok (.aload_n 0, 1) := by decide +kernel
theorem dX0_shelve_18 : decode cX0_shelve 18 = .ok (.iload_n 1, 1) := by decide +kernel
theorem dX0_shelve_19 : decode cX0_shelve 19 = .ok (.invokevirtual 123, 3) := by decide +kernel
theorem dX0_shelve_22 : decode cX0_shelve 22 = .ok (.istore_n 2, 1) := by decide +kernel
theorem dX0_shelve_23 : decode cX0_shelve 23 = .ok (.aload_n 0, 1) := by decide +kernel
theorem dX0_shelve_24 : decode cX0_shelve 24 = .ok (.iload_n 2, 1) := by decide +kernel
theorem dX0_shelve_25 : decode cX0_shelve 25 = .ok (.iconst 1, 1) := by decide +kernel
theorem dX0_shelve_26 : decode cX0_shelve 26 = .ok (.iadd, 1) := by decide +kernel
theorem dX0_shelve_27 : decode cX0_shelve 27 = .ok (.invokevirtual 115, 3) := by decide +kernel
theorem dX0_shelve_30 : decode cX0_shelve 30 = .ok (.istore_n 3, 1) := by decide +kernel
theorem dX0_shelve_31 : decode cX0_shelve 31 = .ok (.aload_n 0, 1) := by decide +kernel
theorem dX0_shelve_32 : decode cX0_shelve 32 = .ok (.getfield 13, 3) := by decide +kernel
theorem dX0_shelve_35 : decode cX0_shelve 35 = .ok (.iload_n 1, 1) := by decide +kernel
theorem dX0_shelve_36 : decode cX0_shelve 36 = .ok (.aload_n 0, 1) := by decide +kernel
theorem dX0_shelve_37 : decode cX0_shelve 37 = .ok (.getfield 9, 3) := by decide +kernel
theorem dX0_shelve_40 : decode cX0_shelve 40 = .ok (.iload_n 1, 1) := by decide +kernel
theorem dX0_shelve_41 : decode cX0_shelve 41 = .ok (.invokestatic 102, 3) := by decide +kernel
theorem dX0_shelve_44 : decode cX0_shelve 44 = .ok (.invokestatic 66, 3) := by decide +kernel
theorem dX0_shelve_47 : decode cX0_shelve 47 = .ok (.aload_n 0, 1) := by decide +kernel
theorem dX0_shelve_48 : decode cX0_shelve 48 = .ok (.getfield 16, 3) := by decide +kernel
theorem dX0_shelve_51 : decode cX0_shelve 51 = .ok (.iload_n 1, 1) := by decide +kernel
theorem dX0_shelve_52 : decode cX0_shelve 52 = .ok (.iload_n 2, 1) := by decide +kernel
theorem dX0_shelve_53 : decode cX0_shelve 53 = .ok (.invokestatic 66, 3) := by decide +kernel
theorem dX0_shelve_56 : decode cX0_shelve 56 = .ok (.iload_n 3, 1) := by decide +kernel
theorem dX0_shelve_57 : decode cX0_shelve 57 = .ok (.ireturn, 1) := by decide +kernel
set_option maxRecDepth 20000 in
theorem ggX0_blow_X0_dryUpTo : GoodIn wsX0_blow wsX0_dryUpTo := goodIn_r _ [6, 7, 8, 9, 10, 11, 12, 13, 14, 15, 16, 17, 18, 19, 20, 21, 22, 23, 24, 25, 26] (by decide +kernel) (by decide +kernel)
set_option maxRecDepth 20000 in
theorem gX0_blow_X0_dryUpTo : GoodIn wsX0_blow (wsV RX0 115 RX0 yX0_dryUpTo wsX0_dryUpTo) := goodIn_app (goodIn_of _ (by decide +kernel)) ggX0_blow_X0_dryUpTo
theorem dX0_blow_0 : decode cX0_blow 0 = .ok (.aload_n 0, 1) := by decide +kernel
theorem dX0_blow_1 : decode cX0_blow 1 = .ok (.aload_n 0, 1) := by decide +kernel
theorem dX0_blow_2 : decode cX0_blow 2 = .ok (.getfield 112, 3) := by decide +kernel
theorem dX0_blow_5 : decode cX0_blow 5 = .ok (.invokevirtual 115, 3) := by decide +kernel
theorem dX0_blow_8 : decode cX0_blow 8 = .ok (.ireturn, 1) := by decide +kernel
set_option maxRecDepth 20000 in
theorem ggX0_fall_X0_wipeWhatIsNotDry : GoodIn wsX0_fall wsX0_wipeWhatIsNotDry := goodIn_r _ [13, 14, 15, 16, 7, 17, 18, 19, 12, 20, 21, 22, 23, 24, 25, 26, 27, 28, 29, 30, 31, 32, 33, 34, 35, 73, 74, 75, 76, 77, 78, 79, 80, 81, 82, 83, 84, 85, 86, 87] (by decide +kernel) (by decide +kernel)
set_option maxRecDepth 20000 in
theorem gX0_fall_X0_wipeWhatIsNotDry : GoodIn wsX0_fall (wsV RX0 126 RX0 yX0_wipeWhatIsNotDry wsX0_wipeWhatIsNotDry) := goodIn_app (goodIn_of _ (by decide +kernel)) ggX0_fall_X0_wipeWhatIsNotDry
set_option maxRecDepth 20000 in
theorem ggX0_fall_X0_doAnew : GoodIn wsX0_fall wsX0_doAnew := goodIn_r _ [39, 15, 2, 40, 41, 42, 43, 44, 12, 45, 46, 18, 19, 20, 21, 22, 23, 24, 25, 26, 73, 74, 75, 76, 77, 78, 79, 80, 81, 82, 83, 84, 85, 86, 87] (by decide +kernel) (by decide +kernel)
set_option maxRecDepth 20000 in
theorem gX0_fall_X0_doAnew : GoodIn wsX0_fall (wsV RX0 135 RX0 yX0_doAnew wsX0_doAnew) := goodIn_app (goodIn_of _ (by decide +kernel)) ggX0_fall_X0_doAnew
set_option maxRecDepth 20000 in
theorem ggX0_fall_X0_isOpen : GoodIn wsX0_fall wsX0_isOpen := goodIn_r _ [50, 17, 18, 19, 12, 20, 21, 22, 23, 73, 74, 75, 76, 77, 78, 79, 80, 81, 82, 83, 84, 85, 86, 87] (by decide +kernel) (by decide +kernel)
set_option maxRecDepth 20000 in
theorem gX0_fall_X0_isOpen : GoodIn wsX0_fall (wsV RX0 91 RX0 yX0_isOpen wsX0_isOpen) := goodIn_app (goodIn_of _ (by decide +kernel)) ggX0_fall_X0_isOpen
set_option maxRecDepth 20000 in
theorem ggX0_fall_X0_undo : GoodIn wsX0_fall wsX0_undo := goodIn_r _ [54, 15, 17, 55, 56, 57, 12, 58, 31, 32, 16, 18, 19, 20, 21, 22, 23, 59, 60, 61, 62, 40, 63, 64, 65, 66, 67, 68, 2, 41, 69, 70, 71, 72, 24, 25, 26, 73, 74, 75, 76, 77, 78, 79, 80, 81, 82, 83, 84, 85, 86, 87] (by decide +kernel) (by decide +kernel)
set_option maxRecDepth 20000 in
theorem gX0_fall_X0_undo : GoodIn wsX0_fall (wsV RX0 118 RX0 yX0_undo wsX0_undo) := goodIn_app (goodIn_of _ (by decide +kernel)) ggX0_fall_X0_undo
theorem dX0_fall_0 : decode cX0_fall 0 = .ok (.aload_n 0, 1) := by decide +kernel
theorem dX0_fall_1 : decode cX0_fall 1 = .ok (.invokevirtual 126, 3) := by decide +kernel
theorem dX0_fall_4 : decode cX0_fall 4 = .ok (.aload_n 0, 1) := by decide +kernel
theorem dX0_fall_5 : decode cX0_fall 5 = .ok (.getfield 13, 3) := by decide +kernel
theorem dX0_fall_8 : decode cX0_fall 8 = .ok (.iconst 0, 1) := by decide +kernel
theorem dX0_fall_9 : decode cX0_fall 9 = .ok (.aload_n 0, 1) := by decide +kernel
theorem dX0_fall_10 : decode cX0_fall 10 = .ok (.getfield 9, 3) := by decide +kernel
theorem dX0_fall_13 : decode cX0_fall 13 = .ok (.iconst 0, 1) := by decide +kernel
theorem dX0_fall_14 : decode cX0_fall 14 = .ok (.bipush 8, 2) := by decide +kernel
theorem dX0_fall_16 : decode cX0_fall 16 = .ok (.invokestatic 129, 3) := by decide +kernel
theorem dX0_fall_19 : decode cX0_fall 19 = .ok (.aload_n 0, 1) := by decide +kernel
theorem dX0_fall_20 : decode cX0_fall 20 = .ok (.invokevirtual 135, 3) := by decide +kernel
theorem dX0_fall_23 : decode cX0_fall 23 = .ok (.istore_n 1, 1) := by decide +kernel
theorem dX0_fall_24 : decode cX0_fall 24 = .ok (.aload_n 0, 1) := by decide +kernel
theorem dX0_fall_25 : decode cX0_fall 25 = .ok (.getfield 49, 3) := by decide +kernel
theorem dX0_fall_28 : decode cX0_fall 28 = .ok (.iconst 1, 1) := by decide +kernel
theorem dX0_fall_29 : decode cX0_fall 29 = .ok (.isub, 1) := by decide +kernel
theorem dX0_fall_30 : decode cX0_fall 30 = .ok (.istore_n 2, 1) := by decide +kernel
theorem dX0_fall_31 : decode cX0_fall 31 = .ok (.iload_n 2, 1) := by decide +kernel
theorem dX0_fall_32 : decode cX0_fall 32 = .ok (.ifCond .lt 23, 3) := by decide +kernel
theorem dX0_fall_35 : decode cX0_fall 35 = .ok (.aload_n 0, 1) := by decide +kernel
theorem dX0_fall_36 : decode cX0_fall 36 = .ok (.iload_n 2, 1) := by decide +kernel
theorem dX0_fall_37 : decode cX0_fall 37 = .ok (.invokevirtual 91, 3) := by decide +kernel
theorem dX0_fall_40 : decode cX0_fall 40 = .ok (.ifCond .eq 9, 3) := by decide +kernel
theorem dX0_fall_43 : decode cX0_fall 43 = .ok (.aload_n 0, 1) := by decide +kernel
theorem dX0_fall_44 : decode cX0_fall 44 = .ok (.iload_n 2, 1) := by decide +kernel
theorem dX0_fall_45 : decode cX0_fall 45 = .ok (.invokevirtual 118, 3) := by decide +kernel
theorem dX0_fall_48 : decode cX0_fall 48 = .ok (.pop, 1) := by decide +kernel
theorem dX0_fall_49 : decode cX0_fall 49 = .ok (.iinc 2 (-1), 3) := by decide +kernel
theorem dX0_fall_52 : decode cX0_fall 52 = .ok (.goto (-21), 3) := by decide +kernel
theorem dX0_fall_55 : decode cX0_fall 55 = .ok (.aload_n 0, 1) := by decide +kernel
theorem dX0_fall_56 : decode cX0_fall 56 = .ok (.dup, 1) := by decide +kernel
theorem dX0_fall_57 : decode cX0_fall 57 = .ok (.getfield 138, 3) := by decide +kernel
theorem dX0_fall_60 : decode cX0_fall 60 = .ok (.iconst 1, 1) := by decide +kernel
theorem dX0_fall_61 : decode cX0_fall 61 = .ok (.iadd, 1) := by decide +kernel
theorem dX0_fall_62 : decode cX0_fall 62 = .ok (.putfield 138, 3) := by decide +kernel
theorem dX0_fall_65 : decode cX0_fall 65 = .ok (.iload_n 1, 1) := by decide +kernel
theorem dX0_fall_66 : decode cX0_fall 66 = .ok (.ireturn, 1) := by decide +kernel
set_option maxRecDepth 20000 in
theorem ggX0_pot_X0_isPot : GoodIn wsX0_pot wsX0_isPot := goodIn_r _ [6, 7, 8, 5, 9] (by decide +kernel) (by decide +kernel)
set_option maxRecDepth 20000 in
theorem gX0_pot_X0_isPot : GoodIn wsX0_pot (va_wsS RX0 78 yX0_isPot wsX0_isPot) := goodIn_app (goodIn_of _ (by decide +kernel)) ggX0_pot_X0_isPot
set_option maxRecDepth 20000 in
theorem ggX0_pot_X0_isBelow : GoodIn wsX0_pot wsX0_isBelow := goodIn_r _ [9] (by decide +kernel) (by decide +kernel)
set_option maxRecDepth 20000 in
theorem gX0_pot_X0_isBelow : GoodIn wsX0_pot (va_wsS RX0 141 yX0_isBelow wsX0_isBelow) := goodIn_app (goodIn_of _ (by decide +kernel)) ggX0_pot_X0_isBelow
set_option maxRecDepth 20000 in
theorem ggX0_pot_X0_potAnswer : GoodIn wsX0_pot wsX0_potAnswer := goodIn_r _ [13, 14, 15, 16, 17, 18, 5, 19, 7, 8, 9, 20, 21, 22, 23, 24, 25, 26, 27, 28, 29, 30, 31, 32, 33, 34, 35, 36, 37, 38, 39, 40, 41, 42, 43, 44, 45, 46, 47, 48, 49, 50, 51] (by decide +kernel) (by decide +kernel)
set_option maxRecDepth 20000 in
theorem gX0_pot_X0_potAnswer : GoodIn wsX0_pot (wsV RX0 147 RX0 yX0_potAnswer wsX0_potAnswer) := goodIn_app (goodIn_of _ (by decide +kernel)) ggX0_pot_X0_potAnswer
theorem dX0_pot_0 : decode cX0_pot 0 = .ok (.iload_n 1, 1) := by decide +kernel
theorem dX0_pot_1 : decode cX0_pot 1 = .ok (.invokestatic 78, 3) := by decide +kernel
theorem dX0_pot_4 : decode cX0_pot 4 = .ok (.ifCond .eq 11, 3) := by decide +kernel
theorem dX0_pot_7 : decode cX0_pot 7 = .ok (.iload_n 2, 1) := by decide +kernel
theorem dX0_pot_8 : decode cX0_pot 8 = .ok (.iconst 5, 1) := by decide +kernel
theorem dX0_pot_9 : decode cX0_pot 9 = .ok (.invokestatic 141, 3) := by decide +kernel
theorem dX0_pot_12 : decode cX0_pot 12 = .ok (.ifCond .ne 13, 3) := by decide +kernel
theorem dX0_pot_15 : decode cX0_pot 15 = .ok (.new 81, 3) := by decide +kernel
theorem dX0_pot_18 : decode cX0_pot 18 = .ok (.dup, 1) := by decide +kernel
theorem dX0_pot_19 : decode cX0_pot 19 = .ok (.ldc 145, 2) := by decide +kernel
theorem dX0_pot_21 : decode cX0_pot 21 = .ok (.invokespecial 85, 3) := by decide +kernel
theorem dX0_pot_24 : decode cX0_pot 24 = .ok (.athrow, 1) := by decide +kernel
theorem dX0_pot_25 : decode cX0_pot 25 = .ok (.aload_n 0, 1) := by decide +kernel
theorem dX0_pot_26 : decode cX0_pot 26 = .ok (.iload_n 1, 1) := by decide +kernel
theorem dX0_pot_27 : decode cX0_pot 27 = .ok (.iload_n 2, 1) := by decide +kernel
theorem dX0_pot_28 : decode cX0_pot 28 = .ok (.invokevirtual 147, 3) := by decide +kernel
theorem dX0_pot_31 : decode cX0_pot 31 = .ok (.ireturn, 1) := by decide +kernel
set_option maxRecDepth 20000 in
theorem ggX0_dish_X0_isDish : GoodIn wsX0_dish wsX0_isDish := goodIn_r _ [7, 8, 9, 10, 6, 11, 53, 54, 55, 56, 57, 58, 59, 60, 61, 62, 63, 64, 65, 66, 67] (by decide +kernel) (by decide +kernel)
set_option maxRecDepth 20000 in
theorem gX0_dish_X0_isDish : GoodIn wsX0_dish (wsV RX0 74 RX0 yX0_isDish wsX0_isDish) := goodIn_app (goodIn_of _ (by decide +kernel)) ggX0_dish_X0_isDish
set_option maxRecDepth 20000 in
theorem ggX0_dish_X0_isBelow : GoodIn wsX0_dish wsX0_isBelow := goodIn_r _ [11] (by decide +kernel) (by decide +kernel)
set_option maxRecDepth 20000 in
theorem gX0_dish_X0_isBelow : GoodIn wsX0_dish (va_wsS RX0 141 yX0_isBelow wsX0_isBelow) := goodIn_app (goodIn_of _ (by decide +kernel)) ggX0_dish_X0_isBelow
set_option maxRecDepth 20000 in
theorem ggX0_dish_X0_dishAnswer : GoodIn wsX0_dish wsX0_dishAnswer := goodIn_r _ [15, 16, 17, 18, 19, 6, 20, 9, 10, 11, 21, 22, 23, 24, 25, 26, 27, 28, 29, 30, 31, 32, 33, 34, 35, 36, 37, 38, 39, 40, 41, 42, 43, 44, 45, 46, 47, 48, 49, 50, 51, 52, 53, 54, 55, 56, 57, 58, 59, 60, 61, 62, 63, 64, 65, 66, 67] (by decide +kernel) (by decide +kernel)
set_option maxRecDepth 20000 in
theorem gX0_dish_X0_dishAnswer : GoodIn wsX0_dish (wsV RX0 153 RX0 yX0_dishAnswer wsX0_dishAnswer) := goodIn_app (goodIn_of _ (by decide +kernel)) ggX0_dish_X0_dishAnswer
theorem dX0_dish_0 : decode cX0_dish 0 = .ok (.aload_n 0, 1) := by decide +kernel
theorem dX0_dish_1 : decode cX0_dish 1 = .ok (.iload_n 1, 1) := by decide +kernel
theorem dX0_dish_2 : decode cX0_dish 2 = .ok (.invokevirtual 74, 3) := by decide +kernel
theorem dX0_dish_5 : decode cX0_dish 5 = .ok (.ifCond .eq 11, 3) := by decide +kernel
theorem dX0_dish_8 : decode cX0_dish 8 = .ok (.iload_n 2, 1) := by decide +kernel
theorem dX0_dish_9 : decode cX0_dish 9 = .ok (.iconst 5, 1) := by decide +kernel
theorem dX0_dish_10 : decode cX0_dish 10 = .ok (.invokestatic 141, 3) := by decide +kernel
theorem dX0_dish_13 : decode cX0_dish 13 = .ok (.ifCond .ne 13, 3) := by decide +kernel
theorem dX0_dish_16 : decode cX0_dish 16 = .ok (.new 81, 3) := by decide +kernel
theorem dX0_dish_19 : decode cX0_dish 19 = .ok (.dup, 1) := by decide +kernel
theorem dX0_dish_20 : decode cX0_dish 20 = .ok (.ldc 151, 2) := by decide +kernel
theorem dX0_dish_22 : decode cX0_dish 22 = .ok (.invokespecial 85, 3) := by decide +kernel
theorem dX0_dish_25 : decode cX0_dish 25 = .ok (.athrow, 1) := by decide +kernel
theorem dX0_dish_26 : decode cX0_dish 26 = .ok (.aload_n 0, 1) := by decide +kernel
theorem dX0_dish_27 : decode cX0_dish 27 = .ok (.iload_n 1, 1) := by decide +kernel
theorem dX0_dish_28 : decode cX0_dish 28 = .ok (.iload_n 2, 1) := by decide +kernel
theorem dX0_dish_29 : decode cX0_dish 29 = .ok (.invokevirtual 153, 3) := by decide +kernel
theorem dX0_dish_32 : decode cX0_dish 32 = .ok (.ireturn, 1) := by decide +kernel
set_option maxRecDepth 20000 in
theorem ggX0_line_X0_isBelow : GoodIn wsX0_line wsX0_isBelow := goodIn_r _ [7] (by decide +kernel) (by decide +kernel)
set_option maxRecDepth 20000 in
theorem gX0_line_X0_isBelow : GoodIn wsX0_line (va_wsS RX0 141 yX0_isBelow wsX0_isBelow) := goodIn_app (goodIn_of _ (by decide +kernel)) ggX0_line_X0_isBelow
set_option maxRecDepth 20000 in
theorem ggX0_line_X0_lineAnswer : GoodIn wsX0_line wsX0_lineAnswer := goodIn_r _ [11, 12, 13, 14, 15, 16, 17, 18, 19, 20, 6, 21, 4, 5, 7, 22, 23, 24, 25, 26, 27, 28, 29, 30, 31, 32, 33, 34, 35, 36] (by decide +kernel) (by decide +kernel)
set_option maxRecDepth 20000 in
theorem gX0_line_X0_lineAnswer : GoodIn wsX0_line (wsV RX0 158 RX0 yX0_lineAnswer wsX0_lineAnswer) := goodIn_app (goodIn_of _ (by decide +kernel)) ggX0_line_X0_lineAnswer
theorem dX0_line_0 : decode cX0_line 0 = .ok (.iload_n 1, 1) := by decide +kernel
theorem dX0_line_1 : decode cX0_line 1 = .ok (.aload_n 0, 1) := by decide +kernel
theorem dX0_line_2 : decode cX0_line 2 = .ok (.getfield 112, 3) := by decide +kernel
theorem dX0_line_5 : decode cX0_line 5 = .ok (.invokestatic 141, 3) := by decide +kernel
theorem dX0_line_8 : decode cX0_line 8 = .ok (.ifCond .eq 12, 3) := by decide +kernel
theorem dX0_line_11 : decode cX0_line 11 = .ok (.iload_n 2, 1) := by decide +kernel
theorem dX0_line_12 : decode cX0_line 12 = .ok (.bipush 7, 2) := by decide +kernel
theorem dX0_line_14 : decode cX0_line 14 = .ok (.invokestatic 141, 3) := by decide +kernel
theorem dX0_line_17 : decode cX0_line 17 = .ok (.ifCond .ne 13, 3) := by decide +kernel
theorem dX0_line_20 : decode cX0_line 20 = .ok (.new 81, 3) := by decide +kernel
theorem dX0_line_23 : decode cX0_line 23 = .ok (.dup, 1) := by decide +kernel
theorem dX0_line_24 : decode cX0_line 24 = .ok (.ldc 156, 2) := by decide +kernel
theorem dX0_line_26 : decode cX0_line 26 = .ok (.invokespecial 85, 3) := by decide +kernel
theorem dX0_line_29 : decode cX0_line 29 = .ok (.athrow, 1) := by decide +kernel
theorem dX0_line_30 : decode cX0_line 30 = .ok (.aload_n 0, 1) := by decide +kernel
theorem dX0_line_31 : decode cX0_line 31 = .ok (.iload_n 1, 1) := by decide +kernel
theorem dX0_line_32 : decode cX0_line 32 = .ok (.iload_n 2, 1) := by decide +kernel
theorem dX0_line_33 : decode cX0_line 33 = .ok (.invokevirtual 158, 3) := by decide +kernel
theorem dX0_line_36 : decode cX0_line 36 = .ok (.ireturn, 1) := by decide +kernel
set_option maxRecDepth 20000 in
theorem ggX0_count_X0_isBelow : GoodIn wsX0_count wsX0_isBelow := goodIn_r _ [6] (by decide +kernel) (by decide +kernel)
set_option maxRecDepth 20000 in
theorem gX0_count_X0_isBelow : GoodIn wsX0_count (va_wsS RX0 141 yX0_isBelow wsX0_isBelow) := goodIn_app (goodIn_of _ (by decide +kernel)) ggX0_count_X0_isBelow
set_option maxRecDepth 20000 in
theorem ggX0_count_X0_countAnswer : GoodIn wsX0_count wsX0_countAnswer := goodIn_r _ [10, 11, 12, 13, 14, 15, 16, 17, 18, 19, 5, 20, 21, 22, 23, 24, 3, 4, 6, 25, 26, 27, 28, 29, 30, 31, 32, 33, 34, 35, 36, 37, 38, 39, 40, 41, 42, 43, 44, 45, 46, 47, 48, 49, 50, 51, 52, 53, 54, 55, 56, 57, 58, 59, 60, 61] (by decide +kernel) (by decide +kernel)
set_option maxRecDepth 20000 in
theorem gX0_count_X0_countAnswer : GoodIn wsX0_count (wsV RX0 163 RX0 yX0_countAnswer wsX0_countAnswer) := goodIn_app (goodIn_of _ (by decide +kernel)) ggX0_count_X0_countAnswer
theorem dX0_count_0 : decode cX0_count 0 = .ok (.iload_n 1, 1) := by decide +kernel
theorem dX0_count_1 : decode cX0_count 1 = .ok (.bipush 11, 2) := by decide +kernel
theorem dX0_count_3 : decode cX0_count 3 = .ok (.invokestatic 141, 3) := by decide +kernel
theorem dX0_count_6 : decode cX0_count 6 = .ok (.ifCond .ne 13, 3) := by decide +kernel
theorem dX0_count_9 : decode cX0_count 9 = .ok (.new 81, 3) := by decide +kernel
theorem dX0_count_12 : decode cX0_count 12 = .ok (.dup, 1) := by decide +kernel
theorem dX0_count_13 : decode cX0_count 13 = .ok (.ldc 161, 2) := by decide +kernel
theorem dX0_count_15 : decode cX0_count 15 = .ok (.invokespecial 85, 3) := by decide +kernel
theorem dX0_count_18 : decode cX0_count 18 = .ok (.athrow, 1) := by decide +kernel
theorem dX0_count_19 : decode cX0_count 19 = .ok (.aload_n 0, 1) := by decide +kernel
theorem dX0_count_20 : decode cX0_count 20 = .ok (.iload_n 1, 1) := by decide +kernel
theorem dX0_count_21 : decode cX0_count 21 = .ok (.invokevirtual 163, 3) := by decide +kernel
theorem dX0_count_24 : decode cX0_count 24 = .ok (.ireturn, 1) := by decide +kernel
set_option maxRecDepth 20000 in
theorem ggX0_would_X0_isBelow : GoodIn wsX0_would wsX0_isBelow := goodIn_r _ [8] (by decide +kernel) (by decide +kernel)
set_option maxRecDepth 20000 in
theorem gX0_would_X0_isBelow : GoodIn wsX0_would (va_wsS RX0 141 yX0_isBelow wsX0_isBelow) := goodIn_app (goodIn_of _ (by decide +kernel)) ggX0_would_X0_isBelow
set_option maxRecDepth 20000 in
theorem ggX0_would_X0_linesToDoAnew : GoodIn wsX0_would wsX0_linesToDoAnew := goodIn_r _ [12, 4, 13, 14, 15, 7, 16, 17, 18, 19, 20, 21, 5, 6, 8, 54, 55, 56, 57, 58, 59, 60, 61, 62, 63, 64, 65, 66, 67, 68] (by decide +kernel) (by decide +kernel)
set_option maxRecDepth 20000 in
theorem gX0_would_X0_linesToDoAnew : GoodIn wsX0_would (wsV RX0 169 RX0 yX0_linesToDoAnew wsX0_linesToDoAnew) := goodIn_app (goodIn_of _ (by decide +kernel)) ggX0_would_X0_linesToDoAnew
set_option maxRecDepth 20000 in
theorem ggX0_would_X0_linesToTakeBack : GoodIn wsX0_would wsX0_linesToTakeBack := goodIn_r _ [25, 26, 4, 27, 28, 29, 7, 30, 31, 32, 19, 20, 21, 5, 6, 8, 33, 34, 35, 36, 37, 38, 39, 40, 41, 42, 43, 44, 54, 55, 56, 57, 58, 59, 60, 61, 62, 63, 64, 65, 66, 67, 68] (by decide +kernel) (by decide +kernel)
set_option maxRecDepth 20000 in
theorem gX0_would_X0_linesToTakeBack : GoodIn wsX0_would (wsV RX0 172 RX0 yX0_linesToTakeBack wsX0_linesToTakeBack) := goodIn_app (goodIn_of _ (by decide +kernel)) ggX0_would_X0_linesToTakeBack
set_option maxRecDepth 20000 in
theorem ggX0_would_X0_firstLineToDoAnew : GoodIn wsX0_would wsX0_firstLineToDoAnew := goodIn_r _ [48, 4, 13, 14, 15, 7, 16, 17, 18, 19, 20, 21, 5, 6, 8, 54, 55, 56, 57, 58, 59, 60, 61, 62, 63, 64, 65, 66, 67, 68] (by decide +kernel) (by decide +kernel)
set_option maxRecDepth 20000 in
theorem gX0_would_X0_firstLineToDoAnew : GoodIn wsX0_would (wsV RX0 175 RX0 yX0_firstLineToDoAnew wsX0_firstLineToDoAnew) := goodIn_app (goodIn_of _ (by decide +kernel)) ggX0_would_X0_firstLineToDoAnew
set_option maxRecDepth 20000 in
theorem ggX0_would_X0_dishesToForget : GoodIn wsX0_would wsX0_dishesToForget := goodIn_r _ [52, 26, 53, 4, 19, 20, 7, 21, 5, 6, 8, 27, 28, 29, 30, 31, 32, 33, 34, 35, 54, 55, 56, 57, 58, 59, 60, 61, 62, 63, 64, 65, 66, 67, 68] (by decide +kernel) (by decide +kernel)
set_option maxRecDepth 20000 in
theorem gX0_would_X0_dishesToForget : GoodIn wsX0_would (wsV RX0 178 RX0 yX0_dishesToForget wsX0_dishesToForget) := goodIn_app (goodIn_of _ (by decide +kernel)) ggX0_would_X0_dishesToForget
theorem dX0_would_0 : decode cX0_would 0 = .ok (.iload_n 1, 1) := by decide +kernel
theorem dX0_would_1 : decode cX0_would 1 = .ok (.iconst 5, 1) := by decide +kernel
theorem dX0_would_2 : decode cX0_would 2 = .ok (.invokestatic 141, 3) := by decide +kernel
theorem dX0_would_5 : decode cX0_would 5 = .ok (.ifCond .ne 13, 3) := by decide +kernel
theorem dX0_would_8 : decode cX0_would 8 = .ok (.new 81, 3) := by decide +kernel
theorem dX0_would_11 : decode cX0_would 11 = .ok (.dup, 1) := by decide +kernel
theorem dX0_would_12 : decode cX0_would 12 = .ok (.ldc 161, 2) := by decide +kernel
theorem dX0_would_14 : decode cX0_would 14 = .ok (.invokespecial 85, 3) := by decide +kernel
theorem dX0_would_17 : decode cX0_would 17 = .ok (.athrow, 1) := by decide +kernel
theorem dX0_would_18 : decode cX0_would 18 = .ok (.iload_n 1, 1) := by decide +kernel
theorem dX0_would_19 : decode cX0_would 19 = .ok (.tableswitch 54 0 3 #[29, 39, 44, 49], 29) := by decide +kernel
theorem dX0_would_48 : decode cX0_would 48 = .ok (.aload_n 0, 1) := by decide +kernel
theorem dX0_would_49 : decode cX0_would 49 = .ok (.getfield 112, 3) := by decide +kernel
theorem dX0_would_52 : decode cX0_would 52 = .ok (.aload_n 0, 1) := by decide +kernel
theorem dX0_would_53 : decode cX0_would 53 = .ok (.getfield 166, 3) := by decide +kernel
theorem dX0_would_56 : decode cX0_would 56 = .ok (.isub, 1) := by decide +kernel
theorem dX0_would_57 : decode cX0_would 57 = .ok (.ireturn, 1) := by decide +kernel
theorem dX0_would_58 : decode cX0_would 58 = .ok (.aload_n 0, 1) := by decide +kernel
theorem dX0_would_59 : decode cX0_would 59 = .ok (.invokevirtual 169, 3) := by decide +kernel
theorem dX0_would_62 : decode cX0_would 62 = .ok (.ireturn, 1) := by decide +kernel
theorem dX0_would_63 : decode cX0_would 63 = .ok (.aload_n 0, 1) := by decide +kernel
theorem dX0_would_64 : decode cX0_would 64 = .ok (.invokevirtual 172, 3) := by decide +kernel
theorem dX0_would_67 : decode cX0_would 67 = .ok (.ireturn, 1) := by decide +kernel
theorem dX0_would_68 : decode cX0_would 68 = .ok (.aload_n 0, 1) := by decide +kernel
theorem dX0_would_69 : decode cX0_would 69 = .ok (.invokevirtual 175, 3) := by decide +kernel
theorem dX0_would_72 : decode cX0_would 72 = .ok (.ireturn, 1) := by decide +kernel
theorem dX0_would_73 : decode cX0_would 73 = .ok (.aload_n 0, 1) := by decide +kernel
theorem dX0_would_74 : decode cX0_would 74 = .ok (.invokevirtual 178, 3) := by decide +kernel
theorem dX0_would_77 : decode cX0_would 77 = .ok (.ireturn, 1) := by decide +kernel
set_option maxRecDepth 20000 in
theorem ggX0_left_X0_isPot : GoodIn wsX0_left wsX0_isPot := goodIn_r _ [11, 12, 13, 10, 14] (by decide +kernel) (by decide +kernel)
set_option maxRecDepth 20000 in
theorem gX0_left_X0_isPot : GoodIn wsX0_left (va_wsS RX0 78 yX0_isPot wsX0_isPot) := goodIn_app (goodIn_of _ (by decide +kernel)) ggX0_left_X0_isPot
set_option maxRecDepth 20000 in
theorem ggX0_left_X0_at : GoodIn wsX0_left wsX0_at := goodIn_r _ [17, 12, 13, 10, 14] (by decide +kernel) (by decide +kernel)
set_option maxRecDepth 20000 in
theorem gX0_left_X0_at : GoodIn wsX0_left (va_wsS RX0 102 yX0_at wsX0_at) := goodIn_app (goodIn_of _ (by decide +kernel)) ggX0_left_X0_at
set_option maxRecDepth 20000 in
theorem ggX0_left_X0_isToDoAnew : GoodIn wsX0_left wsX0_isToDoAnew := goodIn_r _ [21, 5, 22, 15, 16, 10, 17, 12, 13, 14, 42, 43, 44, 45, 46, 47, 48, 49, 50, 51, 52, 53, 54, 55, 56] (by decide +kernel) (by decide +kernel)
set_option maxRecDepth 20000 in
theorem gX0_left_X0_isToDoAnew : GoodIn wsX0_left (wsV RX0 181 RX0 yX0_isToDoAnew wsX0_isToDoAnew) := goodIn_app (goodIn_of _ (by decide +kernel)) ggX0_left_X0_isToDoAnew
set_option maxRecDepth 20000 in
theorem ggX0_left_X0_stateByLines : GoodIn wsX0_left wsX0_stateByLines := goodIn_r _ [26, 27, 28, 15, 16, 10, 17, 12, 13, 14, 29, 30, 31, 42, 43, 44, 45, 46, 47, 48, 49, 50, 51, 52, 53, 54, 55, 56] (by decide +kernel) (by decide +kernel)
set_option maxRecDepth 20000 in
theorem gX0_left_X0_stateByLines : GoodIn wsX0_left (wsV RX0 184 RX0 yX0_stateByLines wsX0_stateByLines) := goodIn_app (goodIn_of _ (by decide +kernel)) ggX0_left_X0_stateByLines
set_option maxRecDepth 20000 in
theorem ggX0_left_X0_spoonsAfterUndoing : GoodIn wsX0_left wsX0_spoonsAfterUndoing := goodIn_r _ [35, 4, 5, 36, 15, 16, 10, 17, 12, 13, 14, 37, 38, 39, 40, 27, 28, 41, 42, 43, 44, 45, 46, 47, 48, 49, 50, 51, 52, 53, 54, 55, 56] (by decide +kernel) (by decide +kernel)
set_option maxRecDepth 20000 in
theorem gX0_left_X0_spoonsAfterUndoing : GoodIn wsX0_left (wsV RX0 187 RX0 yX0_spoonsAfterUndoing wsX0_spoonsAfterUndoing) := goodIn_app (goodIn_of _ (by decide +kernel)) ggX0_left_X0_spoonsAfterUndoing
theorem dX0_left_0 : decode cX0_left 0 = .ok (.iload_n 1, 1) := by decide +kernel
theorem dX0_left_1 : decode cX0_left 1 = .ok (.invokestatic 78, 3) := by decide +kernel
theorem dX0_left_4 : decode cX0_left 4 = .ok (.ifCond .ne 13, 3) := by decide +kernel
theorem dX0_left_7 : decode cX0_left 7 = .ok (.new 81, 3) := by decide +kernel
theorem dX0_left_10 : decode cX0_left 10 = .ok (.dup, 1) := by decide +kernel
theorem dX0_left_11 : decode cX0_left 11 = .ok (.ldc 121, 2) := by decide +kernel
theorem dX0_left_13 : decode cX0_left 13 = .ok (.invokespecial 85, 3) := by decide +kernel
theorem dX0_left_16 : decode cX0_left 16 = .ok (.athrow, 1) := by decide +kernel
theorem dX0_left_17 : decode cX0_left 17 = .ok (.aload_n 0, 1) := by decide +kernel
theorem dX0_left_18 : decode cX0_left 18 = .ok (.getfield 13, 3) := by decide +kernel
theorem dX0_left_21 : decode cX0_left 21 = .ok (.iload_n 1, 1) := by decide +kernel
theorem dX0_left_22 : decode cX0_left 22 = .ok (.invokestatic 102, 3) := by decide +kernel
theorem dX0_left_25 : decode cX0_left 25 = .ok (.istore_n 2, 1) := by decide +kernel
theorem dX0_left_26 : decode cX0_left 26 = .ok (.iconst 0, 1) := by decide +kernel
theorem dX0_left_27 : decode cX0_left 27 = .ok (.istore_n 3, 1) := by decide +kernel
theorem dX0_left_28 : decode cX0_left 28 = .ok (.iload_n 3, 1) := by decide +kernel
theorem dX0_left_29 : decode cX0_left 29 = .ok (.aload_n 0, 1) := by decide +kernel
theorem dX0_left_30 : decode cX0_left 30 = .ok (.getfield 166, 3) := by decide +kernel
theorem dX0_left_33 : decode cX0_left 33 = .ok (.if_icmp .ge 38, 3) := by decide +kernel
theorem dX0_left_36 : decode cX0_left 36 = .ok (.aload_n 0, 1) := by decide +kernel
theorem dX0_left_37 : decode cX0_left 37 = .ok (.getfield 28, 3) := by decide +kernel
theorem dX0_left_40 : decode cX0_left 40 = .ok (.iload_n 3, 1) := by decide +kernel
theorem dX0_left_41 : decode cX0_left 41 = .ok (.invokestatic 102, 3) := by decide +kernel
theorem dX0_left_44 : decode cX0_left 44 = .ok (.iload_n 1, 1) := by decide +kernel
theorem dX0_left_45 : decode cX0_left 45 = .ok (.if_icmp .ne 20, 3) := by decide +kernel
theorem dX0_left_48 : decode cX0_left 48 = .ok (.aload_n 0, 1) := by decide +kernel
theorem dX0_left_49 : decode cX0_left 49 = .ok (.iload_n 3, 1) := by decide +kernel
theorem dX0_left_50 : decode cX0_left 50 = .ok (.invokevirtual 181, 3) := by decide +kernel
theorem dX0_left_53 : decode cX0_left 53 = .ok (.ifCond .eq 12, 3) := by decide +kernel
theorem dX0_left_56 : decode cX0_left 56 = .ok (.aload_n 0, 1) := by decide +kernel
theorem dX0_left_57 : decode cX0_left 57 = .ok (.getfield 34, 3) := by decide +kernel
theorem dX0_left_60 : decode cX0_left 60 = .ok (.iload_n 3, 1) := by decide +kernel
theorem dX0_left_61 : decode cX0_left 61 = .ok (.invokestatic 102, 3) := by decide +kernel
theorem dX0_left_64 : decode cX0_left 64 = .ok (.istore_n 2, 1) := by decide +kernel
theorem dX0_left_65 : decode cX0_left 65 = .ok (.iinc 3 1, 3) := by decide +kernel
theorem dX0_left_68 : decode cX0_left 68 = .ok (.goto (-40), 3) := by decide +kernel
theorem dX0_left_71 : decode cX0_left 71 = .ok (.aload_n 0, 1) := by decide +kernel
theorem dX0_left_72 : decode cX0_left 72 = .ok (.getfield 49, 3) := by decide +kernel
theorem dX0_left_75 : decode cX0_left 75 = .ok (.iconst 1, 1) := by decide +kernel
theorem dX0_left_76 : decode cX0_left 76 = .ok (.isub, 1) := by decide +kernel
theorem dX0_left_77 : decode cX0_left 77 = .ok (.istore_n 3, 1) := by decide +kernel
theorem dX0_left_78 : decode cX0_left 78 = .ok (.iload_n 3, 1) := by decide +kernel
theorem dX0_left_79 : decode cX0_left 79 = .ok (.ifCond .lt 29, 3) := by decide +kernel
theorem dX0_left_82 : decode cX0_left 82 = .ok (.aload_n 0, 1) := by decide +kernel
theorem dX0_left_83 : decode cX0_left 83 = .ok (.iload_n 3, 1) := by decide +kernel
theorem dX0_left_84 : decode cX0_left 84 = .ok (.aload_n 0, 1) := by decide +kernel
theorem dX0_left_85 : decode cX0_left 85 = .ok (.getfield 166, 3) := by decide +kernel
theorem dX0_left_88 : decode cX0_left 88 = .ok (.invokevirtual 184, 3) := by decide +kernel
theorem dX0_left_91 : decode cX0_left 91 = .ok (.ifCond .ne 11, 3) := by decide +kernel
theorem dX0_left_94 : decode cX0_left 94 = .ok (.aload_n 0, 1) := by decide +kernel
theorem dX0_left_95 : decode cX0_left 95 = .ok (.iload_n 3, 1) := by decide +kernel
theorem dX0_left_96 : decode cX0_left 96 = .ok (.iload_n 1, 1) := by decide +kernel
theorem dX0_left_97 : decode cX0_left 97 = .ok (.iload_n 2, 1) := by decide +kernel
theorem dX0_left_98 : decode cX0_left 98 = .ok (.invokevirtual 187, 3) := by decide +kernel
theorem dX0_left_101 : decode cX0_left 101 = .ok (.istore_n 2, 1) := by decide +kernel
theorem dX0_left_102 : decode cX0_left 102 = .ok (.iinc 3 (-1), 3) := by decide +kernel
theorem dX0_left_105 : decode cX0_left 105 = .ok (.goto (-27), 3) := by decide +kernel
theorem dX0_left_108 : decode cX0_left 108 = .ok (.iload_n 2, 1) := by decide +kernel
theorem dX0_left_109 : decode cX0_left 109 = .ok (.ireturn, 1) := by decide +kernel
set_option maxRecDepth 20000 in
theorem ggX0_mean_X0_sumOf : GoodIn wsX0_mean wsX0_sumOf := goodIn_r _ [6] (by decide +kernel) (by decide +kernel)
set_option maxRecDepth 20000 in
theorem gX0_mean_X0_sumOf : GoodIn wsX0_mean (va_wsS RX0 191 yX0_sumOf wsX0_sumOf) := goodIn_app (goodIn_of _ (by decide +kernel)) ggX0_mean_X0_sumOf
theorem dX0_mean_0 : decode cX0_mean 0 = .ok (.aload_n 0, 1) := by decide +kernel
theorem dX0_mean_1 : decode cX0_mean 1 = .ok (.getfield 9, 3) := by decide +kernel
theorem dX0_mean_4 : decode cX0_mean 4 = .ok (.invokestatic 191, 3) := by decide +kernel
theorem dX0_mean_7 : decode cX0_mean 7 = .ok (.i2d, 1) := by decide +kernel
theorem dX0_mean_8 : decode cX0_mean 8 = .ok (.ldc2_w 195, 3) := by decide +kernel
theorem dX0_mean_11 : decode cX0_mean 11 = .ok (.ddiv, 1) := by decide +kernel
theorem dX0_mean_12 : decode cX0_mean 12 = .ok (.dreturn, 1) := by decide +kernel
set_option maxRecDepth 20000 in
theorem ggX0_digest_X0_countAnswer : GoodIn wsX0_digest wsX0_countAnswer := goodIn_r _ [9, 4, 10, 3, 11, 12, 13, 14, 15, 16, 8, 17, 18, 19, 20, 21, 22, 23, 24, 25, 26, 27, 28, 29, 30, 31, 32, 33, 34, 35, 36, 37, 38, 39, 40, 41, 42, 43, 44, 45, 46, 84, 85, 86, 87, 88, 89, 90, 91, 92, 93, 94, 95, 96, 97, 98] (by decide +kernel) (by decide +kernel)
set_option maxRecDepth 20000 in
theorem gX0_digest_X0_countAnswer : GoodIn wsX0_digest (wsV RX0 163 RX0 yX0_countAnswer wsX0_countAnswer) := goodIn_app (goodIn_of _ (by decide +kernel)) ggX0_digest_X0_countAnswer
set_option maxRecDepth 20000 in
theorem ggX0_digest_X0_potAnswer : GoodIn wsX0_digest wsX0_potAnswer := goodIn_r _ [50, 11, 12, 51, 19, 20, 8, 21, 22, 23, 24, 52, 53, 54, 55, 4, 41, 42, 56, 29, 30, 31, 32, 18, 57, 58, 59, 60, 84, 85, 86, 87, 88, 89, 90, 91, 92, 93, 94, 95, 96, 97, 98] (by decide +kernel) (by decide +kernel)
set_option maxRecDepth 20000 in
theorem gX0_digest_X0_potAnswer : GoodIn wsX0_digest (wsV RX0 147 RX0 yX0_potAnswer wsX0_potAnswer) := goodIn_app (goodIn_of _ (by decide +kernel)) ggX0_digest_X0_potAnswer
set_option maxRecDepth 20000 in
theorem ggX0_digest_X0_dishAnswer : GoodIn wsX0_digest wsX0_dishAnswer := goodIn_r _ [64, 18, 4, 19, 20, 8, 21, 22, 23, 24, 65, 66, 67, 68, 41, 33, 34, 35, 36, 37, 38, 39, 40, 42, 43, 69, 70, 71, 72, 52, 53, 54, 55, 56, 29, 30, 31, 32, 73, 74, 75, 76, 84, 85, 86, 87, 88, 89, 90, 91, 92, 93, 94, 95, 96, 97, 98] (by decide +kernel) (by decide +kernel)
set_option maxRecDepth 20000 in
theorem gX0_digest_X0_dishAnswer : GoodIn wsX0_digest (wsV RX0 153 RX0 yX0_dishAnswer wsX0_dishAnswer) := goodIn_app (goodIn_of _ (by decide +kernel)) ggX0_digest_X0_dishAnswer
set_option maxRecDepth 20000 in
theorem ggX0_digest_X0_lineAnswer : GoodIn wsX0_digest wsX0_lineAnswer := goodIn_r _ [80, 41, 42, 56, 81, 82, 83, 10, 19, 20, 8, 21, 22, 23, 24, 84, 85, 86, 87, 88, 89, 90, 91, 92, 93, 94, 95, 96, 97, 98] (by decide +kernel) (by decide +kernel)
set_option maxRecDepth 20000 in
theorem gX0_digest_X0_lineAnswer : GoodIn wsX0_digest (wsV RX0 158 RX0 yX0_lineAnswer wsX0_lineAnswer) := goodIn_app (goodIn_of _ (by decide +kernel)) ggX0_digest_X0_lineAnswer
theorem dX0_digest_0 : decode cX0_digest 0 = .ok (.ldc2_w 197, 3) := by decide +kernel
theorem dX0_digest_3 : decode cX0_digest 3 = .ok (.lstore_n 1, 1) := by decide +kernel
theorem dX0_digest_4 : decode cX0_digest 4 = .ok (.iconst 0, 1) := by decide +kernel
theorem dX0_digest_5 : decode cX0_digest 5 = .ok (.istore_n 3, 1) := by decide +kernel
theorem dX0_digest_6 : decode cX0_digest 6 = .ok (.iload_n 3, 1) := by decide +kernel
theorem dX0_digest_7 : decode cX0_digest 7 = .ok (.bipush 11, 2) := by decide +kernel
theorem dX0_digest_9 : decode cX0_digest 9 = .ok (.if_icmp .ge 22, 3) := by decide +kernel
theorem dX0_digest_12 : decode cX0_digest 12 = .ok (.lload_n 1, 1) := by decide +kernel
theorem dX0_digest_13 : decode cX0_digest 13 = .ok (.ldc2_w 199, 3) := by decide +kernel
theorem dX0_digest_16 : decode cX0_digest 16 = .ok (.lmul, 1) := by decide +kernel
theorem dX0_digest_17 : decode cX0_digest 17 = .ok (.aload_n 0, 1) := by decide +kernel
theorem dX0_digest_18 : decode cX0_digest 18 = .ok (.iload_n 3, 1) := by decide +kernel
theorem dX0_digest_19 : decode cX0_digest 19 = .ok (.invokevirtual 163, 3) := by decide +kernel
theorem dX0_digest_22 : decode cX0_digest 22 = .ok (.i2l, 1) := by decide +kernel
theorem dX0_digest_23 : decode cX0_digest 23 = .ok (.ladd, 1) := by decide +kernel
theorem dX0_digest_24 : decode cX0_digest 24 = .ok (.lstore_n 1, 1) := by decide +kernel
theorem dX0_digest_25 : decode cX0_digest 25 = .ok (.iinc 3 1, 3) := by decide +kernel
theorem dX0_digest_28 : decode cX0_digest 28 = .ok (.goto (-22), 3) := by decide +kernel
theorem dX0_digest_31 : decode cX0_digest 31 = .ok (.iconst 0, 1) := by decide +kernel
theorem dX0_digest_32 : decode cX0_digest 32 = .ok (.istore_n 3, 1) := by decide +kernel
theorem dX0_digest_33 : decode cX0_digest 33 = .ok (.iload_n 3, 1) := by decide +kernel
theorem dX0_digest_34 : decode cX0_digest 34 = .ok (.bipush 8, 2) := by decide +kernel
theorem dX0_digest_36 : decode cX0_digest 36 = .ok (.if_icmp .ge 39, 3) := by decide +kernel
theorem dX0_digest_39 : decode cX0_digest 39 = .ok (.iconst 0, 1) := by decide +kernel
theorem dX0_digest_40 : decode cX0_digest 40 = .ok (.istore 4, 2) := by decide +kernel
theorem dX0_digest_42 : decode cX0_digest 42 = .ok (.iload 4, 2) := by decide +kernel
theorem dX0_digest_44 : decode cX0_digest 44 = .ok (.iconst 5, 1) := by decide +kernel
theorem dX0_digest_45 : decode cX0_digest 45 = .ok (.if_icmp .ge 24, 3) := by decide +kernel
theorem dX0_digest_48 : decode cX0_digest 48 = .ok (.lload_n 1, 1) := by decide +kernel
theorem dX0_digest_49 : decode cX0_digest 49 = .ok (.ldc2_w 199, 3) := by decide +kernel
theorem dX0_digest_52 : decode cX0_digest 52 = .ok (.lmul, 1) := by decide +kernel
theorem dX0_digest_53 : decode cX0_digest 53 = .ok (.aload_n 0, 1) := by decide +kernel
theorem dX0_digest_54 : decode cX0_digest 54 = .ok (.iload_n 3, 1) := by decide +kernel
theorem dX0_digest_55 : decode cX0_digest 55 = .ok (.iload 4, 2) := by decide +kernel
theorem dX0_digest_57 : decode cX0_digest 57 = .ok (.invokevirtual 147, 3) := by decide +kernel
theorem dX0_digest_60 : decode cX0_digest 60 = .ok (.i2l, 1) := by decide +kernel
theorem dX0_digest_61 : decode cX0_digest 61 = .ok (.ladd, 1) := by decide +kernel
theorem dX0_digest_62 : decode cX0_digest 62 = .ok (.lstore_n 1, 1) := by decide +kernel
theorem dX0_digest_63 : decode cX0_digest 63 = .ok (.iinc 4 1, 3) := by decide +kernel
theorem dX0_digest_66 : decode cX0_digest 66 = .ok (.goto (-24), 3) := by decide +kernel
theorem dX0_digest_69 : decode cX0_digest 69 = .ok (.iinc 3 1, 3) := by decide +kernel
theorem dX0_digest_72 : decode cX0_digest 72 = .ok (.goto (-39), 3) := by decide +kernel
theorem dX0_digest_75 : decode cX0_digest 75 = .ok (.iconst 0, 1) := by decide +kernel
theorem dX0_digest_76 : decode cX0_digest 76 = .ok (.istore_n 3, 1) := by decide +kernel
theorem dX0_digest_77 : decode cX0_digest 77 = .ok (.iload_n 3, 1) := by decide +kernel
theorem dX0_digest_78 : decode cX0_digest 78 = .ok (.aload_n 0, 1) := by decide +kernel
theorem dX0_digest_79 : decode cX0_digest 79 = .ok (.getfield 49, 3) := by decide +kernel
theorem dX0_digest_82 : decode cX0_digest 82 = .ok (.if_icmp .ge 39, 3) := by decide +kernel
end
section
theorem dX0_digest_85 : decode cX0_digest 85 = .ok (.iconst 0, 1) := by decide +kernel
theorem dX0_digest_86 : decode cX0_digest 86 = .ok (.istore 4, 2) := by decide +kernel
theorem dX0_digest_88 : decode cX0_digest 88 = .ok (.iload 4, 2) := by decide +kernel
theorem dX0_digest_90 : decode cX0_digest 90 = .ok (.iconst 5, 1) := by decide +kernel
theorem dX0_digest_91 : decode cX0_digest 91 = .ok (.if_icmp .ge 24, 3) := by decide +kernel
theorem dX0_digest_94 : decode cX0_digest 94 = .ok (.lload_n 1, 1) := by decide +kernel
theorem dX0_digest_95 : decode cX0_digest 95 = .ok (.ldc2_w 199, 3) := by decide +kernel
theorem dX0_digest_98 : decode cX0_digest 98 = .ok (.lmul, 1) := by decide +kernel
theorem dX0_digest_99 : decode cX0_digest 99 = .ok (.aload_n 0, 1) := by decide +kernel
theorem dX0_digest_100 : decode cX0_digest 100 = .ok (.iload_n 3, 1) := by decide +kernel
theorem dX0_digest_101 : decode cX0_digest 101 = .ok (.iload 4, 2) := by decide +kernel
theorem dX0_digest_103 : decode cX0_digest 103 = .ok (.invokevirtual 153, 3) := by decide +kernel
theorem dX0_digest_106 : decode cX0_digest 106 = .ok (.i2l, 1) := by decide +kernel
theorem dX0_digest_107 : decode cX0_digest 107 = .ok (.ladd, 1) := by decide +kernel
theorem dX0_digest_108 : decode cX0_digest 108 = .ok (.lstore_n 1, 1) := by decide +kernel
theorem dX0_digest_109 : decode cX0_digest 109 = .ok (.iinc 4 1, 3) := by decide +kernel
theorem dX0_digest_112 : decode cX0_digest 112 = .ok (.goto (-24), 3) := by decide +kernel
theorem dX0_digest_115 : decode cX0_digest 115 = .ok (.iinc 3 1, 3) := by decide +kernel
theorem dX0_digest_118 : decode cX0_digest 118 = .ok (.goto (-41), 3) := by decide +kernel
theorem dX0_digest_121 : decode cX0_digest 121 = .ok (.iconst 0, 1) := by decide +kernel
theorem dX0_digest_122 : decode cX0_digest 122 = .ok (.istore_n 3, 1) := by decide +kernel
theorem dX0_digest_123 : decode cX0_digest 123 = .ok (.iload_n 3, 1) := by decide +kernel
theorem dX0_digest_124 : decode cX0_digest 124 = .ok (.aload_n 0, 1) := by decide +kernel
theorem dX0_digest_125 : decode cX0_digest 125 = .ok (.getfield 112, 3) := by decide +kernel
theorem dX0_digest_128 : decode cX0_digest 128 = .ok (.if_icmp .ge 40, 3) := by decide +kernel
theorem dX0_digest_131 : decode cX0_digest 131 = .ok (.iconst 0, 1) := by decide +kernel
theorem dX0_digest_132 : decode cX0_digest 132 = .ok (.istore 4, 2) := by decide +kernel
theorem dX0_digest_134 : decode cX0_digest 134 = .ok (.iload 4, 2) := by decide +kernel
theorem dX0_digest_136 : decode cX0_digest 136 = .ok (.bipush 7, 2) := by decide +kernel
theorem dX0_digest_138 : decode cX0_digest 138 = .ok (.if_icmp .ge 24, 3) := by decide +kernel
theorem dX0_digest_141 : decode cX0_digest 141 = .ok (.lload_n 1, 1) := by decide +kernel
theorem dX0_digest_142 : decode cX0_digest 142 = .ok (.ldc2_w 199, 3) := by decide +kernel
theorem dX0_digest_145 : decode cX0_digest 145 = .ok (.lmul, 1) := by decide +kernel
theorem dX0_digest_146 : decode cX0_digest 146 = .ok (.aload_n 0, 1) := by decide +kernel
theorem dX0_digest_147 : decode cX0_digest 147 = .ok (.iload_n 3, 1) := by decide +kernel
theorem dX0_digest_148 : decode cX0_digest 148 = .ok (.iload 4, 2) := by decide +kernel
theorem dX0_digest_150 : decode cX0_digest 150 = .ok (.invokevirtual 158, 3) := by decide +kernel
theorem dX0_digest_153 : decode cX0_digest 153 = .ok (.i2l, 1) := by decide +kernel
theorem dX0_digest_154 : decode cX0_digest 154 = .ok (.ladd, 1) := by decide +kernel
theorem dX0_digest_155 : decode cX0_digest 155 = .ok (.lstore_n 1, 1) := by decide +kernel
theorem dX0_digest_156 : decode cX0_digest 156 = .ok (.iinc 4 1, 3) := by decide +kernel
theorem dX0_digest_159 : decode cX0_digest 159 = .ok (.goto (-25), 3) := by decide +kernel
theorem dX0_digest_162 : decode cX0_digest 162 = .ok (.iinc 3 1, 3) := by decide +kernel
theorem dX0_digest_165 : decode cX0_digest 165 = .ok (.goto (-42), 3) := by decide +kernel
theorem dX0_digest_168 : decode cX0_digest 168 = .ok (.lload_n 1, 1) := by decide +kernel
theorem dX0_digest_169 : decode cX0_digest 169 = .ok (.lreturn, 1) := by decide +kernel
set_option maxRecDepth 20000 in
theorem ggX0_at_X0_isBelow : GoodIn wsX0_at wsX0_isBelow := goodIn_r _ [4] (by decide +kernel) (by decide +kernel)
set_option maxRecDepth 20000 in
theorem gX0_at_X0_isBelow : GoodIn wsX0_at (va_wsS RX0 141 yX0_isBelow wsX0_isBelow) := goodIn_app (goodIn_of _ (by decide +kernel)) ggX0_at_X0_isBelow
theorem dX0_at_0 : decode cX0_at 0 = .ok (.iload_n 1, 1) := by decide +kernel
theorem dX0_at_1 : decode cX0_at 1 = .ok (.aload_n 0, 1) := by decide +kernel
theorem dX0_at_2 : decode cX0_at 2 = .ok (.arraylength, 1) := by decide +kernel
theorem dX0_at_3 : decode cX0_at 3 = .ok (.invokestatic 141, 3) := by decide +kernel
theorem dX0_at_6 : decode cX0_at 6 = .ok (.ifCond .eq 9, 3) := by decide +kernel
theorem dX0_at_9 : decode cX0_at 9 = .ok (.aload_n 0, 1) := by decide +kernel
theorem dX0_at_10 : decode cX0_at 10 = .ok (.iload_n 1, 1) := by decide +kernel
theorem dX0_at_11 : decode cX0_at 11 = .ok (.iaload, 1) := by decide +kernel
theorem dX0_at_12 : decode cX0_at 12 = .ok (.goto 4, 3) := by decide +kernel
theorem dX0_at_15 : decode cX0_at 15 = .ok (.iconst (-1), 1) := by decide +kernel
theorem dX0_at_16 : decode cX0_at 16 = .ok (.ireturn, 1) := by decide +kernel
set_option maxRecDepth 20000 in
theorem ggX0_put_X0_isBelow : GoodIn wsX0_put wsX0_isBelow := goodIn_r _ [4] (by decide +kernel) (by decide +kernel)
set_option maxRecDepth 20000 in
theorem gX0_put_X0_isBelow : GoodIn wsX0_put (va_wsS RX0 141 yX0_isBelow wsX0_isBelow) := goodIn_app (goodIn_of _ (by decide +kernel)) ggX0_put_X0_isBelow
theorem dX0_put_0 : decode cX0_put 0 = .ok (.iload_n 1, 1) := by decide +kernel
theorem dX0_put_1 : decode cX0_put 1 = .ok (.aload_n 0, 1) := by decide +kernel
theorem dX0_put_2 : decode cX0_put 2 = .ok (.arraylength, 1) := by decide +kernel
theorem dX0_put_3 : decode cX0_put 3 = .ok (.invokestatic 141, 3) := by decide +kernel
theorem dX0_put_6 : decode cX0_put 6 = .ok (.ifCond .eq 7, 3) := by decide +kernel
theorem dX0_put_9 : decode cX0_put 9 = .ok (.aload_n 0, 1) := by decide +kernel
theorem dX0_put_10 : decode cX0_put 10 = .ok (.iload_n 1, 1) := by decide +kernel
theorem dX0_put_11 : decode cX0_put 11 = .ok (.iload_n 2, 1) := by decide +kernel
theorem dX0_put_12 : decode cX0_put 12 = .ok (.iastore, 1) := by decide +kernel
theorem dX0_put_13 : decode cX0_put 13 = .ok (.return_, 1) := by decide +kernel
theorem dX0_isBelow_0 : decode cX0_isBelow 0 = .ok (.iload_n 0, 1) := by decide +kernel
theorem dX0_isBelow_1 : decode cX0_isBelow 1 = .ok (.ifCond .lt 12, 3) := by decide +kernel
theorem dX0_isBelow_4 : decode cX0_isBelow 4 = .ok (.iload_n 0, 1) := by decide +kernel
theorem dX0_isBelow_5 : decode cX0_isBelow 5 = .ok (.iload_n 1, 1) := by decide +kernel
theorem dX0_isBelow_6 : decode cX0_isBelow 6 = .ok (.if_icmp .ge 7, 3) := by decide +kernel
theorem dX0_isBelow_9 : decode cX0_isBelow 9 = .ok (.iconst 1, 1) := by decide +kernel
theorem dX0_isBelow_10 : decode cX0_isBelow 10 = .ok (.goto 4, 3) := by decide +kernel
theorem dX0_isBelow_13 : decode cX0_isBelow 13 = .ok (.iconst 0, 1) := by decide +kernel
theorem dX0_isBelow_14 : decode cX0_isBelow 14 = .ok (.ireturn, 1) := by decide +kernel
theorem dX0_sumOf_0 : decode cX0_sumOf 0 = .ok (.iconst 0, 1) := by decide +kernel
theorem dX0_sumOf_1 : decode cX0_sumOf 1 = .ok (.istore_n 1, 1) := by decide +kernel
theorem dX0_sumOf_2 : decode cX0_sumOf 2 = .ok (.iconst 0, 1) := by decide +kernel
theorem dX0_sumOf_3 : decode cX0_sumOf 3 = .ok (.istore_n 2, 1) := by decide +kernel
theorem dX0_sumOf_4 : decode cX0_sumOf 4 = .ok (.iload_n 2, 1) := by decide +kernel
theorem dX0_sumOf_5 : decode cX0_sumOf 5 = .ok (.aload_n 0, 1) := by decide +kernel
theorem dX0_sumOf_6 : decode cX0_sumOf 6 = .ok (.arraylength, 1) := by decide +kernel
theorem dX0_sumOf_7 : decode cX0_sumOf 7 = .ok (.if_icmp .ge 15, 3) := by decide +kernel
theorem dX0_sumOf_10 : decode cX0_sumOf 10 = .ok (.iload_n 1, 1) := by decide +kernel
theorem dX0_sumOf_11 : decode cX0_sumOf 11 = .ok (.aload_n 0, 1) := by decide +kernel
theorem dX0_sumOf_12 : decode cX0_sumOf 12 = .ok (.iload_n 2, 1) := by decide +kernel
theorem dX0_sumOf_13 : decode cX0_sumOf 13 = .ok (.iaload, 1) := by decide +kernel
theorem dX0_sumOf_14 : decode cX0_sumOf 14 = .ok (.iadd, 1) := by decide +kernel
theorem dX0_sumOf_15 : decode cX0_sumOf 15 = .ok (.istore_n 1, 1) := by decide +kernel
theorem dX0_sumOf_16 : decode cX0_sumOf 16 = .ok (.iinc 2 1, 3) := by decide +kernel
theorem dX0_sumOf_19 : decode cX0_sumOf 19 = .ok (.goto (-15), 3) := by decide +kernel
theorem dX0_sumOf_22 : decode cX0_sumOf 22 = .ok (.iload_n 1, 1) := by decide +kernel
theorem dX0_sumOf_23 : decode cX0_sumOf 23 = .ok (.ireturn, 1) := by decide +kernel
set_option maxRecDepth 20000 in
theorem ggX0_potAnswer_X0_at : GoodIn wsX0_potAnswer wsX0_at := goodIn_r _ [7, 8, 9, 6, 10] (by decide +kernel) (by decide +kernel)
set_option maxRecDepth 20000 in
theorem gX0_potAnswer_X0_at : GoodIn wsX0_potAnswer (va_wsS RX0 102 yX0_at wsX0_at) := goodIn_app (goodIn_of _ (by decide +kernel)) ggX0_potAnswer_X0_at
set_option maxRecDepth 20000 in
theorem ggX0_potAnswer_X0_holderOf : GoodIn wsX0_potAnswer wsX0_holderOf := goodIn_r _ [14, 15, 16, 17, 18, 4, 5, 6, 7, 8, 9, 10, 19, 20, 21, 22, 23, 28, 29, 30, 31, 32, 33, 34, 35, 36, 37, 38, 39, 40, 41, 42] (by decide +kernel) (by decide +kernel)
set_option maxRecDepth 20000 in
theorem gX0_potAnswer_X0_holderOf : GoodIn wsX0_potAnswer (wsV RX0 96 RX0 yX0_holderOf wsX0_holderOf) := goodIn_app (goodIn_of _ (by decide +kernel)) ggX0_potAnswer_X0_holderOf
set_option maxRecDepth 20000 in
theorem ggX0_potAnswer_X0_latestLineOf : GoodIn wsX0_potAnswer wsX0_latestLineOf := goodIn_r _ [27, 15, 18, 4, 5, 6, 7, 8, 9, 10, 28, 29, 30, 31, 32, 33, 34, 35, 36, 37, 38, 39, 40, 41, 42] (by decide +kernel) (by decide +kernel)
set_option maxRecDepth 20000 in
theorem gX0_potAnswer_X0_latestLineOf : GoodIn wsX0_potAnswer (wsV RX0 123 RX0 yX0_latestLineOf wsX0_latestLineOf) := goodIn_app (goodIn_of _ (by decide +kernel)) ggX0_potAnswer_X0_latestLineOf
theorem dX0_potAnswer_0 : decode cX0_potAnswer 0 = .ok (.iload_n 2, 1) := by decide +kernel
theorem dX0_potAnswer_1 : decode cX0_potAnswer 1 = .ok (.tableswitch 64 0 3 #[31, 40, 49, 58], 31) := by decide +kernel
theorem dX0_potAnswer_32 : decode cX0_potAnswer 32 = .ok (.aload_n 0, 1) := by decide +kernel
theorem dX0_potAnswer_33 : decode cX0_potAnswer 33 = .ok (.getfield 9, 3) := by decide +kernel
theorem dX0_potAnswer_36 : decode cX0_potAnswer 36 = .ok (.iload_n 1, 1) := by decide +kernel
theorem dX0_potAnswer_37 : decode cX0_potAnswer 37 = .ok (.invokestatic 102, 3) := by decide +kernel
theorem dX0_potAnswer_40 : decode cX0_potAnswer 40 = .ok (.ireturn, 1) := by decide +kernel
theorem dX0_potAnswer_41 : decode cX0_potAnswer 41 = .ok (.aload_n 0, 1) := by decide +kernel
theorem dX0_potAnswer_42 : decode cX0_potAnswer 42 = .ok (.getfield 13, 3) := by decide +kernel
theorem dX0_potAnswer_45 : decode cX0_potAnswer 45 = .ok (.iload_n 1, 1) := by decide +kernel
theorem dX0_potAnswer_46 : decode cX0_potAnswer 46 = .ok (.invokestatic 102, 3) := by decide +kernel
theorem dX0_potAnswer_49 : decode cX0_potAnswer 49 = .ok (.ireturn, 1) := by decide +kernel
theorem dX0_potAnswer_50 : decode cX0_potAnswer 50 = .ok (.aload_n 0, 1) := by decide +kernel
theorem dX0_potAnswer_51 : decode cX0_potAnswer 51 = .ok (.getfield 16, 3) := by decide +kernel
theorem dX0_potAnswer_54 : decode cX0_potAnswer 54 = .ok (.iload_n 1, 1) := by decide +kernel
theorem dX0_potAnswer_55 : decode cX0_potAnswer 55 = .ok (.invokestatic 102, 3) := by decide +kernel
theorem dX0_potAnswer_58 : decode cX0_potAnswer 58 = .ok (.ireturn, 1) := by decide +kernel
theorem dX0_potAnswer_59 : decode cX0_potAnswer 59 = .ok (.aload_n 0, 1) := by decide +kernel
theorem dX0_potAnswer_60 : decode cX0_potAnswer 60 = .ok (.iload_n 1, 1) := by decide +kernel
theorem dX0_potAnswer_61 : decode cX0_potAnswer 61 = .ok (.invokevirtual 96, 3) := by decide +kernel
theorem dX0_potAnswer_64 : decode cX0_potAnswer 64 = .ok (.ireturn, 1) := by decide +kernel
theorem dX0_potAnswer_65 : decode cX0_potAnswer 65 = .ok (.aload_n 0, 1) := by decide +kernel
theorem dX0_potAnswer_66 : decode cX0_potAnswer 66 = .ok (.iload_n 1, 1) := by decide +kernel
theorem dX0_potAnswer_67 : decode cX0_potAnswer 67 = .ok (.invokevirtual 123, 3) := by decide +kernel
theorem dX0_potAnswer_70 : decode cX0_potAnswer 70 = .ok (.ireturn, 1) := by decide +kernel
set_option maxRecDepth 20000 in
theorem ggX0_dishAnswer_X0_at : GoodIn wsX0_dishAnswer wsX0_at := goodIn_r _ [6, 7, 8, 5, 9] (by decide +kernel) (by decide +kernel)
set_option maxRecDepth 20000 in
theorem gX0_dishAnswer_X0_at : GoodIn wsX0_dishAnswer (va_wsS RX0 102 yX0_at wsX0_at) := goodIn_app (goodIn_of _ (by decide +kernel)) ggX0_dishAnswer_X0_at
set_option maxRecDepth 20000 in
theorem ggX0_dishAnswer_X0_linesOf : GoodIn wsX0_dishAnswer wsX0_linesOf := goodIn_r _ [13, 2, 14, 3, 4, 5, 6, 7, 8, 9, 42, 43, 44, 45, 46, 47, 48, 49, 50, 51, 52, 53, 54, 55, 56] (by decide +kernel) (by decide +kernel)
set_option maxRecDepth 20000 in
theorem gX0_dishAnswer_X0_linesOf : GoodIn wsX0_dishAnswer (wsV RX0 201 RX0 yX0_linesOf wsX0_linesOf) := goodIn_app (goodIn_of _ (by decide +kernel)) ggX0_dishAnswer_X0_linesOf
set_option maxRecDepth 20000 in
theorem ggX0_dishAnswer_X0_changesNotTakenBack : GoodIn wsX0_dishAnswer wsX0_changesNotTakenBack := goodIn_r _ [18, 19, 20, 21, 5, 22, 14, 23, 24, 3, 4, 6, 7, 8, 9, 42, 43, 44, 45, 46, 47, 48, 49, 50, 51, 52, 53, 54, 55, 56] (by decide +kernel) (by decide +kernel)
set_option maxRecDepth 20000 in
theorem gX0_dishAnswer_X0_changesNotTakenBack : GoodIn wsX0_dishAnswer (wsV RX0 204 RX0 yX0_changesNotTakenBack wsX0_changesNotTakenBack) := goodIn_app (goodIn_of _ (by decide +kernel)) ggX0_dishAnswer_X0_changesNotTakenBack
set_option maxRecDepth 20000 in
theorem ggX0_dishAnswer_X0_potsHeldBy : GoodIn wsX0_dishAnswer wsX0_potsHeldBy := goodIn_r _ [28, 29, 30, 31, 5, 32, 2, 14, 23, 33, 3, 4, 6, 7, 8, 9, 34, 35, 36, 37, 1, 42, 43, 44, 45, 46, 47, 48, 49, 50, 51, 52, 53, 54, 55, 56] (by decide +kernel) (by decide +kernel)
set_option maxRecDepth 20000 in
theorem gX0_dishAnswer_X0_potsHeldBy : GoodIn wsX0_dishAnswer (wsV RX0 207 RX0 yX0_potsHeldBy wsX0_potsHeldBy) := goodIn_app (goodIn_of _ (by decide +kernel)) ggX0_dishAnswer_X0_potsHeldBy
set_option maxRecDepth 20000 in
theorem ggX0_dishAnswer_X0_lastLineOf : GoodIn wsX0_dishAnswer wsX0_lastLineOf := goodIn_r _ [41, 2, 14, 3, 4, 5, 6, 7, 8, 9, 42, 43, 44, 45, 46, 47, 48, 49, 50, 51, 52, 53, 54, 55, 56] (by decide +kernel) (by decide +kernel)
set_option maxRecDepth 20000 in
theorem gX0_dishAnswer_X0_lastLineOf : GoodIn wsX0_dishAnswer (wsV RX0 210 RX0 yX0_lastLineOf wsX0_lastLineOf) := goodIn_app (goodIn_of _ (by decide +kernel)) ggX0_dishAnswer_X0_lastLineOf
theorem dX0_dishAnswer_0 : decode cX0_dishAnswer 0 = .ok (.iload_n 2, 1) := by decide +kernel
theorem dX0_dishAnswer_1 : decode cX0_dishAnswer 1 = .ok (.tableswitch 62 0 3 #[31, 40, 46, 56], 31) := by decide +kernel
theorem dX0_dishAnswer_32 : decode cX0_dishAnswer 32 = .ok (.aload_n 0, 1) := by decide +kernel
theorem dX0_dishAnswer_33 : decode cX0_dishAnswer 33 = .ok (.getfield 19, 3) := by decide +kernel
theorem dX0_dishAnswer_36 : decode cX0_dishAnswer 36 = .ok (.iload_n 1, 1) := by decide +kernel
theorem dX0_dishAnswer_37 : decode cX0_dishAnswer 37 = .ok (.invokestatic 102, 3) := by decide +kernel
theorem dX0_dishAnswer_40 : decode cX0_dishAnswer 40 = .ok (.ireturn, 1) := by decide +kernel
theorem dX0_dishAnswer_41 : decode cX0_dishAnswer 41 = .ok (.aload_n 0, 1) := by decide +kernel
theorem dX0_dishAnswer_42 : decode cX0_dishAnswer 42 = .ok (.iload_n 1, 1) := by decide +kernel
theorem dX0_dishAnswer_43 : decode cX0_dishAnswer 43 = .ok (.invokevirtual 201, 3) := by decide +kernel
theorem dX0_dishAnswer_46 : decode cX0_dishAnswer 46 = .ok (.ireturn, 1) := by decide +kernel
theorem dX0_dishAnswer_47 : decode cX0_dishAnswer 47 = .ok (.aload_n 0, 1) := by decide +kernel
theorem dX0_dishAnswer_48 : decode cX0_dishAnswer 48 = .ok (.iload_n 1, 1) := by decide +kernel
theorem dX0_dishAnswer_49 : decode cX0_dishAnswer 49 = .ok (.aload_n 0, 1) := by decide +kernel
theorem dX0_dishAnswer_50 : decode cX0_dishAnswer 50 = .ok (.getfield 112, 3) := by decide +kernel
theorem dX0_dishAnswer_53 : decode cX0_dishAnswer 53 = .ok (.invokevirtual 204, 3) := by decide +kernel
theorem dX0_dishAnswer_56 : decode cX0_dishAnswer 56 = .ok (.ireturn, 1) := by decide +kernel
theorem dX0_dishAnswer_57 : decode cX0_dishAnswer 57 = .ok (.aload_n 0, 1) := by decide +kernel
theorem dX0_dishAnswer_58 : decode cX0_dishAnswer 58 = .ok (.iload_n 1, 1) := by decide +kernel
theorem dX0_dishAnswer_59 : decode cX0_dishAnswer 59 = .ok (.invokevirtual 207, 3) := by decide +kernel
theorem dX0_dishAnswer_62 : decode cX0_dishAnswer 62 = .ok (.ireturn, 1) := by decide +kernel
theorem dX0_dishAnswer_63 : decode cX0_dishAnswer 63 = .ok (.aload_n 0, 1) := by decide +kernel
theorem dX0_dishAnswer_64 : decode cX0_dishAnswer 64 = .ok (.iload_n 1, 1) := by decide +kernel
theorem dX0_dishAnswer_65 : decode cX0_dishAnswer 65 = .ok (.invokevirtual 210, 3) := by decide +kernel
theorem dX0_dishAnswer_68 : decode cX0_dishAnswer 68 = .ok (.ireturn, 1) := by decide +kernel
set_option maxRecDepth 20000 in
theorem ggX0_lineAnswer_X0_at : GoodIn wsX0_lineAnswer wsX0_at := goodIn_r _ [11, 12, 13, 10, 14] (by decide +kernel) (by decide +kernel)
set_option maxRecDepth 20000 in
theorem gX0_lineAnswer_X0_at : GoodIn wsX0_lineAnswer (va_wsS RX0 102 yX0_at wsX0_at) := goodIn_app (goodIn_of _ (by decide +kernel)) ggX0_lineAnswer_X0_at
theorem dX0_lineAnswer_0 : decode cX0_lineAnswer 0 = .ok (.iload_n 2, 1) := by decide +kernel
theorem dX0_lineAnswer_1 : decode cX0_lineAnswer 1 = .ok (.tableswitch 93 0 5 #[39, 48, 57, 66, 75, 84], 39) := by decide +kernel
theorem dX0_lineAnswer_40 : decode cX0_lineAnswer 40 = .ok (.aload_n 0, 1) := by decide +kernel
theorem dX0_lineAnswer_41 : decode cX0_lineAnswer 41 = .ok (.getfield 22, 3) := by decide +kernel
theorem dX0_lineAnswer_44 : decode cX0_lineAnswer 44 = .ok (.iload_n 1, 1) := by decide +kernel
theorem dX0_lineAnswer_45 : decode cX0_lineAnswer 45 = .ok (.invokestatic 102, 3) := by decide +kernel
theorem dX0_lineAnswer_48 : decode cX0_lineAnswer 48 = .ok (.ireturn, 1) := by decide +kernel
theorem dX0_lineAnswer_49 : decode cX0_lineAnswer 49 = .ok (.aload_n 0, 1) := by decide +kernel
theorem dX0_lineAnswer_50 : decode cX0_lineAnswer 50 = .ok (.getfield 25, 3) := by decide +kernel
theorem dX0_lineAnswer_53 : decode cX0_lineAnswer 53 = .ok (.iload_n 1, 1) := by decide +kernel
theorem dX0_lineAnswer_54 : decode cX0_lineAnswer 54 = .ok (.invokestatic 102, 3) := by decide +kernel
theorem dX0_lineAnswer_57 : decode cX0_lineAnswer 57 = .ok (.ireturn, 1) := by decide +kernel
theorem dX0_lineAnswer_58 : decode cX0_lineAnswer 58 = .ok (.aload_n 0, 1) := by decide +kernel
theorem dX0_lineAnswer_59 : decode cX0_lineAnswer 59 = .ok (.getfield 28, 3) := by decide +kernel
theorem dX0_lineAnswer_62 : decode cX0_lineAnswer 62 = .ok (.iload_n 1, 1) := by decide +kernel
theorem dX0_lineAnswer_63 : decode cX0_lineAnswer 63 = .ok (.invokestatic 102, 3) := by decide +kernel
theorem dX0_lineAnswer_66 : decode cX0_lineAnswer 66 = .ok (.ireturn, 1) := by decide +kernel
theorem dX0_lineAnswer_67 : decode cX0_lineAnswer 67 = .ok (.aload_n 0, 1) := by decide +kernel
theorem dX0_lineAnswer_68 : decode cX0_lineAnswer 68 = .ok (.getfield 31, 3) := by decide +kernel
theorem dX0_lineAnswer_71 : decode cX0_lineAnswer 71 = .ok (.iload_n 1, 1) := by decide +kernel
theorem dX0_lineAnswer_72 : decode cX0_lineAnswer 72 = .ok (.invokestatic 102, 3) := by decide +kernel
theorem dX0_lineAnswer_75 : decode cX0_lineAnswer 75 = .ok (.ireturn, 1) := by decide +kernel
theorem dX0_lineAnswer_76 : decode cX0_lineAnswer 76 = .ok (.aload_n 0, 1) := by decide +kernel
theorem dX0_lineAnswer_77 : decode cX0_lineAnswer 77 = .ok (.getfield 34, 3) := by decide +kernel
theorem dX0_lineAnswer_80 : decode cX0_lineAnswer 80 = .ok (.iload_n 1, 1) := by decide +kernel
theorem dX0_lineAnswer_81 : decode cX0_lineAnswer 81 = .ok (.invokestatic 102, 3) := by decide +kernel
theorem dX0_lineAnswer_84 : decode cX0_lineAnswer 84 = .ok (.ireturn, 1) := by decide +kernel
theorem dX0_lineAnswer_85 : decode cX0_lineAnswer 85 = .ok (.aload_n 0, 1) := by decide +kernel
theorem dX0_lineAnswer_86 : decode cX0_lineAnswer 86 = .ok (.getfield 37, 3) := by decide +kernel
theorem dX0_lineAnswer_89 : decode cX0_lineAnswer 89 = .ok (.iload_n 1, 1) := by decide +kernel
theorem dX0_lineAnswer_90 : decode cX0_lineAnswer 90 = .ok (.invokestatic 102, 3) := by decide +kernel
theorem dX0_lineAnswer_93 : decode cX0_lineAnswer 93 = .ok (.ireturn, 1) := by decide +kernel
theorem dX0_lineAnswer_94 : decode cX0_lineAnswer 94 = .ok (.iload_n 1, 1) := by decide +kernel
theorem dX0_lineAnswer_95 : decode cX0_lineAnswer 95 = .ok (.aload_n 0, 1) := by decide +kernel
theorem dX0_lineAnswer_96 : decode cX0_lineAnswer 96 = .ok (.getfield 166, 3) := by decide +kernel
theorem dX0_lineAnswer_99 : decode cX0_lineAnswer 99 = .ok (.if_icmp .ge 7, 3) := by decide +kernel
theorem dX0_lineAnswer_102 : decode cX0_lineAnswer 102 = .ok (.iconst 1, 1) := by decide +kernel
theorem dX0_lineAnswer_103 : decode cX0_lineAnswer 103 = .ok (.goto 4, 3) := by decide +kernel
theorem dX0_lineAnswer_106 : decode cX0_lineAnswer 106 = .ok (.iconst 0, 1) := by decide +kernel
theorem dX0_lineAnswer_107 : decode cX0_lineAnswer 107 = .ok (.ireturn, 1) := by decide +kernel
set_option maxRecDepth 20000 in
theorem ggX0_countAnswer_X0_dishesThatAre : GoodIn wsX0_countAnswer wsX0_dishesThatAre := goodIn_r _ [11, 3, 12, 13, 14, 10, 15, 16, 17, 18, 41, 42, 43, 44, 45, 46, 47, 48, 49, 50, 51, 52, 53, 54, 55] (by decide +kernel) (by decide +kernel)
set_option maxRecDepth 20000 in
theorem gX0_countAnswer_X0_dishesThatAre : GoodIn wsX0_countAnswer (wsV RX0 213 RX0 yX0_dishesThatAre wsX0_dishesThatAre) := goodIn_app (goodIn_of _ (by decide +kernel)) ggX0_countAnswer_X0_dishesThatAre
set_option maxRecDepth 20000 in
theorem ggX0_countAnswer_X0_roomLeft : GoodIn wsX0_countAnswer wsX0_roomLeft := goodIn_r _ [22, 1, 3, 23, 24, 25, 10, 26, 12, 13, 14, 15, 16, 17, 18, 27, 28, 29, 30, 31, 32, 33, 34, 35, 36, 37, 41, 42, 43, 44, 45, 46, 47, 48, 49, 50, 51, 52, 53, 54, 55] (by decide +kernel) (by decide +kernel)
set_option maxRecDepth 20000 in
theorem gX0_countAnswer_X0_roomLeft : GoodIn wsX0_countAnswer (wsV RX0 60 RX0 yX0_roomLeft wsX0_roomLeft) := goodIn_app (goodIn_of _ (by decide +kernel)) ggX0_countAnswer_X0_roomLeft
set_option maxRecDepth 20000 in
theorem ggX0_countAnswer_X0_sumOf : GoodIn wsX0_countAnswer wsX0_sumOf := goodIn_r _ [40] (by decide +kernel) (by decide +kernel)
set_option maxRecDepth 20000 in
theorem gX0_countAnswer_X0_sumOf : GoodIn wsX0_countAnswer (va_wsS RX0 191 yX0_sumOf wsX0_sumOf) := goodIn_app (goodIn_of _ (by decide +kernel)) ggX0_countAnswer_X0_sumOf
theorem dX0_countAnswer_0 : decode cX0_countAnswer 0 = .ok (.iload_n 1, 1) := by decide +kernel
theorem dX0_countAnswer_1 : decode cX0_countAnswer 1 = .ok (.tableswitch 115 0 9 #[55, 60, 65, 70, 76, 82, 88, 94, 99, 107], 55) := by decide +kernel
theorem dX0_countAnswer_56 : decode cX0_countAnswer 56 = .ok (.aload_n 0, 1) := by decide +kernel
theorem dX0_countAnswer_57 : decode cX0_countAnswer 57 = .ok (.getfield 112, 3) := by decide +kernel
theorem dX0_countAnswer_60 : decode cX0_countAnswer 60 = .ok (.ireturn, 1) := by decide +kernel
theorem dX0_countAnswer_61 : decode cX0_countAnswer 61 = .ok (.aload_n 0, 1) := by decide +kernel
theorem dX0_countAnswer_62 : decode cX0_countAnswer 62 = .ok (.getfield 166, 3) := by decide +kernel
theorem dX0_countAnswer_65 : decode cX0_countAnswer 65 = .ok (.ireturn, 1) := by decide +kernel
theorem dX0_countAnswer_66 : decode cX0_countAnswer 66 = .ok (.aload_n 0, 1) := by decide +kernel
theorem dX0_countAnswer_67 : decode cX0_countAnswer 67 = .ok (.getfield 49, 3) := by decide +kernel
theorem dX0_countAnswer_70 : decode cX0_countAnswer 70 = .ok (.ireturn, 1) := by decide +kernel
theorem dX0_countAnswer_71 : decode cX0_countAnswer 71 = .ok (.aload_n 0, 1) := by decide +kernel
theorem dX0_countAnswer_72 : decode cX0_countAnswer 72 = .ok (.iconst 0, 1) := by decide +kernel
theorem dX0_countAnswer_73 : decode cX0_countAnswer 73 = .ok (.invokevirtual 213, 3) := by decide +kernel
theorem dX0_countAnswer_76 : decode cX0_countAnswer 76 = .ok (.ireturn, 1) := by decide +kernel
theorem dX0_countAnswer_77 : decode cX0_countAnswer 77 = .ok (.aload_n 0, 1) := by decide +kernel
theorem dX0_countAnswer_78 : decode cX0_countAnswer 78 = .ok (.iconst 1, 1) := by decide +kernel
theorem dX0_countAnswer_79 : decode cX0_countAnswer 79 = .ok (.invokevirtual 213, 3) := by decide +kernel
theorem dX0_countAnswer_82 : decode cX0_countAnswer 82 = .ok (.ireturn, 1) := by decide +kernel
theorem dX0_countAnswer_83 : decode cX0_countAnswer 83 = .ok (.aload_n 0, 1) := by decide +kernel
theorem dX0_countAnswer_84 : decode cX0_countAnswer 84 = .ok (.iconst 2, 1) := by decide +kernel
theorem dX0_countAnswer_85 : decode cX0_countAnswer 85 = .ok (.invokevirtual 213, 3) := by decide +kernel
theorem dX0_countAnswer_88 : decode cX0_countAnswer 88 = .ok (.ireturn, 1) := by decide +kernel
theorem dX0_countAnswer_89 : decode cX0_countAnswer 89 = .ok (.aload_n 0, 1) := by decide +kernel
theorem dX0_countAnswer_90 : decode cX0_countAnswer 90 = .ok (.iconst 3, 1) := by decide +kernel
theorem dX0_countAnswer_91 : decode cX0_countAnswer 91 = .ok (.invokevirtual 213, 3) := by decide +kernel
theorem dX0_countAnswer_94 : decode cX0_countAnswer 94 = .ok (.ireturn, 1) := by decide +kernel
theorem dX0_countAnswer_95 : decode cX0_countAnswer 95 = .ok (.aload_n 0, 1) := by decide +kernel
theorem dX0_countAnswer_96 : decode cX0_countAnswer 96 = .ok (.invokevirtual 60, 3) := by decide +kernel
theorem dX0_countAnswer_99 : decode cX0_countAnswer 99 = .ok (.ireturn, 1) := by decide +kernel
theorem dX0_countAnswer_100 : decode cX0_countAnswer 100 = .ok (.aload_n 0, 1) := by decide +kernel
theorem dX0_countAnswer_101 : decode cX0_countAnswer 101 = .ok (.getfield 9, 3) := by decide +kernel
theorem dX0_countAnswer_104 : decode cX0_countAnswer 104 = .ok (.invokestatic 191, 3) := by decide +kernel
theorem dX0_countAnswer_107 : decode cX0_countAnswer 107 = .ok (.ireturn, 1) := by decide +kernel
theorem dX0_countAnswer_108 : decode cX0_countAnswer 108 = .ok (.aload_n 0, 1) := by decide +kernel
theorem dX0_countAnswer_109 : decode cX0_countAnswer 109 = .ok (.getfield 13, 3) := by decide +kernel
theorem dX0_countAnswer_112 : decode cX0_countAnswer 112 = .ok (.invokestatic 191, 3) := by decide +kernel
theorem dX0_countAnswer_115 : decode cX0_countAnswer 115 = .ok (.ireturn, 1) := by decide +kernel
theorem dX0_countAnswer_116 : decode cX0_countAnswer 116 = .ok (.aload_n 0, 1) := by decide +kernel
theorem dX0_countAnswer_117 : decode cX0_countAnswer 117 = .ok (.getfield 138, 3) := by decide +kernel
theorem dX0_countAnswer_120 : decode cX0_countAnswer 120 = .ok (.ireturn, 1) := by decide +kernel
set_option maxRecDepth 20000 in
theorem ggX0_isPot_X0_isBelow : GoodIn wsX0_isPot wsX0_isBelow := goodIn_r _ [4] (by decide +kernel) (by decide +kernel)
set_option maxRecDepth 20000 in
theorem gX0_isPot_X0_isBelow : GoodIn wsX0_isPot (va_wsS RX0 141 yX0_isBelow wsX0_isBelow) := goodIn_app (goodIn_of _ (by decide +kernel)) ggX0_isPot_X0_isBelow
theorem dX0_isPot_0 : decode cX0_isPot 0 = .ok (.iload_n 0, 1) := by decide +kernel
theorem dX0_isPot_1 : decode cX0_isPot 1 = .ok (.bipush 8, 2) := by decide +kernel
theorem dX0_isPot_3 : decode cX0_isPot 3 = .ok (.invokestatic 141, 3) := by decide +kernel
theorem dX0_isPot_6 : decode cX0_isPot 6 = .ok (.ireturn, 1) := by decide +kernel
set_option maxRecDepth 20000 in
theorem ggX0_holderOf_X0_at : GoodIn wsX0_holderOf wsX0_at := goodIn_r _ [8, 9, 10, 7, 11] (by decide +kernel) (by decide +kernel)
set_option maxRecDepth 20000 in
theorem gX0_holderOf_X0_at : GoodIn wsX0_holderOf (va_wsS RX0 102 yX0_at wsX0_at) := goodIn_app (goodIn_of _ (by decide +kernel)) ggX0_holderOf_X0_at
set_option maxRecDepth 20000 in
theorem ggX0_holderOf_X0_isOpen : GoodIn wsX0_holderOf wsX0_isOpen := goodIn_r _ [15, 16, 5, 6, 7, 8, 9, 10, 11, 17, 18, 19, 20, 21, 22, 23, 24, 25, 26, 27, 28, 29, 30, 31] (by decide +kernel) (by decide +kernel)
set_option maxRecDepth 20000 in
theorem gX0_holderOf_X0_isOpen : GoodIn wsX0_holderOf (wsV RX0 91 RX0 yX0_isOpen wsX0_isOpen) := goodIn_app (goodIn_of _ (by decide +kernel)) ggX0_holderOf_X0_isOpen
theorem dX0_holderOf_0 : decode cX0_holderOf 0 = .ok (.iconst 0, 1) := by decide +kernel
theorem dX0_holderOf_1 : decode cX0_holderOf 1 = .ok (.istore_n 2, 1) := by decide +kernel
theorem dX0_holderOf_2 : decode cX0_holderOf 2 = .ok (.iload_n 2, 1) := by decide +kernel
theorem dX0_holderOf_3 : decode cX0_holderOf 3 = .ok (.aload_n 0, 1) := by decide +kernel
theorem dX0_holderOf_4 : decode cX0_holderOf 4 = .ok (.getfield 112, 3) := by decide +kernel
theorem dX0_holderOf_7 : decode cX0_holderOf 7 = .ok (.if_icmp .ge 52, 3) := by decide +kernel
theorem dX0_holderOf_10 : decode cX0_holderOf 10 = .ok (.aload_n 0, 1) := by decide +kernel
theorem dX0_holderOf_11 : decode cX0_holderOf 11 = .ok (.getfield 22, 3) := by decide +kernel
theorem dX0_holderOf_14 : decode cX0_holderOf 14 = .ok (.iload_n 2, 1) := by decide +kernel
theorem dX0_holderOf_15 : decode cX0_holderOf 15 = .ok (.invokestatic 102, 3) := by decide +kernel
theorem dX0_holderOf_18 : decode cX0_holderOf 18 = .ok (.istore_n 3, 1) := by decide +kernel
theorem dX0_holderOf_19 : decode cX0_holderOf 19 = .ok (.aload_n 0, 1) := by decide +kernel
theorem dX0_holderOf_20 : decode cX0_holderOf 20 = .ok (.getfield 25, 3) := by decide +kernel
theorem dX0_holderOf_23 : decode cX0_holderOf 23 = .ok (.iload_n 2, 1) := by decide +kernel
theorem dX0_holderOf_24 : decode cX0_holderOf 24 = .ok (.invokestatic 102, 3) := by decide +kernel
theorem dX0_holderOf_27 : decode cX0_holderOf 27 = .ok (.iconst 1, 1) := by decide +kernel
theorem dX0_holderOf_28 : decode cX0_holderOf 28 = .ok (.if_icmp .ne 25, 3) := by decide +kernel
theorem dX0_holderOf_31 : decode cX0_holderOf 31 = .ok (.aload_n 0, 1) := by decide +kernel
theorem dX0_holderOf_32 : decode cX0_holderOf 32 = .ok (.getfield 28, 3) := by decide +kernel
theorem dX0_holderOf_35 : decode cX0_holderOf 35 = .ok (.iload_n 2, 1) := by decide +kernel
theorem dX0_holderOf_36 : decode cX0_holderOf 36 = .ok (.invokestatic 102, 3) := by decide +kernel
theorem dX0_holderOf_39 : decode cX0_holderOf 39 = .ok (.iload_n 1, 1) := by decide +kernel
theorem dX0_holderOf_40 : decode cX0_holderOf 40 = .ok (.if_icmp .ne 13, 3) := by decide +kernel
theorem dX0_holderOf_43 : decode cX0_holderOf 43 = .ok (.aload_n 0, 1) := by decide +kernel
theorem dX0_holderOf_44 : decode cX0_holderOf 44 = .ok (.iload_n 3, 1) := by decide +kernel
theorem dX0_holderOf_45 : decode cX0_holderOf 45 = .ok (.invokevirtual 91, 3) := by decide +kernel
theorem dX0_holderOf_48 : decode cX0_holderOf 48 = .ok (.ifCond .eq 5, 3) := by decide +kernel
theorem dX0_holderOf_51 : decode cX0_holderOf 51 = .ok (.iload_n 3, 1) := by decide +kernel
theorem dX0_holderOf_52 : decode cX0_holderOf 52 = .ok (.ireturn, 1) := by decide +kernel
theorem dX0_holderOf_53 : decode cX0_holderOf 53 = .ok (.iinc 2 1, 3) := by decide +kernel
theorem dX0_holderOf_56 : decode cX0_holderOf 56 = .ok (.goto (-54), 3) := by decide +kernel
theorem dX0_holderOf_59 : decode cX0_holderOf 59 = .ok (.iconst (-1), 1) := by decide +kernel
theorem dX0_holderOf_60 : decode cX0_holderOf 60 = .ok (.ireturn, 1) := by decide +kernel
set_option maxRecDepth 20000 in
theorem ggX0_latestLineOf_X0_at : GoodIn wsX0_latestLineOf wsX0_at := goodIn_r _ [6, 7, 8, 5, 9] (by decide +kernel) (by decide +kernel)
set_option maxRecDepth 20000 in
theorem gX0_latestLineOf_X0_at : GoodIn wsX0_latestLineOf (va_wsS RX0 102 yX0_at wsX0_at) := goodIn_app (goodIn_of _ (by decide +kernel)) ggX0_latestLineOf_X0_at
theorem dX0_latestLineOf_0 : decode cX0_latestLineOf 0 = .ok (.aload_n 0, 1) := by decide +kernel
theorem dX0_latestLineOf_1 : decode cX0_latestLineOf 1 = .ok (.getfield 112, 3) := by decide +kernel
theorem dX0_latestLineOf_4 : decode cX0_latestLineOf 4 = .ok (.iconst 1, 1) := by decide +kernel
theorem dX0_latestLineOf_5 : decode cX0_latestLineOf 5 = .ok (.isub, 1) := by decide +kernel
theorem dX0_latestLineOf_6 : decode cX0_latestLineOf 6 = .ok (.istore_n 2, 1) := by decide +kernel
theorem dX0_latestLineOf_7 : decode cX0_latestLineOf 7 = .ok (.iload_n 2, 1) := by decide +kernel
theorem dX0_latestLineOf_8 : decode cX0_latestLineOf 8 = .ok (.ifCond .lt 23, 3) := by decide +kernel
theorem dX0_latestLineOf_11 : decode cX0_latestLineOf 11 = .ok (.aload_n 0, 1) := by decide +kernel
theorem dX0_latestLineOf_12 : decode cX0_latestLineOf 12 = .ok (.getfield 28, 3) := by decide +kernel
theorem dX0_latestLineOf_15 : decode cX0_latestLineOf 15 = .ok (.iload_n 2, 1) := by decide +kernel
theorem dX0_latestLineOf_16 : decode cX0_latestLineOf 16 = .ok (.invokestatic 102, 3) := by decide +kernel
theorem dX0_latestLineOf_19 : decode cX0_latestLineOf 19 = .ok (.iload_n 1, 1) := by decide +kernel
theorem dX0_latestLineOf_20 : decode cX0_latestLineOf 20 = .ok (.if_icmp .ne 5, 3) := by decide +kernel
theorem dX0_latestLineOf_23 : decode cX0_latestLineOf 23 = .ok (.iload_n 2, 1) := by decide +kernel
theorem dX0_latestLineOf_24 : decode cX0_latestLineOf 24 = .ok (.ireturn, 1) := by decide +kernel
theorem dX0_latestLineOf_25 : decode cX0_latestLineOf 25 = .ok (.iinc 2 (-1), 3) := by decide +kernel
theorem dX0_latestLineOf_28 : decode cX0_latestLineOf 28 = .ok (.goto (-21), 3) := by decide +kernel
theorem dX0_latestLineOf_31 : decode cX0_latestLineOf 31 = .ok (.iconst (-1), 1) := by decide +kernel
theorem dX0_latestLineOf_32 : decode cX0_latestLineOf 32 = .ok (.ireturn, 1) := by decide +kernel
set_option maxRecDepth 20000 in
theorem ggX0_isDish_X0_isBelow : GoodIn wsX0_isDish wsX0_isBelow := goodIn_r _ [5] (by decide +kernel) (by decide +kernel)
set_option maxRecDepth 20000 in
theorem gX0_isDish_X0_isBelow : GoodIn wsX0_isDish (va_wsS RX0 141 yX0_isBelow wsX0_isBelow) := goodIn_app (goodIn_of _ (by decide +kernel)) ggX0_isDish_X0_isBelow
theorem dX0_isDish_0 : decode cX0_isDish 0 = .ok (.iload_n 1, 1) := by decide +kernel
theorem dX0_isDish_1 : decode cX0_isDish 1 = .ok (.aload_n 0, 1) := by decide +kernel
theorem dX0_isDish_2 : decode cX0_isDish 2 = .ok (.getfield 49, 3) := by decide +kernel
theorem dX0_isDish_5 : decode cX0_isDish 5 = .ok (.invokestatic 141, 3) := by decide +kernel
theorem dX0_isDish_8 : decode cX0_isDish 8 = .ok (.ireturn, 1) := by decide +kernel
set_option maxRecDepth 20000 in
theorem ggX0_isOpen_X0_at : GoodIn wsX0_isOpen wsX0_at := goodIn_r _ [5, 6, 7, 4, 8] (by decide +kernel) (by decide +kernel)
set_option maxRecDepth 20000 in
theorem gX0_isOpen_X0_at : GoodIn wsX0_isOpen (va_wsS RX0 102 yX0_at wsX0_at) := goodIn_app (goodIn_of _ (by decide +kernel)) ggX0_isOpen_X0_at
theorem dX0_isOpen_0 : decode cX0_isOpen 0 = .ok (.aload_n 0, 1) := by decide +kernel
theorem dX0_isOpen_1 : decode cX0_isOpen 1 = .ok (.getfield 19, 3) := by decide +kernel
theorem dX0_isOpen_4 : decode cX0_isOpen 4 = .ok (.iload_n 1, 1) := by decide +kernel
theorem dX0_isOpen_5 : decode cX0_isOpen 5 = .ok (.invokestatic 102, 3) := by decide +kernel
theorem dX0_isOpen_8 : decode cX0_isOpen 8 = .ok (.ifCond .ne 7, 3) := by decide +kernel
theorem dX0_isOpen_11 : decode cX0_isOpen 11 = .ok (.iconst 1, 1) := by decide +kernel
theorem dX0_isOpen_12 : decode cX0_isOpen 12 = .ok (.goto 4, 3) := by decide +kernel
theorem dX0_isOpen_15 : decode cX0_isOpen 15 = .ok (.iconst 0, 1) := by decide +kernel
theorem dX0_isOpen_16 : decode cX0_isOpen 16 = .ok (.ireturn, 1) := by decide +kernel
set_option maxRecDepth 20000 in
theorem ggX0_dishesThatAre_X0_at : GoodIn wsX0_dishesThatAre wsX0_at := goodIn_r _ [6, 7, 8, 5, 9] (by decide +kernel) (by decide +kernel)
set_option maxRecDepth 20000 in
theorem gX0_dishesThatAre_X0_at : GoodIn wsX0_dishesThatAre (va_wsS RX0 102 yX0_at wsX0_at) := goodIn_app (goodIn_of _ (by decide +kernel)) ggX0_dishesThatAre_X0_at
theorem dX0_dishesThatAre_0 : decode cX0_dishesThatAre 0 = .ok (.iconst 0, 1) := by decide +kernel
theorem dX0_dishesThatAre_1 : decode cX0_dishesThatAre 1 = .ok (.istore_n 2, 1) := by decide +kernel
theorem dX0_dishesThatAre_2 : decode cX0_dishesThatAre 2 = .ok (.iconst 0, 1) := by decide +kernel
theorem dX0_dishesThatAre_3 : decode cX0_dishesThatAre 3 = .ok (.istore_n 3, 1) := by decide +kernel
theorem dX0_dishesThatAre_4 : decode cX0_dishesThatAre 4 = .ok (.iload_n 3, 1) := by decide +kernel
theorem dX0_dishesThatAre_5 : decode cX0_dishesThatAre 5 = .ok (.aload_n 0, 1) := by decide +kernel
theorem dX0_dishesThatAre_6 : decode cX0_dishesThatAre 6 = .ok (.getfield 49, 3) := by decide +kernel
theorem dX0_dishesThatAre_9 : decode cX0_dishesThatAre 9 = .ok (.if_icmp .ge 24, 3) := by decide +kernel
theorem dX0_dishesThatAre_12 : decode cX0_dishesThatAre 12 = .ok (.aload_n 0, 1) := by decide +kernel
theorem dX0_dishesThatAre_13 : decode cX0_dishesThatAre 13 = .ok (.getfield 19, 3) := by decide +kernel
theorem dX0_dishesThatAre_16 : decode cX0_dishesThatAre 16 = .ok (.iload_n 3, 1) := by decide +kernel
theorem dX0_dishesThatAre_17 : decode cX0_dishesThatAre 17 = .ok (.invokestatic 102, 3) := by decide +kernel
theorem dX0_dishesThatAre_20 : decode cX0_dishesThatAre 20 = .ok (.iload_n 1, 1) := by decide +kernel
theorem dX0_dishesThatAre_21 : decode cX0_dishesThatAre 21 = .ok (.if_icmp .ne 6, 3) := by decide +kernel
theorem dX0_dishesThatAre_24 : decode cX0_dishesThatAre 24 = .ok (.iinc 2 1, 3) := by decide +kernel
theorem dX0_dishesThatAre_27 : decode cX0_dishesThatAre 27 = .ok (.iinc 3 1, 3) := by decide +kernel
theorem dX0_dishesThatAre_30 : decode cX0_dishesThatAre 30 = .ok (.goto (-26), 3) := by decide +kernel
theorem dX0_dishesThatAre_33 : decode cX0_dishesThatAre 33 = .ok (.iload_n 2, 1) := by decide +kernel
theorem dX0_dishesThatAre_34 : decode cX0_dishesThatAre 34 = .ok (.ireturn, 1) := by decide +kernel
set_option maxRecDepth 20000 in
theorem ggX0_linesOf_X0_at : GoodIn wsX0_linesOf wsX0_at := goodIn_r _ [6, 7, 8, 5, 9] (by decide +kernel) (by decide +kernel)
set_option maxRecDepth 20000 in
theorem gX0_linesOf_X0_at : GoodIn wsX0_linesOf (va_wsS RX0 102 yX0_at wsX0_at) := goodIn_app (goodIn_of _ (by decide +kernel)) ggX0_linesOf_X0_at
theorem dX0_linesOf_0 : decode cX0_linesOf 0 = .ok (.iconst 0, 1) := by decide +kernel
theorem dX0_linesOf_1 : decode cX0_linesOf 1 = .ok (.istore_n 2, 1) := by decide +kernel
theorem dX0_linesOf_2 : decode cX0_linesOf 2 = .ok (.iconst 0, 1) := by decide +kernel
theorem dX0_linesOf_3 : decode cX0_linesOf 3 = .ok (.istore_n 3, 1) := by decide +kernel
theorem dX0_linesOf_4 : decode cX0_linesOf 4 = .ok (.iload_n 3, 1) := by decide +kernel
theorem dX0_linesOf_5 : decode cX0_linesOf 5 = .ok (.aload_n 0, 1) := by decide +kernel
theorem dX0_linesOf_6 : decode cX0_linesOf 6 = .ok (.getfield 112, 3) := by decide +kernel
theorem dX0_linesOf_9 : decode cX0_linesOf 9 = .ok (.if_icmp .ge 24, 3) := by decide +kernel
theorem dX0_linesOf_12 : decode cX0_linesOf 12 = .ok (.aload_n 0, 1) := by decide +kernel
theorem dX0_linesOf_13 : decode cX0_linesOf 13 = .ok (.getfield 22, 3) := by decide +kernel
theorem dX0_linesOf_16 : decode cX0_linesOf 16 = .ok (.iload_n 3, 1) := by decide +kernel
theorem dX0_linesOf_17 : decode cX0_linesOf 17 = .ok (.invokestatic 102, 3) := by decide +kernel
theorem dX0_linesOf_20 : decode cX0_linesOf 20 = .ok (.iload_n 1, 1) := by decide +kernel
theorem dX0_linesOf_21 : decode cX0_linesOf 21 = .ok (.if_icmp .ne 6, 3) := by decide +kernel
theorem dX0_linesOf_24 : decode cX0_linesOf 24 = .ok (.iinc 2 1, 3) := by decide +kernel
theorem dX0_linesOf_27 : decode cX0_linesOf 27 = .ok (.iinc 3 1, 3) := by decide +kernel
theorem dX0_linesOf_30 : decode cX0_linesOf 30 = .ok (.goto (-26), 3) := by decide +kernel
theorem dX0_linesOf_33 : decode cX0_linesOf 33 = .ok (.iload_n 2, 1) := by decide +kernel
theorem dX0_linesOf_34 : decode cX0_linesOf 34 = .ok (.ireturn, 1) := by decide +kernel
set_option maxRecDepth 20000 in
theorem ggX0_lastLineOf_X0_at : GoodIn wsX0_lastLineOf wsX0_at := goodIn_r _ [6, 7, 8, 5, 9] (by decide +kernel) (by decide +kernel)
set_option maxRecDepth 20000 in
theorem gX0_lastLineOf_X0_at : GoodIn wsX0_lastLineOf (va_wsS RX0 102 yX0_at wsX0_at) := goodIn_app (goodIn_of _ (by decide +kernel)) ggX0_lastLineOf_X0_at
theorem dX0_lastLineOf_0 : decode cX0_lastLineOf 0 = .ok (.aload_n 0, 1) := by decide +kernel
theorem dX0_lastLineOf_1 : decode cX0_lastLineOf 1 = .ok (.getfield 112, 3) := by decide +kernel
theorem dX0_lastLineOf_4 : decode cX0_lastLineOf 4 = .ok (.iconst 1, 1) := by decide +kernel
theorem dX0_lastLineOf_5 : decode cX0_lastLineOf 5 = .ok (.isub, 1) := by decide +kernel
theorem dX0_lastLineOf_6 : decode cX0_lastLineOf 6 = .ok (.istore_n 2, 1) := by decide +kernel
theorem dX0_lastLineOf_7 : decode cX0_lastLineOf 7 = .ok (.iload_n 2, 1) := by decide +kernel
theorem dX0_lastLineOf_8 : decode cX0_lastLineOf 8 = .ok (.ifCond .lt 23, 3) := by decide +kernel
theorem dX0_lastLineOf_11 : decode cX0_lastLineOf 11 = .ok (.aload_n 0, 1) := by decide +kernel
theorem dX0_lastLineOf_12 : decode cX0_lastLineOf 12 = .ok (.getfield 22, 3) := by decide +kernel
theorem dX0_lastLineOf_15 : decode cX0_lastLineOf 15 = .ok (.iload_n 2, 1) := by decide +kernel
theorem dX0_lastLineOf_16 : decode cX0_lastLineOf 16 = .ok (.invokestatic 102, 3) := by decide +kernel
theorem dX0_lastLineOf_19 : decode cX0_lastLineOf 19 = .ok (.iload_n 1, 1) := by decide +kernel
theorem dX0_lastLineOf_20 : decode cX0_lastLineOf 20 = .ok (.if_icmp .ne 5, 3) := by decide +kernel
theorem dX0_lastLineOf_23 : decode cX0_lastLineOf 23 = .ok (.iload_n 2, 1) := by decide +kernel
theorem dX0_lastLineOf_24 : decode cX0_lastLineOf 24 = .ok (.ireturn, 1) := by decide +kernel
theorem dX0_lastLineOf_25 : decode cX0_lastLineOf 25 = .ok (.iinc 2 (-1), 3) := by decide +kernel
theorem dX0_lastLineOf_28 : decode cX0_lastLineOf 28 = .ok (.goto (-21), 3) := by decide +kernel
theorem dX0_lastLineOf_31 : decode cX0_lastLineOf 31 = .ok (.iconst (-1), 1) := by decide +kernel
theorem dX0_lastLineOf_32 : decode cX0_lastLineOf 32 = .ok (.ireturn, 1) := by decide +kernel
set_option maxRecDepth 20000 in
theorem ggX0_potsHeldBy_X0_holderOf : GoodIn wsX0_potsHeldBy wsX0_holderOf := goodIn_r _ [5, 6, 7, 8, 9, 10, 11, 4, 12, 13, 14, 15, 16, 17, 18, 19, 20, 21, 22, 23, 24, 25, 26, 27, 28, 29, 30, 31, 32, 33, 34, 35] (by decide +kernel) (by decide +kernel)
set_option maxRecDepth 20000 in
theorem gX0_potsHeldBy_X0_holderOf : GoodIn wsX0_potsHeldBy (wsV RX0 96 RX0 yX0_holderOf wsX0_holderOf) := goodIn_app (goodIn_of _ (by decide +kernel)) ggX0_potsHeldBy_X0_holderOf
theorem dX0_potsHeldBy_0 : decode cX0_potsHeldBy 0 = .ok (.iconst 0, 1) := by decide +kernel
theorem dX0_potsHeldBy_1 : decode cX0_potsHeldBy 1 = .ok (.istore_n 2, 1) := by decide +kernel
theorem dX0_potsHeldBy_2 : decode cX0_potsHeldBy 2 = .ok (.iconst 0, 1) := by decide +kernel
theorem dX0_potsHeldBy_3 : decode cX0_potsHeldBy 3 = .ok (.istore_n 3, 1) := by decide +kernel
theorem dX0_potsHeldBy_4 : decode cX0_potsHeldBy 4 = .ok (.iload_n 3, 1) := by decide +kernel
theorem dX0_potsHeldBy_5 : decode cX0_potsHeldBy 5 = .ok (.bipush 8, 2) := by decide +kernel
theorem dX0_potsHeldBy_7 : decode cX0_potsHeldBy 7 = .ok (.if_icmp .ge 21, 3) := by decide +kernel
theorem dX0_potsHeldBy_10 : decode cX0_potsHeldBy 10 = .ok (.aload_n 0, 1) := by decide +kernel
theorem dX0_potsHeldBy_11 : decode cX0_potsHeldBy 11 = .ok (.iload_n 3, 1) := by decide +kernel
theorem dX0_potsHeldBy_12 : decode cX0_potsHeldBy 12 = .ok (.invokevirtual 96, 3) := by decide +kernel
theorem dX0_potsHeldBy_15 : decode cX0_potsHeldBy 15 = .ok (.iload_n 1, 1) := by decide +kernel
theorem dX0_potsHeldBy_16 : decode cX0_potsHeldBy 16 = .ok (.if_icmp .ne 6, 3) := by decide +kernel
theorem dX0_potsHeldBy_19 : decode cX0_potsHeldBy 19 = .ok (.iinc 2 1, 3) := by decide +kernel
theorem dX0_potsHeldBy_22 : decode cX0_potsHeldBy 22 = .ok (.iinc 3 1, 3) := by decide +kernel
theorem dX0_potsHeldBy_25 : decode cX0_potsHeldBy 25 = .ok (.goto (-21), 3) := by decide +kernel
theorem dX0_potsHeldBy_28 : decode cX0_potsHeldBy 28 = .ok (.iload_n 2, 1) := by decide +kernel
theorem dX0_potsHeldBy_29 : decode cX0_potsHeldBy 29 = .ok (.ireturn, 1) := by decide +kernel
set_option maxRecDepth 20000 in
theorem ggX0_stateByLines_X0_at : GoodIn wsX0_stateByLines wsX0_at := goodIn_r _ [6, 7, 8, 5, 9] (by decide +kernel) (by decide +kernel)
set_option maxRecDepth 20000 in
theorem gX0_stateByLines_X0_at : GoodIn wsX0_stateByLines (va_wsS RX0 102 yX0_at wsX0_at) := goodIn_app (goodIn_of _ (by decide +kernel)) ggX0_stateByLines_X0_at
set_option maxRecDepth 20000 in
theorem ggX0_stateByLines_X0_stateAfter : GoodIn wsX0_stateByLines wsX0_stateAfter := goodIn_r _ [12] (by decide +kernel) (by decide +kernel)
set_option maxRecDepth 20000 in
theorem gX0_stateByLines_X0_stateAfter : GoodIn wsX0_stateByLines (va_wsS RX0 216 yX0_stateAfter wsX0_stateAfter) := goodIn_app (goodIn_of _ (by decide +kernel)) ggX0_stateByLines_X0_stateAfter
theorem dX0_stateByLines_0 : decode cX0_stateByLines 0 = .ok (.iconst 3, 1) := by decide +kernel
theorem dX0_stateByLines_1 : decode cX0_stateByLines 1 = .ok (.istore_n 3, 1) := by decide +kernel
theorem dX0_stateByLines_2 : decode cX0_stateByLines 2 = .ok (.iconst 0, 1) := by decide +kernel
theorem dX0_stateByLines_3 : decode cX0_stateByLines 3 = .ok (.istore 4, 2) := by decide +kernel
theorem dX0_stateByLines_5 : decode cX0_stateByLines 5 = .ok (.iload 4, 2) := by decide +kernel
theorem dX0_stateByLines_7 : decode cX0_stateByLines 7 = .ok (.iload_n 2, 1) := by decide +kernel
theorem dX0_stateByLines_8 : decode cX0_stateByLines 8 = .ok (.if_icmp .ge 36, 3) := by decide +kernel
theorem dX0_stateByLines_11 : decode cX0_stateByLines 11 = .ok (.aload_n 0, 1) := by decide +kernel
theorem dX0_stateByLines_12 : decode cX0_stateByLines 12 = .ok (.getfield 22, 3) := by decide +kernel
theorem dX0_stateByLines_15 : decode cX0_stateByLines 15 = .ok (.iload 4, 2) := by decide +kernel
theorem dX0_stateByLines_17 : decode cX0_stateByLines 17 = .ok (.invokestatic 102, 3) := by decide +kernel
theorem dX0_stateByLines_20 : decode cX0_stateByLines 20 = .ok (.iload_n 1, 1) := by decide +kernel
theorem dX0_stateByLines_21 : decode cX0_stateByLines 21 = .ok (.if_icmp .ne 17, 3) := by decide +kernel
theorem dX0_stateByLines_24 : decode cX0_stateByLines 24 = .ok (.aload_n 0, 1) := by decide +kernel
theorem dX0_stateByLines_25 : decode cX0_stateByLines 25 = .ok (.getfield 25, 3) := by decide +kernel
theorem dX0_stateByLines_28 : decode cX0_stateByLines 28 = .ok (.iload 4, 2) := by decide +kernel
theorem dX0_stateByLines_30 : decode cX0_stateByLines 30 = .ok (.invokestatic 102, 3) := by decide +kernel
theorem dX0_stateByLines_33 : decode cX0_stateByLines 33 = .ok (.iload_n 3, 1) := by decide +kernel
theorem dX0_stateByLines_34 : decode cX0_stateByLines 34 = .ok (.invokestatic 216, 3) := by decide +kernel
theorem dX0_stateByLines_37 : decode cX0_stateByLines 37 = .ok (.istore_n 3, 1) := by decide +kernel
theorem dX0_stateByLines_38 : decode cX0_stateByLines 38 = .ok (.iinc 4 1, 3) := by decide +kernel
theorem dX0_stateByLines_41 : decode cX0_stateByLines 41 = .ok (.goto (-36), 3) := by decide +kernel
theorem dX0_stateByLines_44 : decode cX0_stateByLines 44 = .ok (.iload_n 3, 1) := by decide +kernel
theorem dX0_stateByLines_45 : decode cX0_stateByLines 45 = .ok (.ireturn, 1) := by decide +kernel
theorem dX0_stateAfter_0 : decode cX0_stateAfter 0 = .ok (.iload_n 0, 1) := by decide +kernel
theorem dX0_stateAfter_1 : decode cX0_stateAfter 1 = .ok (.tableswitch 41 0 4 #[35, 41, 37, 41, 39], 35) := by decide +kernel
theorem dX0_stateAfter_36 : decode cX0_stateAfter 36 = .ok (.iconst 0, 1) := by decide +kernel
theorem dX0_stateAfter_37 : decode cX0_stateAfter 37 = .ok (.ireturn, 1) := by decide +kernel
theorem dX0_stateAfter_38 : decode cX0_stateAfter 38 = .ok (.iconst 1, 1) := by decide +kernel
theorem dX0_stateAfter_39 : decode cX0_stateAfter 39 = .ok (.ireturn, 1) := by decide +kernel
theorem dX0_stateAfter_40 : decode cX0_stateAfter 40 = .ok (.iconst 2, 1) := by decide +kernel
theorem dX0_stateAfter_41 : decode cX0_stateAfter 41 = .ok (.ireturn, 1) := by decide +kernel
theorem dX0_stateAfter_42 : decode cX0_stateAfter 42 = .ok (.iload_n 1, 1) := by decide +kernel
theorem dX0_stateAfter_43 : decode cX0_stateAfter 43 = .ok (.ireturn, 1) := by decide +kernel
set_option maxRecDepth 20000 in
theorem ggX0_isChangeNotTakenBack_X0_at : GoodIn wsX0_isChangeNotTakenBack wsX0_at := goodIn_r _ [7, 8, 9, 6, 10] (by decide +kernel) (by decide +kernel)
set_option maxRecDepth 20000 in
theorem gX0_isChangeNotTakenBack_X0_at : GoodIn wsX0_isChangeNotTakenBack (va_wsS RX0 102 yX0_at wsX0_at) := goodIn_app (goodIn_of _ (by decide +kernel)) ggX0_isChangeNotTakenBack_X0_at
set_option maxRecDepth 20000 in
theorem ggX0_isChangeNotTakenBack_X0_isBelow : GoodIn wsX0_isChangeNotTakenBack wsX0_isBelow := goodIn_r _ [10] (by decide +kernel) (by decide +kernel)
set_option maxRecDepth 20000 in
theorem gX0_isChangeNotTakenBack_X0_isBelow : GoodIn wsX0_isChangeNotTakenBack (va_wsS RX0 141 yX0_isBelow wsX0_isBelow) := goodIn_app (goodIn_of _ (by decide +kernel)) ggX0_isChangeNotTakenBack_X0_isBelow
theorem dX0_isChangeNotTakenBack_0 : decode cX0_isChangeNotTakenBack 0 = .ok (.aload_n 0, 1) := by decide +kernel
theorem dX0_isChangeNotTakenBack_1 : decode cX0_isChangeNotTakenBack 1 = .ok (.getfield 22, 3) := by decide +kernel
theorem dX0_isChangeNotTakenBack_4 : decode cX0_isChangeNotTakenBack 4 = .ok (.iload_n 1, 1) := by decide +kernel
theorem dX0_isChangeNotTakenBack_5 : decode cX0_isChangeNotTakenBack 5 = .ok (.invokestatic 102, 3) := by decide +kernel
theorem dX0_isChangeNotTakenBack_8 : decode cX0_isChangeNotTakenBack 8 = .ok (.iload_n 2, 1) := by decide +kernel
theorem dX0_isChangeNotTakenBack_9 : decode cX0_isChangeNotTakenBack 9 = .ok (.if_icmp .ne 34, 3) := by decide +kernel
theorem dX0_isChangeNotTakenBack_12 : decode cX0_isChangeNotTakenBack 12 = .ok (.aload_n 0, 1) := by decide +kernel
theorem dX0_isChangeNotTakenBack_13 : decode cX0_isChangeNotTakenBack 13 = .ok (.getfield 25, 3) := by decide +kernel
theorem dX0_isChangeNotTakenBack_16 : decode cX0_isChangeNotTakenBack 16 = .ok (.iload_n 1, 1) := by decide +kernel
theorem dX0_isChangeNotTakenBack_17 : decode cX0_isChangeNotTakenBack 17 = .ok (.invokestatic 102, 3) := by decide +kernel
theorem dX0_isChangeNotTakenBack_20 : decode cX0_isChangeNotTakenBack 20 = .ok (.iconst 1, 1) := by decide +kernel
theorem dX0_isChangeNotTakenBack_21 : decode cX0_isChangeNotTakenBack 21 = .ok (.if_icmp .ne 22, 3) := by decide +kernel
theorem dX0_isChangeNotTakenBack_24 : decode cX0_isChangeNotTakenBack 24 = .ok (.aload_n 0, 1) := by decide +kernel
theorem dX0_isChangeNotTakenBack_25 : decode cX0_isChangeNotTakenBack 25 = .ok (.getfield 40, 3) := by decide +kernel
theorem dX0_isChangeNotTakenBack_28 : decode cX0_isChangeNotTakenBack 28 = .ok (.iload_n 1, 1) := by decide +kernel
theorem dX0_isChangeNotTakenBack_29 : decode cX0_isChangeNotTakenBack 29 = .ok (.invokestatic 102, 3) := by decide +kernel
theorem dX0_isChangeNotTakenBack_32 : decode cX0_isChangeNotTakenBack 32 = .ok (.iload_n 3, 1) := by decide +kernel
theorem dX0_isChangeNotTakenBack_33 : decode cX0_isChangeNotTakenBack 33 = .ok (.invokestatic 141, 3) := by decide +kernel
theorem dX0_isChangeNotTakenBack_36 : decode cX0_isChangeNotTakenBack 36 = .ok (.ifCond .ne 7, 3) := by decide +kernel
theorem dX0_isChangeNotTakenBack_39 : decode cX0_isChangeNotTakenBack 39 = .ok (.iconst 1, 1) := by decide +kernel
theorem dX0_isChangeNotTakenBack_40 : decode cX0_isChangeNotTakenBack 40 = .ok (.goto 4, 3) := by decide +kernel
theorem dX0_isChangeNotTakenBack_43 : decode cX0_isChangeNotTakenBack 43 = .ok (.iconst 0, 1) := by decide +kernel
theorem dX0_isChangeNotTakenBack_44 : decode cX0_isChangeNotTakenBack 44 = .ok (.ireturn, 1) := by decide +kernel
set_option maxRecDepth 20000 in
theorem ggX0_changesNotTakenBack_X0_isChangeNotTakenBack : GoodIn wsX0_changesNotTakenBack wsX0_isChangeNotTakenBack := goodIn_r _ [5, 6, 7, 8, 9, 10, 4, 11, 12, 13, 14, 15, 16, 17, 18, 19, 20, 21, 22, 23, 24, 25, 26, 27, 28, 29] (by decide +kernel) (by decide +kernel)
set_option maxRecDepth 20000 in
theorem gX0_changesNotTakenBack_X0_isChangeNotTakenBack : GoodIn wsX0_changesNotTakenBack (wsV RX0 219 RX0 yX0_isChangeNotTakenBack wsX0_isChangeNotTakenBack) := goodIn_app (goodIn_of _ (by decide +kernel)) ggX0_changesNotTakenBack_X0_isChangeNotTakenBack
theorem dX0_changesNotTakenBack_0 : decode cX0_changesNotTakenBack 0 = .ok (.iconst 0, 1) := by decide +kernel
theorem dX0_changesNotTakenBack_1 : decode cX0_changesNotTakenBack 1 = .ok (.istore_n 3, 1) := by decide +kernel
theorem dX0_changesNotTakenBack_2 : decode cX0_changesNotTakenBack 2 = .ok (.iconst 0, 1) := by decide +kernel
theorem dX0_changesNotTakenBack_3 : decode cX0_changesNotTakenBack 3 = .ok (.istore 4, 2) := by decide +kernel
theorem dX0_changesNotTakenBack_5 : decode cX0_changesNotTakenBack 5 = .ok (.iload 4, 2) := by decide +kernel
theorem dX0_changesNotTakenBack_7 : decode cX0_changesNotTakenBack 7 = .ok (.iload_n 2, 1) := by decide +kernel
theorem dX0_changesNotTakenBack_8 : decode cX0_changesNotTakenBack 8 = .ok (.if_icmp .ge 23, 3) := by decide +kernel
theorem dX0_changesNotTakenBack_11 : decode cX0_changesNotTakenBack 11 = .ok (.aload_n 0, 1) := by decide +kernel
theorem dX0_changesNotTakenBack_12 : decode cX0_changesNotTakenBack 12 = .ok (.iload 4, 2) := by decide +kernel
theorem dX0_changesNotTakenBack_14 : decode cX0_changesNotTakenBack 14 = .ok (.iload_n 1, 1) := by decide +kernel
theorem dX0_changesNotTakenBack_15 : decode cX0_changesNotTakenBack 15 = .ok (.iload_n 2, 1) := by decide +kernel
theorem dX0_changesNotTakenBack_16 : decode cX0_changesNotTakenBack 16 = .ok (.invokevirtual 219, 3) := by decide +kernel
theorem dX0_changesNotTakenBack_19 : decode cX0_changesNotTakenBack 19 = .ok (.ifCond .eq 6, 3) := by decide +kernel
theorem dX0_changesNotTakenBack_22 : decode cX0_changesNotTakenBack 22 = .ok (.iinc 3 1, 3) := by decide +kernel
theorem dX0_changesNotTakenBack_25 : decode cX0_changesNotTakenBack 25 = .ok (.iinc 4 1, 3) := by decide +kernel
theorem dX0_changesNotTakenBack_28 : decode cX0_changesNotTakenBack 28 = .ok (.goto (-23), 3) := by decide +kernel
theorem dX0_changesNotTakenBack_31 : decode cX0_changesNotTakenBack 31 = .ok (.iload_n 3, 1) := by decide +kernel
theorem dX0_changesNotTakenBack_32 : decode cX0_changesNotTakenBack 32 = .ok (.ireturn, 1) := by decide +kernel
set_option maxRecDepth 20000 in
theorem ggX0_roomLeft_X0_isOpen : GoodIn wsX0_roomLeft wsX0_isOpen := goodIn_r _ [7, 8, 9, 10, 6, 11, 12, 13, 14, 26, 27, 28, 29, 30, 31, 32, 33, 34, 35, 36, 37, 38, 39, 40] (by decide +kernel) (by decide +kernel)
set_option maxRecDepth 20000 in
theorem gX0_roomLeft_X0_isOpen : GoodIn wsX0_roomLeft (wsV RX0 91 RX0 yX0_isOpen wsX0_isOpen) := goodIn_app (goodIn_of _ (by decide +kernel)) ggX0_roomLeft_X0_isOpen
set_option maxRecDepth 20000 in
theorem ggX0_roomLeft_X0_changesNotTakenBack : GoodIn wsX0_roomLeft wsX0_changesNotTakenBack := goodIn_r _ [18, 19, 20, 21, 6, 22, 23, 24, 25, 9, 10, 11, 12, 13, 14, 26, 27, 28, 29, 30, 31, 32, 33, 34, 35, 36, 37, 38, 39, 40] (by decide +kernel) (by decide +kernel)
set_option maxRecDepth 20000 in
theorem gX0_roomLeft_X0_changesNotTakenBack : GoodIn wsX0_roomLeft (wsV RX0 204 RX0 yX0_changesNotTakenBack wsX0_changesNotTakenBack) := goodIn_app (goodIn_of _ (by decide +kernel)) ggX0_roomLeft_X0_changesNotTakenBack
theorem dX0_roomLeft_0 : decode cX0_roomLeft 0 = .ok (.bipush 120, 2) := by decide +kernel
theorem dX0_roomLeft_2 : decode cX0_roomLeft 2 = .ok (.aload_n 0, 1) := by decide +kernel
theorem dX0_roomLeft_3 : decode cX0_roomLeft 3 = .ok (.getfield 112, 3) := by decide +kernel
theorem dX0_roomLeft_6 : decode cX0_roomLeft 6 = .ok (.isub, 1) := by decide +kernel
theorem dX0_roomLeft_7 : decode cX0_roomLeft 7 = .ok (.istore_n 1, 1) := by decide +kernel
theorem dX0_roomLeft_8 : decode cX0_roomLeft 8 = .ok (.iconst 0, 1) := by decide +kernel
theorem dX0_roomLeft_9 : decode cX0_roomLeft 9 = .ok (.istore_n 2, 1) := by decide +kernel
theorem dX0_roomLeft_10 : decode cX0_roomLeft 10 = .ok (.iload_n 2, 1) := by decide +kernel
theorem dX0_roomLeft_11 : decode cX0_roomLeft 11 = .ok (.aload_n 0, 1) := by decide +kernel
theorem dX0_roomLeft_12 : decode cX0_roomLeft 12 = .ok (.getfield 49, 3) := by decide +kernel
theorem dX0_roomLeft_15 : decode cX0_roomLeft 15 = .ok (.if_icmp .ge 31, 3) := by decide +kernel
theorem dX0_roomLeft_18 : decode cX0_roomLeft 18 = .ok (.aload_n 0, 1) := by decide +kernel
theorem dX0_roomLeft_19 : decode cX0_roomLeft 19 = .ok (.iload_n 2, 1) := by decide +kernel
theorem dX0_roomLeft_20 : decode cX0_roomLeft 20 = .ok (.invokevirtual 91, 3) := by decide +kernel
theorem dX0_roomLeft_23 : decode cX0_roomLeft 23 = .ok (.ifCond .eq 17, 3) := by decide +kernel
theorem dX0_roomLeft_26 : decode cX0_roomLeft 26 = .ok (.iload_n 1, 1) := by decide +kernel
theorem dX0_roomLeft_27 : decode cX0_roomLeft 27 = .ok (.iconst 1, 1) := by decide +kernel
theorem dX0_roomLeft_28 : decode cX0_roomLeft 28 = .ok (.aload_n 0, 1) := by decide +kernel
theorem dX0_roomLeft_29 : decode cX0_roomLeft 29 = .ok (.iload_n 2, 1) := by decide +kernel
theorem dX0_roomLeft_30 : decode cX0_roomLeft 30 = .ok (.aload_n 0, 1) := by decide +kernel
theorem dX0_roomLeft_31 : decode cX0_roomLeft 31 = .ok (.getfield 112, 3) := by decide +kernel
theorem dX0_roomLeft_34 : decode cX0_roomLeft 34 = .ok (.invokevirtual 204, 3) := by decide +kernel
theorem dX0_roomLeft_37 : decode cX0_roomLeft 37 = .ok (.iadd, 1) := by decide +kernel
theorem dX0_roomLeft_38 : decode cX0_roomLeft 38 = .ok (.isub, 1) := by decide +kernel
theorem dX0_roomLeft_39 : decode cX0_roomLeft 39 = .ok (.istore_n 1, 1) := by decide +kernel
theorem dX0_roomLeft_40 : decode cX0_roomLeft 40 = .ok (.iinc 2 1, 3) := by decide +kernel
theorem dX0_roomLeft_43 : decode cX0_roomLeft 43 = .ok (.goto (-33), 3) := by decide +kernel
theorem dX0_roomLeft_46 : decode cX0_roomLeft 46 = .ok (.iload_n 1, 1) := by decide +kernel
theorem dX0_roomLeft_47 : decode cX0_roomLeft 47 = .ok (.ireturn, 1) := by decide +kernel
set_option maxRecDepth 20000 in
theorem ggX0_chalk_X0_put : GoodIn wsX0_chalk wsX0_put := goodIn_r _ [12, 13, 14, 11, 15] (by decide +kernel) (by decide +kernel)
set_option maxRecDepth 20000 in
theorem gX0_chalk_X0_put : GoodIn wsX0_chalk (va_wsS RX0 66 yX0_put wsX0_put) := goodIn_app (goodIn_of _ (by decide +kernel)) ggX0_chalk_X0_put
theorem dX0_chalk_0 : decode cX0_chalk 0 = .ok (.aload_n 0, 1) := by decide +kernel
theorem dX0_chalk_1 : decode cX0_chalk 1 = .ok (.getfield 22, 3) := by decide +kernel
theorem dX0_chalk_4 : decode cX0_chalk 4 = .ok (.aload_n 0, 1) := by decide +kernel
theorem dX0_chalk_5 : decode cX0_chalk 5 = .ok (.getfield 112, 3) := by decide +kernel
theorem dX0_chalk_8 : decode cX0_chalk 8 = .ok (.iload_n 1, 1) := by decide +kernel
theorem dX0_chalk_9 : decode cX0_chalk 9 = .ok (.invokestatic 66, 3) := by decide +kernel
theorem dX0_chalk_12 : decode cX0_chalk 12 = .ok (.aload_n 0, 1) := by decide +kernel
theorem dX0_chalk_13 : decode cX0_chalk 13 = .ok (.getfield 25, 3) := by decide +kernel
theorem dX0_chalk_16 : decode cX0_chalk 16 = .ok (.aload_n 0, 1) := by decide +kernel
theorem dX0_chalk_17 : decode cX0_chalk 17 = .ok (.getfield 112, 3) := by decide +kernel
theorem dX0_chalk_20 : decode cX0_chalk 20 = .ok (.iload_n 2, 1) := by decide +kernel
theorem dX0_chalk_21 : decode cX0_chalk 21 = .ok (.invokestatic 66, 3) := by decide +kernel
theorem dX0_chalk_24 : decode cX0_chalk 24 = .ok (.aload_n 0, 1) := by decide +kernel
theorem dX0_chalk_25 : decode cX0_chalk 25 = .ok (.getfield 28, 3) := by decide +kernel
theorem dX0_chalk_28 : decode cX0_chalk 28 = .ok (.aload_n 0, 1) := by decide +kernel
theorem dX0_chalk_29 : decode cX0_chalk 29 = .ok (.getfield 112, 3) := by decide +kernel
theorem dX0_chalk_32 : decode cX0_chalk 32 = .ok (.iconst (-1), 1) := by decide +kernel
theorem dX0_chalk_33 : decode cX0_chalk 33 = .ok (.invokestatic 66, 3) := by decide +kernel
theorem dX0_chalk_36 : decode cX0_chalk 36 = .ok (.aload_n 0, 1) := by decide +kernel
theorem dX0_chalk_37 : decode cX0_chalk 37 = .ok (.getfield 31, 3) := by decide +kernel
theorem dX0_chalk_40 : decode cX0_chalk 40 = .ok (.aload_n 0, 1) := by decide +kernel
theorem dX0_chalk_41 : decode cX0_chalk 41 = .ok (.getfield 112, 3) := by decide +kernel
theorem dX0_chalk_44 : decode cX0_chalk 44 = .ok (.iconst (-1), 1) := by decide +kernel
theorem dX0_chalk_45 : decode cX0_chalk 45 = .ok (.invokestatic 66, 3) := by decide +kernel
theorem dX0_chalk_48 : decode cX0_chalk 48 = .ok (.aload_n 0, 1) := by decide +kernel
theorem dX0_chalk_49 : decode cX0_chalk 49 = .ok (.getfield 34, 3) := by decide +kernel
theorem dX0_chalk_52 : decode cX0_chalk 52 = .ok (.aload_n 0, 1) := by decide +kernel
theorem dX0_chalk_53 : decode cX0_chalk 53 = .ok (.getfield 112, 3) := by decide +kernel
theorem dX0_chalk_56 : decode cX0_chalk 56 = .ok (.iconst (-1), 1) := by decide +kernel
theorem dX0_chalk_57 : decode cX0_chalk 57 = .ok (.invokestatic 66, 3) := by decide +kernel
theorem dX0_chalk_60 : decode cX0_chalk 60 = .ok (.aload_n 0, 1) := by decide +kernel
theorem dX0_chalk_61 : decode cX0_chalk 61 = .ok (.getfield 37, 3) := by decide +kernel
theorem dX0_chalk_64 : decode cX0_chalk 64 = .ok (.aload_n 0, 1) := by decide +kernel
theorem dX0_chalk_65 : decode cX0_chalk 65 = .ok (.getfield 112, 3) := by decide +kernel
theorem dX0_chalk_68 : decode cX0_chalk 68 = .ok (.iconst (-1), 1) := by decide +kernel
theorem dX0_chalk_69 : decode cX0_chalk 69 = .ok (.invokestatic 66, 3) := by decide +kernel
theorem dX0_chalk_72 : decode cX0_chalk 72 = .ok (.aload_n 0, 1) := by decide +kernel
theorem dX0_chalk_73 : decode cX0_chalk 73 = .ok (.getfield 40, 3) := by decide +kernel
theorem dX0_chalk_76 : decode cX0_chalk 76 = .ok (.aload_n 0, 1) := by decide +kernel
theorem dX0_chalk_77 : decode cX0_chalk 77 = .ok (.getfield 112, 3) := by decide +kernel
theorem dX0_chalk_80 : decode cX0_chalk 80 = .ok (.iconst (-1), 1) := by decide +kernel
theorem dX0_chalk_81 : decode cX0_chalk 81 = .ok (.invokestatic 66, 3) := by decide +kernel
theorem dX0_chalk_84 : decode cX0_chalk 84 = .ok (.aload_n 0, 1) := by decide +kernel
theorem dX0_chalk_85 : decode cX0_chalk 85 = .ok (.dup, 1) := by decide +kernel
theorem dX0_chalk_86 : decode cX0_chalk 86 = .ok (.getfield 112, 3) := by decide +kernel
theorem dX0_chalk_89 : decode cX0_chalk 89 = .ok (.iconst 1, 1) := by decide +kernel
theorem dX0_chalk_90 : decode cX0_chalk 90 = .ok (.iadd, 1) := by decide +kernel
theorem dX0_chalk_91 : decode cX0_chalk 91 = .ok (.putfield 112, 3) := by decide +kernel
theorem dX0_chalk_94 : decode cX0_chalk 94 = .ok (.return_, 1) := by decide +kernel
set_option maxRecDepth 20000 in
theorem ggX0_chalkSpoons_X0_chalk : GoodIn wsX0_chalkSpoons wsX0_chalk := goodIn_r _ [10, 11, 1, 12, 2, 3, 5, 13, 14, 15, 16, 9, 17, 18, 19, 20, 24, 25, 26, 27, 28, 29, 30, 31, 32, 33, 34, 35, 36, 37, 38] (by decide +kernel) (by decide +kernel)
set_option maxRecDepth 20000 in
theorem gX0_chalkSpoons_X0_chalk : GoodIn wsX0_chalkSpoons (wsV RX0 70 RX0 yX0_chalk wsX0_chalk) := goodIn_app (goodIn_of _ (by decide +kernel)) ggX0_chalkSpoons_X0_chalk
set_option maxRecDepth 20000 in
theorem ggX0_chalkSpoons_X0_put : GoodIn wsX0_chalkSpoons wsX0_put := goodIn_r _ [17, 18, 19, 9, 20] (by decide +kernel) (by decide +kernel)
set_option maxRecDepth 20000 in
theorem gX0_chalkSpoons_X0_put : GoodIn wsX0_chalkSpoons (va_wsS RX0 66 yX0_put wsX0_put) := goodIn_app (goodIn_of _ (by decide +kernel)) ggX0_chalkSpoons_X0_put
set_option maxRecDepth 20000 in
theorem ggX0_chalkSpoons_X0_at : GoodIn wsX0_chalkSpoons wsX0_at := goodIn_r _ [23, 18, 19, 9, 20] (by decide +kernel) (by decide +kernel)
set_option maxRecDepth 20000 in
theorem gX0_chalkSpoons_X0_at : GoodIn wsX0_chalkSpoons (va_wsS RX0 102 yX0_at wsX0_at) := goodIn_app (goodIn_of _ (by decide +kernel)) ggX0_chalkSpoons_X0_at
theorem dX0_chalkSpoons_0 : decode cX0_chalkSpoons 0 = .ok (.aload_n 0, 1) := by decide +kernel
theorem dX0_chalkSpoons_1 : decode cX0_chalkSpoons 1 = .ok (.getfield 112, 3) := by decide +kernel
theorem dX0_chalkSpoons_4 : decode cX0_chalkSpoons 4 = .ok (.istore 5, 2) := by decide +kernel
theorem dX0_chalkSpoons_6 : decode cX0_chalkSpoons 6 = .ok (.aload_n 0, 1) := by decide +kernel
theorem dX0_chalkSpoons_7 : decode cX0_chalkSpoons 7 = .ok (.iload_n 1, 1) := by decide +kernel
theorem dX0_chalkSpoons_8 : decode cX0_chalkSpoons 8 = .ok (.iload_n 2, 1) := by decide +kernel
theorem dX0_chalkSpoons_9 : decode cX0_chalkSpoons 9 = .ok (.invokevirtual 70, 3) := by decide +kernel
theorem dX0_chalkSpoons_12 : decode cX0_chalkSpoons 12 = .ok (.aload_n 0, 1) := by decide +kernel
theorem dX0_chalkSpoons_13 : decode cX0_chalkSpoons 13 = .ok (.getfield 28, 3) := by decide +kernel
theorem dX0_chalkSpoons_16 : decode cX0_chalkSpoons 16 = .ok (.iload 5, 2) := by decide +kernel
theorem dX0_chalkSpoons_18 : decode cX0_chalkSpoons 18 = .ok (.iload_n 3, 1) := by decide +kernel
theorem dX0_chalkSpoons_19 : decode cX0_chalkSpoons 19 = .ok (.invokestatic 66, 3) := by decide +kernel
theorem dX0_chalkSpoons_22 : decode cX0_chalkSpoons 22 = .ok (.aload_n 0, 1) := by decide +kernel
theorem dX0_chalkSpoons_23 : decode cX0_chalkSpoons 23 = .ok (.getfield 31, 3) := by decide +kernel
theorem dX0_chalkSpoons_26 : decode cX0_chalkSpoons 26 = .ok (.iload 5, 2) := by decide +kernel
theorem dX0_chalkSpoons_28 : decode cX0_chalkSpoons 28 = .ok (.aload_n 0, 1) := by decide +kernel
theorem dX0_chalkSpoons_29 : decode cX0_chalkSpoons 29 = .ok (.getfield 9, 3) := by decide +kernel
theorem dX0_chalkSpoons_32 : decode cX0_chalkSpoons 32 = .ok (.iload_n 3, 1) := by decide +kernel
theorem dX0_chalkSpoons_33 : decode cX0_chalkSpoons 33 = .ok (.invokestatic 102, 3) := by decide +kernel
theorem dX0_chalkSpoons_36 : decode cX0_chalkSpoons 36 = .ok (.invokestatic 66, 3) := by decide +kernel
theorem dX0_chalkSpoons_39 : decode cX0_chalkSpoons 39 = .ok (.aload_n 0, 1) := by decide +kernel
theorem dX0_chalkSpoons_40 : decode cX0_chalkSpoons 40 = .ok (.getfield 34, 3) := by decide +kernel
theorem dX0_chalkSpoons_43 : decode cX0_chalkSpoons 43 = .ok (.iload 5, 2) := by decide +kernel
theorem dX0_chalkSpoons_45 : decode cX0_chalkSpoons 45 = .ok (.iload 4, 2) := by decide +kernel
theorem dX0_chalkSpoons_47 : decode cX0_chalkSpoons 47 = .ok (.invokestatic 66, 3) := by decide +kernel
theorem dX0_chalkSpoons_50 : decode cX0_chalkSpoons 50 = .ok (.aload_n 0, 1) := by decide +kernel
theorem dX0_chalkSpoons_51 : decode cX0_chalkSpoons 51 = .ok (.getfield 9, 3) := by decide +kernel
theorem dX0_chalkSpoons_54 : decode cX0_chalkSpoons 54 = .ok (.iload_n 3, 1) := by decide +kernel
theorem dX0_chalkSpoons_55 : decode cX0_chalkSpoons 55 = .ok (.iload 4, 2) := by decide +kernel
theorem dX0_chalkSpoons_57 : decode cX0_chalkSpoons 57 = .ok (.invokestatic 66, 3) := by decide +kernel
theorem dX0_chalkSpoons_60 : decode cX0_chalkSpoons 60 = .ok (.return_, 1) := by decide +kernel
set_option maxRecDepth 20000 in
theorem ggX0_takeBack_X0_at : GoodIn wsX0_takeBack wsX0_at := goodIn_r _ [10, 11, 12, 9, 13] (by decide +kernel) (by decide +kernel)
set_option maxRecDepth 20000 in
theorem gX0_takeBack_X0_at : GoodIn wsX0_takeBack (va_wsS RX0 102 yX0_at wsX0_at) := goodIn_app (goodIn_of _ (by decide +kernel)) ggX0_takeBack_X0_at
set_option maxRecDepth 20000 in
theorem ggX0_takeBack_X0_chalkSpoons : GoodIn wsX0_takeBack wsX0_chalkSpoons := goodIn_r _ [17, 1, 3, 4, 18, 19, 20, 21, 22, 9, 23, 2, 24, 5, 6, 25, 26, 27, 11, 12, 13, 7, 8, 10, 28, 29, 30, 31, 32, 33, 34, 35, 36, 37, 38, 39, 40, 41, 42] (by decide +kernel) (by decide +kernel)
set_option maxRecDepth 20000 in
theorem gX0_takeBack_X0_chalkSpoons : GoodIn wsX0_takeBack (wsV RX0 106 RX0 yX0_chalkSpoons wsX0_chalkSpoons) := goodIn_app (goodIn_of _ (by decide +kernel)) ggX0_takeBack_X0_chalkSpoons
end
section
set_option maxRecDepth 20000 in
theorem ggX0_takeBack_X0_put : GoodIn wsX0_takeBack wsX0_put := goodIn_r _ [27, 11, 12, 9, 13] (by decide +kernel) (by decide +kernel)
set_option maxRecDepth 20000 in
theorem gX0_takeBack_X0_put : GoodIn wsX0_takeBack (va_wsS RX0 66 yX0_put wsX0_put) := goodIn_app (goodIn_of _ (by decide +kernel)) ggX0_takeBack_X0_put
theorem dX0_takeBack_0 : decode cX0_takeBack 0 = .ok (.aload_n 0, 1) := by decide +kernel
theorem dX0_takeBack_1 : decode cX0_takeBack 1 = .ok (.getfield 112, 3) := by decide +kernel
theorem dX0_takeBack_4 : decode cX0_takeBack 4 = .ok (.istore_n 2, 1) := by decide +kernel
theorem dX0_takeBack_5 : decode cX0_takeBack 5 = .ok (.aload_n 0, 1) := by decide +kernel
theorem dX0_takeBack_6 : decode cX0_takeBack 6 = .ok (.aload_n 0, 1) := by decide +kernel
theorem dX0_takeBack_7 : decode cX0_takeBack 7 = .ok (.getfield 22, 3) := by decide +kernel
theorem dX0_takeBack_10 : decode cX0_takeBack 10 = .ok (.iload_n 1, 1) := by decide +kernel
theorem dX0_takeBack_11 : decode cX0_takeBack 11 = .ok (.invokestatic 102, 3) := by decide +kernel
theorem dX0_takeBack_14 : decode cX0_takeBack 14 = .ok (.iconst 3, 1) := by decide +kernel
theorem dX0_takeBack_15 : decode cX0_takeBack 15 = .ok (.aload_n 0, 1) := by decide +kernel
theorem dX0_takeBack_16 : decode cX0_takeBack 16 = .ok (.getfield 28, 3) := by decide +kernel
theorem dX0_takeBack_19 : decode cX0_takeBack 19 = .ok (.iload_n 1, 1) := by decide +kernel
theorem dX0_takeBack_20 : decode cX0_takeBack 20 = .ok (.invokestatic 102, 3) := by decide +kernel
theorem dX0_takeBack_23 : decode cX0_takeBack 23 = .ok (.aload_n 0, 1) := by decide +kernel
theorem dX0_takeBack_24 : decode cX0_takeBack 24 = .ok (.getfield 31, 3) := by decide +kernel
theorem dX0_takeBack_27 : decode cX0_takeBack 27 = .ok (.iload_n 1, 1) := by decide +kernel
theorem dX0_takeBack_28 : decode cX0_takeBack 28 = .ok (.invokestatic 102, 3) := by decide +kernel
theorem dX0_takeBack_31 : decode cX0_takeBack 31 = .ok (.invokevirtual 106, 3) := by decide +kernel
theorem dX0_takeBack_34 : decode cX0_takeBack 34 = .ok (.aload_n 0, 1) := by decide +kernel
theorem dX0_takeBack_35 : decode cX0_takeBack 35 = .ok (.getfield 37, 3) := by decide +kernel
theorem dX0_takeBack_38 : decode cX0_takeBack 38 = .ok (.iload_n 2, 1) := by decide +kernel
theorem dX0_takeBack_39 : decode cX0_takeBack 39 = .ok (.iload_n 1, 1) := by decide +kernel
theorem dX0_takeBack_40 : decode cX0_takeBack 40 = .ok (.invokestatic 66, 3) := by decide +kernel
theorem dX0_takeBack_43 : decode cX0_takeBack 43 = .ok (.aload_n 0, 1) := by decide +kernel
theorem dX0_takeBack_44 : decode cX0_takeBack 44 = .ok (.getfield 40, 3) := by decide +kernel
theorem dX0_takeBack_47 : decode cX0_takeBack 47 = .ok (.iload_n 1, 1) := by decide +kernel
theorem dX0_takeBack_48 : decode cX0_takeBack 48 = .ok (.iload_n 2, 1) := by decide +kernel
theorem dX0_takeBack_49 : decode cX0_takeBack 49 = .ok (.invokestatic 66, 3) := by decide +kernel
theorem dX0_takeBack_52 : decode cX0_takeBack 52 = .ok (.return_, 1) := by decide +kernel
set_option maxRecDepth 20000 in
theorem ggX0_undo_X0_isChangeNotTakenBack : GoodIn wsX0_undo wsX0_isChangeNotTakenBack := goodIn_r _ [7, 8, 9, 10, 11, 12, 6, 13, 14, 15, 16, 37, 38, 39, 40, 41, 42, 43, 44, 45, 46, 47, 48, 49, 50, 51] (by decide +kernel) (by decide +kernel)
set_option maxRecDepth 20000 in
theorem gX0_undo_X0_isChangeNotTakenBack : GoodIn wsX0_undo (wsV RX0 219 RX0 yX0_isChangeNotTakenBack wsX0_isChangeNotTakenBack) := goodIn_app (goodIn_of _ (by decide +kernel)) ggX0_undo_X0_isChangeNotTakenBack
set_option maxRecDepth 20000 in
theorem ggX0_undo_X0_takeBack : GoodIn wsX0_undo wsX0_takeBack := goodIn_r _ [20, 1, 8, 21, 22, 23, 10, 11, 12, 6, 13, 14, 15, 16, 24, 25, 26, 27, 28, 29, 30, 31, 32, 33, 9, 34, 35, 36, 37, 38, 39, 40, 41, 42, 43, 44, 45, 46, 47, 48, 49, 50, 51] (by decide +kernel) (by decide +kernel)
set_option maxRecDepth 20000 in
theorem gX0_undo_X0_takeBack : GoodIn wsX0_undo (wsV RX0 223 RX0 yX0_takeBack wsX0_takeBack) := goodIn_app (goodIn_of _ (by decide +kernel)) ggX0_undo_X0_takeBack
set_option maxRecDepth 20000 in
theorem ggX0_undo_X0_chalk : GoodIn wsX0_undo wsX0_chalk := goodIn_r _ [33, 8, 1, 9, 21, 22, 29, 23, 10, 34, 35, 6, 36, 14, 15, 16, 37, 38, 39, 40, 41, 42, 43, 44, 45, 46, 47, 48, 49, 50, 51] (by decide +kernel) (by decide +kernel)
set_option maxRecDepth 20000 in
theorem gX0_undo_X0_chalk : GoodIn wsX0_undo (wsV RX0 70 RX0 yX0_chalk wsX0_chalk) := goodIn_app (goodIn_of _ (by decide +kernel)) ggX0_undo_X0_chalk
set_option maxRecDepth 20000 in
theorem ggX0_undo_X0_put : GoodIn wsX0_undo wsX0_put := goodIn_r _ [36, 14, 15, 6, 16] (by decide +kernel) (by decide +kernel)
set_option maxRecDepth 20000 in
theorem gX0_undo_X0_put : GoodIn wsX0_undo (va_wsS RX0 66 yX0_put wsX0_put) := goodIn_app (goodIn_of _ (by decide +kernel)) ggX0_undo_X0_put
theorem dX0_undo_0 : decode cX0_undo 0 = .ok (.iconst 0, 1) := by decide +kernel
theorem dX0_undo_1 : decode cX0_undo 1 = .ok (.istore_n 2, 1) := by decide +kernel
theorem dX0_undo_2 : decode cX0_undo 2 = .ok (.aload_n 0, 1) := by decide +kernel
theorem dX0_undo_3 : decode cX0_undo 3 = .ok (.getfield 112, 3) := by decide +kernel
theorem dX0_undo_6 : decode cX0_undo 6 = .ok (.iconst 1, 1) := by decide +kernel
theorem dX0_undo_7 : decode cX0_undo 7 = .ok (.isub, 1) := by decide +kernel
theorem dX0_undo_8 : decode cX0_undo 8 = .ok (.istore_n 3, 1) := by decide +kernel
theorem dX0_undo_9 : decode cX0_undo 9 = .ok (.iload_n 3, 1) := by decide +kernel
theorem dX0_undo_10 : decode cX0_undo 10 = .ok (.ifCond .lt 30, 3) := by decide +kernel
theorem dX0_undo_13 : decode cX0_undo 13 = .ok (.aload_n 0, 1) := by decide +kernel
theorem dX0_undo_14 : decode cX0_undo 14 = .ok (.iload_n 3, 1) := by decide +kernel
theorem dX0_undo_15 : decode cX0_undo 15 = .ok (.iload_n 1, 1) := by decide +kernel
theorem dX0_undo_16 : decode cX0_undo 16 = .ok (.aload_n 0, 1) := by decide +kernel
theorem dX0_undo_17 : decode cX0_undo 17 = .ok (.getfield 112, 3) := by decide +kernel
theorem dX0_undo_20 : decode cX0_undo 20 = .ok (.invokevirtual 219, 3) := by decide +kernel
theorem dX0_undo_23 : decode cX0_undo 23 = .ok (.ifCond .eq 11, 3) := by decide +kernel
theorem dX0_undo_26 : decode cX0_undo 26 = .ok (.aload_n 0, 1) := by decide +kernel
theorem dX0_undo_27 : decode cX0_undo 27 = .ok (.iload_n 3, 1) := by decide +kernel
theorem dX0_undo_28 : decode cX0_undo 28 = .ok (.invokevirtual 223, 3) := by decide +kernel
theorem dX0_undo_31 : decode cX0_undo 31 = .ok (.iinc 2 1, 3) := by decide +kernel
theorem dX0_undo_34 : decode cX0_undo 34 = .ok (.iinc 3 (-1), 3) := by decide +kernel
theorem dX0_undo_37 : decode cX0_undo 37 = .ok (.goto (-28), 3) := by decide +kernel
theorem dX0_undo_40 : decode cX0_undo 40 = .ok (.aload_n 0, 1) := by decide +kernel
theorem dX0_undo_41 : decode cX0_undo 41 = .ok (.iload_n 1, 1) := by decide +kernel
theorem dX0_undo_42 : decode cX0_undo 42 = .ok (.iconst 4, 1) := by decide +kernel
theorem dX0_undo_43 : decode cX0_undo 43 = .ok (.invokevirtual 70, 3) := by decide +kernel
theorem dX0_undo_46 : decode cX0_undo 46 = .ok (.aload_n 0, 1) := by decide +kernel
theorem dX0_undo_47 : decode cX0_undo 47 = .ok (.getfield 19, 3) := by decide +kernel
theorem dX0_undo_50 : decode cX0_undo 50 = .ok (.iload_n 1, 1) := by decide +kernel
theorem dX0_undo_51 : decode cX0_undo 51 = .ok (.iconst 2, 1) := by decide +kernel
theorem dX0_undo_52 : decode cX0_undo 52 = .ok (.invokestatic 66, 3) := by decide +kernel
theorem dX0_undo_55 : decode cX0_undo 55 = .ok (.iload_n 2, 1) := by decide +kernel
theorem dX0_undo_56 : decode cX0_undo 56 = .ok (.ireturn, 1) := by decide +kernel
theorem dX0_dryUpTo_0 : decode cX0_dryUpTo 0 = .ok (.aload_n 0, 1) := by decide +kernel
theorem dX0_dryUpTo_1 : decode cX0_dryUpTo 1 = .ok (.getfield 166, 3) := by decide +kernel
theorem dX0_dryUpTo_4 : decode cX0_dryUpTo 4 = .ok (.istore_n 2, 1) := by decide +kernel
theorem dX0_dryUpTo_5 : decode cX0_dryUpTo 5 = .ok (.aload_n 0, 1) := by decide +kernel
theorem dX0_dryUpTo_6 : decode cX0_dryUpTo 6 = .ok (.iload_n 2, 1) := by decide +kernel
theorem dX0_dryUpTo_7 : decode cX0_dryUpTo 7 = .ok (.iload_n 1, 1) := by decide +kernel
theorem dX0_dryUpTo_8 : decode cX0_dryUpTo 8 = .ok (.invokestatic 227, 3) := by decide +kernel
theorem dX0_dryUpTo_11 : decode cX0_dryUpTo 11 = .ok (.putfield 166, 3) := by decide +kernel
theorem dX0_dryUpTo_14 : decode cX0_dryUpTo 14 = .ok (.aload_n 0, 1) := by decide +kernel
theorem dX0_dryUpTo_15 : decode cX0_dryUpTo 15 = .ok (.getfield 166, 3) := by decide +kernel
theorem dX0_dryUpTo_18 : decode cX0_dryUpTo 18 = .ok (.iload_n 2, 1) := by decide +kernel
theorem dX0_dryUpTo_19 : decode cX0_dryUpTo 19 = .ok (.isub, 1) := by decide +kernel
theorem dX0_dryUpTo_20 : decode cX0_dryUpTo 20 = .ok (.ireturn, 1) := by decide +kernel
set_option maxRecDepth 20000 in
theorem ggX0_wipeWhatIsNotDry_X0_at : GoodIn wsX0_wipeWhatIsNotDry wsX0_at := goodIn_r _ [9, 10, 11, 8, 12] (by decide +kernel) (by decide +kernel)
set_option maxRecDepth 20000 in
theorem gX0_wipeWhatIsNotDry_X0_at : GoodIn wsX0_wipeWhatIsNotDry (va_wsS RX0 102 yX0_at wsX0_at) := goodIn_app (goodIn_of _ (by decide +kernel)) ggX0_wipeWhatIsNotDry_X0_at
set_option maxRecDepth 20000 in
theorem ggX0_wipeWhatIsNotDry_X0_put : GoodIn wsX0_wipeWhatIsNotDry wsX0_put := goodIn_r _ [15, 10, 11, 8, 12] (by decide +kernel) (by decide +kernel)
set_option maxRecDepth 20000 in
theorem gX0_wipeWhatIsNotDry_X0_put : GoodIn wsX0_wipeWhatIsNotDry (va_wsS RX0 66 yX0_put wsX0_put) := goodIn_app (goodIn_of _ (by decide +kernel)) ggX0_wipeWhatIsNotDry_X0_put
set_option maxRecDepth 20000 in
theorem ggX0_wipeWhatIsNotDry_X0_stateByLines : GoodIn wsX0_wipeWhatIsNotDry wsX0_stateByLines := goodIn_r _ [19, 20, 21, 6, 7, 8, 9, 10, 11, 12, 22, 23, 24, 25, 26, 27, 28, 29, 30, 31, 32, 33, 34, 35, 36, 37, 38, 39] (by decide +kernel) (by decide +kernel)
set_option maxRecDepth 20000 in
theorem gX0_wipeWhatIsNotDry_X0_stateByLines : GoodIn wsX0_wipeWhatIsNotDry (wsV RX0 184 RX0 yX0_stateByLines wsX0_stateByLines) := goodIn_app (goodIn_of _ (by decide +kernel)) ggX0_wipeWhatIsNotDry_X0_stateByLines
theorem dX0_wipeWhatIsNotDry_0 : decode cX0_wipeWhatIsNotDry 0 = .ok (.aload_n 0, 1) := by decide +kernel
theorem dX0_wipeWhatIsNotDry_1 : decode cX0_wipeWhatIsNotDry 1 = .ok (.aload_n 0, 1) := by decide +kernel
theorem dX0_wipeWhatIsNotDry_2 : decode cX0_wipeWhatIsNotDry 2 = .ok (.getfield 166, 3) := by decide +kernel
theorem dX0_wipeWhatIsNotDry_5 : decode cX0_wipeWhatIsNotDry 5 = .ok (.putfield 112, 3) := by decide +kernel
theorem dX0_wipeWhatIsNotDry_8 : decode cX0_wipeWhatIsNotDry 8 = .ok (.iconst 0, 1) := by decide +kernel
theorem dX0_wipeWhatIsNotDry_9 : decode cX0_wipeWhatIsNotDry 9 = .ok (.istore_n 1, 1) := by decide +kernel
theorem dX0_wipeWhatIsNotDry_10 : decode cX0_wipeWhatIsNotDry 10 = .ok (.iload_n 1, 1) := by decide +kernel
theorem dX0_wipeWhatIsNotDry_11 : decode cX0_wipeWhatIsNotDry 11 = .ok (.aload_n 0, 1) := by decide +kernel
theorem dX0_wipeWhatIsNotDry_12 : decode cX0_wipeWhatIsNotDry 12 = .ok (.getfield 112, 3) := by decide +kernel
theorem dX0_wipeWhatIsNotDry_15 : decode cX0_wipeWhatIsNotDry 15 = .ok (.if_icmp .ge 33, 3) := by decide +kernel
theorem dX0_wipeWhatIsNotDry_18 : decode cX0_wipeWhatIsNotDry 18 = .ok (.aload_n 0, 1) := by decide +kernel
theorem dX0_wipeWhatIsNotDry_19 : decode cX0_wipeWhatIsNotDry 19 = .ok (.getfield 40, 3) := by decide +kernel
theorem dX0_wipeWhatIsNotDry_22 : decode cX0_wipeWhatIsNotDry 22 = .ok (.iload_n 1, 1) := by decide +kernel
theorem dX0_wipeWhatIsNotDry_23 : decode cX0_wipeWhatIsNotDry 23 = .ok (.invokestatic 102, 3) := by decide +kernel
theorem dX0_wipeWhatIsNotDry_26 : decode cX0_wipeWhatIsNotDry 26 = .ok (.aload_n 0, 1) := by decide +kernel
theorem dX0_wipeWhatIsNotDry_27 : decode cX0_wipeWhatIsNotDry 27 = .ok (.getfield 112, 3) := by decide +kernel
theorem dX0_wipeWhatIsNotDry_30 : decode cX0_wipeWhatIsNotDry 30 = .ok (.if_icmp .lt 12, 3) := by decide +kernel
theorem dX0_wipeWhatIsNotDry_33 : decode cX0_wipeWhatIsNotDry 33 = .ok (.aload_n 0, 1) := by decide +kernel
theorem dX0_wipeWhatIsNotDry_34 : decode cX0_wipeWhatIsNotDry 34 = .ok (.getfield 40, 3) := by decide +kernel
theorem dX0_wipeWhatIsNotDry_37 : decode cX0_wipeWhatIsNotDry 37 = .ok (.iload_n 1, 1) := by decide +kernel
theorem dX0_wipeWhatIsNotDry_38 : decode cX0_wipeWhatIsNotDry 38 = .ok (.iconst (-1), 1) := by decide +kernel
theorem dX0_wipeWhatIsNotDry_39 : decode cX0_wipeWhatIsNotDry 39 = .ok (.invokestatic 66, 3) := by decide +kernel
theorem dX0_wipeWhatIsNotDry_42 : decode cX0_wipeWhatIsNotDry 42 = .ok (.iinc 1 1, 3) := by decide +kernel
theorem dX0_wipeWhatIsNotDry_45 : decode cX0_wipeWhatIsNotDry 45 = .ok (.goto (-35), 3) := by decide +kernel
theorem dX0_wipeWhatIsNotDry_48 : decode cX0_wipeWhatIsNotDry 48 = .ok (.iconst 0, 1) := by decide +kernel
theorem dX0_wipeWhatIsNotDry_49 : decode cX0_wipeWhatIsNotDry 49 = .ok (.istore_n 1, 1) := by decide +kernel
theorem dX0_wipeWhatIsNotDry_50 : decode cX0_wipeWhatIsNotDry 50 = .ok (.iload_n 1, 1) := by decide +kernel
theorem dX0_wipeWhatIsNotDry_51 : decode cX0_wipeWhatIsNotDry 51 = .ok (.aload_n 0, 1) := by decide +kernel
theorem dX0_wipeWhatIsNotDry_52 : decode cX0_wipeWhatIsNotDry 52 = .ok (.getfield 49, 3) := by decide +kernel
theorem dX0_wipeWhatIsNotDry_55 : decode cX0_wipeWhatIsNotDry 55 = .ok (.if_icmp .ge 26, 3) := by decide +kernel
theorem dX0_wipeWhatIsNotDry_58 : decode cX0_wipeWhatIsNotDry 58 = .ok (.aload_n 0, 1) := by decide +kernel
theorem dX0_wipeWhatIsNotDry_59 : decode cX0_wipeWhatIsNotDry 59 = .ok (.getfield 19, 3) := by decide +kernel
theorem dX0_wipeWhatIsNotDry_62 : decode cX0_wipeWhatIsNotDry 62 = .ok (.iload_n 1, 1) := by decide +kernel
theorem dX0_wipeWhatIsNotDry_63 : decode cX0_wipeWhatIsNotDry 63 = .ok (.aload_n 0, 1) := by decide +kernel
theorem dX0_wipeWhatIsNotDry_64 : decode cX0_wipeWhatIsNotDry 64 = .ok (.iload_n 1, 1) := by decide +kernel
theorem dX0_wipeWhatIsNotDry_65 : decode cX0_wipeWhatIsNotDry 65 = .ok (.aload_n 0, 1) := by decide +kernel
theorem dX0_wipeWhatIsNotDry_66 : decode cX0_wipeWhatIsNotDry 66 = .ok (.getfield 112, 3) := by decide +kernel
theorem dX0_wipeWhatIsNotDry_69 : decode cX0_wipeWhatIsNotDry 69 = .ok (.invokevirtual 184, 3) := by decide +kernel
theorem dX0_wipeWhatIsNotDry_72 : decode cX0_wipeWhatIsNotDry 72 = .ok (.invokestatic 66, 3) := by decide +kernel
theorem dX0_wipeWhatIsNotDry_75 : decode cX0_wipeWhatIsNotDry 75 = .ok (.iinc 1 1, 3) := by decide +kernel
theorem dX0_wipeWhatIsNotDry_78 : decode cX0_wipeWhatIsNotDry 78 = .ok (.goto (-28), 3) := by decide +kernel
theorem dX0_wipeWhatIsNotDry_81 : decode cX0_wipeWhatIsNotDry 81 = .ok (.return_, 1) := by decide +kernel
set_option maxRecDepth 20000 in
theorem ggX0_doAnew_X0_isToDoAnew : GoodIn wsX0_doAnew wsX0_isToDoAnew := goodIn_r _ [9, 3, 10, 11, 12, 8, 13, 14, 15, 16, 20, 21, 22, 23, 24, 25, 26, 27, 28, 29, 30, 31, 32, 33, 34] (by decide +kernel) (by decide +kernel)
set_option maxRecDepth 20000 in
theorem gX0_doAnew_X0_isToDoAnew : GoodIn wsX0_doAnew (wsV RX0 181 RX0 yX0_isToDoAnew wsX0_isToDoAnew) := goodIn_app (goodIn_of _ (by decide +kernel)) ggX0_doAnew_X0_isToDoAnew
set_option maxRecDepth 20000 in
theorem ggX0_doAnew_X0_at : GoodIn wsX0_doAnew wsX0_at := goodIn_r _ [13, 14, 15, 8, 16] (by decide +kernel) (by decide +kernel)
set_option maxRecDepth 20000 in
theorem gX0_doAnew_X0_at : GoodIn wsX0_doAnew (va_wsS RX0 102 yX0_at wsX0_at) := goodIn_app (goodIn_of _ (by decide +kernel)) ggX0_doAnew_X0_at
set_option maxRecDepth 20000 in
theorem ggX0_doAnew_X0_put : GoodIn wsX0_doAnew wsX0_put := goodIn_r _ [19, 14, 15, 8, 16] (by decide +kernel) (by decide +kernel)
set_option maxRecDepth 20000 in
theorem gX0_doAnew_X0_put : GoodIn wsX0_doAnew (va_wsS RX0 66 yX0_put wsX0_put) := goodIn_app (goodIn_of _ (by decide +kernel)) ggX0_doAnew_X0_put
theorem dX0_doAnew_0 : decode cX0_doAnew 0 = .ok (.iconst 0, 1) := by decide +kernel
theorem dX0_doAnew_1 : decode cX0_doAnew 1 = .ok (.istore_n 1, 1) := by decide +kernel
theorem dX0_doAnew_2 : decode cX0_doAnew 2 = .ok (.iconst 0, 1) := by decide +kernel
theorem dX0_doAnew_3 : decode cX0_doAnew 3 = .ok (.istore_n 2, 1) := by decide +kernel
theorem dX0_doAnew_4 : decode cX0_doAnew 4 = .ok (.iload_n 2, 1) := by decide +kernel
theorem dX0_doAnew_5 : decode cX0_doAnew 5 = .ok (.aload_n 0, 1) := by decide +kernel
theorem dX0_doAnew_6 : decode cX0_doAnew 6 = .ok (.getfield 112, 3) := by decide +kernel
theorem dX0_doAnew_9 : decode cX0_doAnew 9 = .ok (.if_icmp .ge 43, 3) := by decide +kernel
theorem dX0_doAnew_12 : decode cX0_doAnew 12 = .ok (.aload_n 0, 1) := by decide +kernel
theorem dX0_doAnew_13 : decode cX0_doAnew 13 = .ok (.iload_n 2, 1) := by decide +kernel
theorem dX0_doAnew_14 : decode cX0_doAnew 14 = .ok (.invokevirtual 181, 3) := by decide +kernel
theorem dX0_doAnew_17 : decode cX0_doAnew 17 = .ok (.ifCond .eq 29, 3) := by decide +kernel
theorem dX0_doAnew_20 : decode cX0_doAnew 20 = .ok (.aload_n 0, 1) := by decide +kernel
theorem dX0_doAnew_21 : decode cX0_doAnew 21 = .ok (.getfield 9, 3) := by decide +kernel
theorem dX0_doAnew_24 : decode cX0_doAnew 24 = .ok (.aload_n 0, 1) := by decide +kernel
theorem dX0_doAnew_25 : decode cX0_doAnew 25 = .ok (.getfield 28, 3) := by decide +kernel
theorem dX0_doAnew_28 : decode cX0_doAnew 28 = .ok (.iload_n 2, 1) := by decide +kernel
theorem dX0_doAnew_29 : decode cX0_doAnew 29 = .ok (.invokestatic 102, 3) := by decide +kernel
theorem dX0_doAnew_32 : decode cX0_doAnew 32 = .ok (.aload_n 0, 1) := by decide +kernel
theorem dX0_doAnew_33 : decode cX0_doAnew 33 = .ok (.getfield 34, 3) := by decide +kernel
theorem dX0_doAnew_36 : decode cX0_doAnew 36 = .ok (.iload_n 2, 1) := by decide +kernel
theorem dX0_doAnew_37 : decode cX0_doAnew 37 = .ok (.invokestatic 102, 3) := by decide +kernel
theorem dX0_doAnew_40 : decode cX0_doAnew 40 = .ok (.invokestatic 66, 3) := by decide +kernel
theorem dX0_doAnew_43 : decode cX0_doAnew 43 = .ok (.iinc 1 1, 3) := by decide +kernel
theorem dX0_doAnew_46 : decode cX0_doAnew 46 = .ok (.iinc 2 1, 3) := by decide +kernel
theorem dX0_doAnew_49 : decode cX0_doAnew 49 = .ok (.goto (-45), 3) := by decide +kernel
theorem dX0_doAnew_52 : decode cX0_doAnew 52 = .ok (.iload_n 1, 1) := by decide +kernel
theorem dX0_doAnew_53 : decode cX0_doAnew 53 = .ok (.ireturn, 1) := by decide +kernel
set_option maxRecDepth 20000 in
theorem ggX0_isToDoAnew_X0_at : GoodIn wsX0_isToDoAnew wsX0_at := goodIn_r _ [6, 7, 8, 5, 9] (by decide +kernel) (by decide +kernel)
set_option maxRecDepth 20000 in
theorem gX0_isToDoAnew_X0_at : GoodIn wsX0_isToDoAnew (va_wsS RX0 102 yX0_at wsX0_at) := goodIn_app (goodIn_of _ (by decide +kernel)) ggX0_isToDoAnew_X0_at
theorem dX0_isToDoAnew_0 : decode cX0_isToDoAnew 0 = .ok (.aload_n 0, 1) := by decide +kernel
theorem dX0_isToDoAnew_1 : decode cX0_isToDoAnew 1 = .ok (.getfield 28, 3) := by decide +kernel
theorem dX0_isToDoAnew_4 : decode cX0_isToDoAnew 4 = .ok (.iload_n 1, 1) := by decide +kernel
theorem dX0_isToDoAnew_5 : decode cX0_isToDoAnew 5 = .ok (.invokestatic 102, 3) := by decide +kernel
theorem dX0_isToDoAnew_8 : decode cX0_isToDoAnew 8 = .ok (.istore_n 2, 1) := by decide +kernel
theorem dX0_isToDoAnew_9 : decode cX0_isToDoAnew 9 = .ok (.iload_n 2, 1) := by decide +kernel
theorem dX0_isToDoAnew_10 : decode cX0_isToDoAnew 10 = .ok (.iconst (-1), 1) := by decide +kernel
theorem dX0_isToDoAnew_11 : decode cX0_isToDoAnew 11 = .ok (.if_icmp .eq 19, 3) := by decide +kernel
theorem dX0_isToDoAnew_14 : decode cX0_isToDoAnew 14 = .ok (.iload_n 1, 1) := by decide +kernel
theorem dX0_isToDoAnew_15 : decode cX0_isToDoAnew 15 = .ok (.aload_n 0, 1) := by decide +kernel
theorem dX0_isToDoAnew_16 : decode cX0_isToDoAnew 16 = .ok (.getfield 16, 3) := by decide +kernel
theorem dX0_isToDoAnew_19 : decode cX0_isToDoAnew 19 = .ok (.iload_n 2, 1) := by decide +kernel
theorem dX0_isToDoAnew_20 : decode cX0_isToDoAnew 20 = .ok (.invokestatic 102, 3) := by decide +kernel
theorem dX0_isToDoAnew_23 : decode cX0_isToDoAnew 23 = .ok (.if_icmp .le 7, 3) := by decide +kernel
theorem dX0_isToDoAnew_26 : decode cX0_isToDoAnew 26 = .ok (.iconst 1, 1) := by decide +kernel
theorem dX0_isToDoAnew_27 : decode cX0_isToDoAnew 27 = .ok (.goto 4, 3) := by decide +kernel
theorem dX0_isToDoAnew_30 : decode cX0_isToDoAnew 30 = .ok (.iconst 0, 1) := by decide +kernel
theorem dX0_isToDoAnew_31 : decode cX0_isToDoAnew 31 = .ok (.ireturn, 1) := by decide +kernel
set_option maxRecDepth 20000 in
theorem ggX0_linesToDoAnew_X0_isToDoAnew : GoodIn wsX0_linesToDoAnew wsX0_isToDoAnew := goodIn_r _ [6, 7, 8, 9, 10, 5, 11, 12, 13, 14, 15, 16, 17, 18, 19, 20, 21, 22, 23, 24, 25, 26, 27, 28, 29] (by decide +kernel) (by decide +kernel)
set_option maxRecDepth 20000 in
theorem gX0_linesToDoAnew_X0_isToDoAnew : GoodIn wsX0_linesToDoAnew (wsV RX0 181 RX0 yX0_isToDoAnew wsX0_isToDoAnew) := goodIn_app (goodIn_of _ (by decide +kernel)) ggX0_linesToDoAnew_X0_isToDoAnew
theorem dX0_linesToDoAnew_0 : decode cX0_linesToDoAnew 0 = .ok (.iconst 0, 1) := by decide +kernel
theorem dX0_linesToDoAnew_1 : decode cX0_linesToDoAnew 1 = .ok (.istore_n 1, 1) := by decide +kernel
theorem dX0_linesToDoAnew_2 : decode cX0_linesToDoAnew 2 = .ok (.iconst 0, 1) := by decide +kernel
theorem dX0_linesToDoAnew_3 : decode cX0_linesToDoAnew 3 = .ok (.istore_n 2, 1) := by decide +kernel
theorem dX0_linesToDoAnew_4 : decode cX0_linesToDoAnew 4 = .ok (.iload_n 2, 1) := by decide +kernel
theorem dX0_linesToDoAnew_5 : decode cX0_linesToDoAnew 5 = .ok (.aload_n 0, 1) := by decide +kernel
theorem dX0_linesToDoAnew_6 : decode cX0_linesToDoAnew 6 = .ok (.getfield 166, 3) := by decide +kernel
theorem dX0_linesToDoAnew_9 : decode cX0_linesToDoAnew 9 = .ok (.if_icmp .ge 20, 3) := by decide +kernel
theorem dX0_linesToDoAnew_12 : decode cX0_linesToDoAnew 12 = .ok (.aload_n 0, 1) := by decide +kernel
theorem dX0_linesToDoAnew_13 : decode cX0_linesToDoAnew 13 = .ok (.iload_n 2, 1) := by decide +kernel
theorem dX0_linesToDoAnew_14 : decode cX0_linesToDoAnew 14 = .ok (.invokevirtual 181, 3) := by decide +kernel
theorem dX0_linesToDoAnew_17 : decode cX0_linesToDoAnew 17 = .ok (.ifCond .eq 6, 3) := by decide +kernel
theorem dX0_linesToDoAnew_20 : decode cX0_linesToDoAnew 20 = .ok (.iinc 1 1, 3) := by decide +kernel
theorem dX0_linesToDoAnew_23 : decode cX0_linesToDoAnew 23 = .ok (.iinc 2 1, 3) := by decide +kernel
theorem dX0_linesToDoAnew_26 : decode cX0_linesToDoAnew 26 = .ok (.goto (-22), 3) := by decide +kernel
theorem dX0_linesToDoAnew_29 : decode cX0_linesToDoAnew 29 = .ok (.iload_n 1, 1) := by decide +kernel
theorem dX0_linesToDoAnew_30 : decode cX0_linesToDoAnew 30 = .ok (.ireturn, 1) := by decide +kernel
set_option maxRecDepth 20000 in
theorem ggX0_firstLineToDoAnew_X0_isToDoAnew : GoodIn wsX0_firstLineToDoAnew wsX0_isToDoAnew := goodIn_r _ [6, 7, 8, 9, 10, 5, 11, 12, 13, 14, 15, 16, 17, 18, 19, 20, 21, 22, 23, 24, 25, 26, 27, 28, 29] (by decide +kernel) (by decide +kernel)
set_option maxRecDepth 20000 in
theorem gX0_firstLineToDoAnew_X0_isToDoAnew : GoodIn wsX0_firstLineToDoAnew (wsV RX0 181 RX0 yX0_isToDoAnew wsX0_isToDoAnew) := goodIn_app (goodIn_of _ (by decide +kernel)) ggX0_firstLineToDoAnew_X0_isToDoAnew
theorem dX0_firstLineToDoAnew_0 : decode cX0_firstLineToDoAnew 0 = .ok (.iconst 0, 1) := by decide +kernel
theorem dX0_firstLineToDoAnew_1 : decode cX0_firstLineToDoAnew 1 = .ok (.istore_n 1, 1) := by decide +kernel
theorem dX0_firstLineToDoAnew_2 : decode cX0_firstLineToDoAnew 2 = .ok (.iload_n 1, 1) := by decide +kernel
theorem dX0_firstLineToDoAnew_3 : decode cX0_firstLineToDoAnew 3 = .ok (.aload_n 0, 1) := by decide +kernel
theorem dX0_firstLineToDoAnew_4 : decode cX0_firstLineToDoAnew 4 = .ok (.getfield 166, 3) := by decide +kernel
theorem dX0_firstLineToDoAnew_7 : decode cX0_firstLineToDoAnew 7 = .ok (.if_icmp .ge 19, 3) := by decide +kernel
theorem dX0_firstLineToDoAnew_10 : decode cX0_firstLineToDoAnew 10 = .ok (.aload_n 0, 1) := by decide +kernel
theorem dX0_firstLineToDoAnew_11 : decode cX0_firstLineToDoAnew 11 = .ok (.iload_n 1, 1) := by decide +kernel
theorem dX0_firstLineToDoAnew_12 : decode cX0_firstLineToDoAnew 12 = .ok (.invokevirtual 181, 3) := by decide +kernel
theorem dX0_firstLineToDoAnew_15 : decode cX0_firstLineToDoAnew 15 = .ok (.ifCond .eq 5, 3) := by decide +kernel
theorem dX0_firstLineToDoAnew_18 : decode cX0_firstLineToDoAnew 18 = .ok (.iload_n 1, 1) := by decide +kernel
theorem dX0_firstLineToDoAnew_19 : decode cX0_firstLineToDoAnew 19 = .ok (.ireturn, 1) := by decide +kernel
theorem dX0_firstLineToDoAnew_20 : decode cX0_firstLineToDoAnew 20 = .ok (.iinc 1 1, 3) := by decide +kernel
theorem dX0_firstLineToDoAnew_23 : decode cX0_firstLineToDoAnew 23 = .ok (.goto (-21), 3) := by decide +kernel
theorem dX0_firstLineToDoAnew_26 : decode cX0_firstLineToDoAnew 26 = .ok (.iconst (-1), 1) := by decide +kernel
theorem dX0_firstLineToDoAnew_27 : decode cX0_firstLineToDoAnew 27 = .ok (.ireturn, 1) := by decide +kernel
set_option maxRecDepth 20000 in
theorem ggX0_linesToTakeBack_X0_stateByLines : GoodIn wsX0_linesToTakeBack wsX0_stateByLines := goodIn_r _ [7, 8, 9, 10, 11, 6, 12, 13, 14, 15, 16, 17, 18, 28, 29, 30, 31, 32, 33, 34, 35, 36, 37, 38, 39, 40, 41, 42] (by decide +kernel) (by decide +kernel)
set_option maxRecDepth 20000 in
theorem gX0_linesToTakeBack_X0_stateByLines : GoodIn wsX0_linesToTakeBack (wsV RX0 184 RX0 yX0_stateByLines wsX0_stateByLines) := goodIn_app (goodIn_of _ (by decide +kernel)) ggX0_linesToTakeBack_X0_stateByLines
set_option maxRecDepth 20000 in
theorem ggX0_linesToTakeBack_X0_changesNotTakenBack : GoodIn wsX0_linesToTakeBack wsX0_changesNotTakenBack := goodIn_r _ [22, 23, 24, 25, 6, 26, 8, 9, 27, 10, 11, 12, 13, 14, 15, 28, 29, 30, 31, 32, 33, 34, 35, 36, 37, 38, 39, 40, 41, 42] (by decide +kernel) (by decide +kernel)
set_option maxRecDepth 20000 in
theorem gX0_linesToTakeBack_X0_changesNotTakenBack : GoodIn wsX0_linesToTakeBack (wsV RX0 204 RX0 yX0_changesNotTakenBack wsX0_changesNotTakenBack) := goodIn_app (goodIn_of _ (by decide +kernel)) ggX0_linesToTakeBack_X0_changesNotTakenBack
theorem dX0_linesToTakeBack_0 : decode cX0_linesToTakeBack 0 = .ok (.iconst 0, 1) := by decide +kernel
theorem dX0_linesToTakeBack_1 : decode cX0_linesToTakeBack 1 = .ok (.istore_n 1, 1) := by decide +kernel
theorem dX0_linesToTakeBack_2 : decode cX0_linesToTakeBack 2 = .ok (.iconst 0, 1) := by decide +kernel
theorem dX0_linesToTakeBack_3 : decode cX0_linesToTakeBack 3 = .ok (.istore_n 2, 1) := by decide +kernel
theorem dX0_linesToTakeBack_4 : decode cX0_linesToTakeBack 4 = .ok (.iload_n 2, 1) := by decide +kernel
theorem dX0_linesToTakeBack_5 : decode cX0_linesToTakeBack 5 = .ok (.aload_n 0, 1) := by decide +kernel
theorem dX0_linesToTakeBack_6 : decode cX0_linesToTakeBack 6 = .ok (.getfield 49, 3) := by decide +kernel
theorem dX0_linesToTakeBack_9 : decode cX0_linesToTakeBack 9 = .ok (.if_icmp .ge 33, 3) := by decide +kernel
theorem dX0_linesToTakeBack_12 : decode cX0_linesToTakeBack 12 = .ok (.aload_n 0, 1) := by decide +kernel
theorem dX0_linesToTakeBack_13 : decode cX0_linesToTakeBack 13 = .ok (.iload_n 2, 1) := by decide +kernel
theorem dX0_linesToTakeBack_14 : decode cX0_linesToTakeBack 14 = .ok (.aload_n 0, 1) := by decide +kernel
theorem dX0_linesToTakeBack_15 : decode cX0_linesToTakeBack 15 = .ok (.getfield 166, 3) := by decide +kernel
theorem dX0_linesToTakeBack_18 : decode cX0_linesToTakeBack 18 = .ok (.invokevirtual 184, 3) := by decide +kernel
theorem dX0_linesToTakeBack_21 : decode cX0_linesToTakeBack 21 = .ok (.ifCond .ne 15, 3) := by decide +kernel
theorem dX0_linesToTakeBack_24 : decode cX0_linesToTakeBack 24 = .ok (.iload_n 1, 1) := by decide +kernel
theorem dX0_linesToTakeBack_25 : decode cX0_linesToTakeBack 25 = .ok (.aload_n 0, 1) := by decide +kernel
theorem dX0_linesToTakeBack_26 : decode cX0_linesToTakeBack 26 = .ok (.iload_n 2, 1) := by decide +kernel
theorem dX0_linesToTakeBack_27 : decode cX0_linesToTakeBack 27 = .ok (.aload_n 0, 1) := by decide +kernel
theorem dX0_linesToTakeBack_28 : decode cX0_linesToTakeBack 28 = .ok (.getfield 166, 3) := by decide +kernel
theorem dX0_linesToTakeBack_31 : decode cX0_linesToTakeBack 31 = .ok (.invokevirtual 204, 3) := by decide +kernel
theorem dX0_linesToTakeBack_34 : decode cX0_linesToTakeBack 34 = .ok (.iadd, 1) := by decide +kernel
theorem dX0_linesToTakeBack_35 : decode cX0_linesToTakeBack 35 = .ok (.istore_n 1, 1) := by decide +kernel
theorem dX0_linesToTakeBack_36 : decode cX0_linesToTakeBack 36 = .ok (.iinc 2 1, 3) := by decide +kernel
theorem dX0_linesToTakeBack_39 : decode cX0_linesToTakeBack 39 = .ok (.goto (-35), 3) := by decide +kernel
theorem dX0_linesToTakeBack_42 : decode cX0_linesToTakeBack 42 = .ok (.iload_n 1, 1) := by decide +kernel
theorem dX0_linesToTakeBack_43 : decode cX0_linesToTakeBack 43 = .ok (.ireturn, 1) := by decide +kernel
set_option maxRecDepth 20000 in
theorem ggX0_dishesToForget_X0_at : GoodIn wsX0_dishesToForget wsX0_at := goodIn_r _ [7, 8, 9, 6, 10] (by decide +kernel) (by decide +kernel)
set_option maxRecDepth 20000 in
theorem gX0_dishesToForget_X0_at : GoodIn wsX0_dishesToForget (va_wsS RX0 102 yX0_at wsX0_at) := goodIn_app (goodIn_of _ (by decide +kernel)) ggX0_dishesToForget_X0_at
set_option maxRecDepth 20000 in
theorem ggX0_dishesToForget_X0_stateByLines : GoodIn wsX0_dishesToForget wsX0_stateByLines := goodIn_r _ [14, 15, 16, 4, 5, 6, 7, 8, 9, 10, 17, 18, 19, 20, 21, 22, 23, 24, 25, 26, 27, 28, 29, 30, 31, 32, 33, 34] (by decide +kernel) (by decide +kernel)
set_option maxRecDepth 20000 in
theorem gX0_dishesToForget_X0_stateByLines : GoodIn wsX0_dishesToForget (wsV RX0 184 RX0 yX0_stateByLines wsX0_stateByLines) := goodIn_app (goodIn_of _ (by decide +kernel)) ggX0_dishesToForget_X0_stateByLines
theorem dX0_dishesToForget_0 : decode cX0_dishesToForget 0 = .ok (.iconst 0, 1) := by decide +kernel
theorem dX0_dishesToForget_1 : decode cX0_dishesToForget 1 = .ok (.istore_n 1, 1) := by decide +kernel
theorem dX0_dishesToForget_2 : decode cX0_dishesToForget 2 = .ok (.iconst 0, 1) := by decide +kernel
theorem dX0_dishesToForget_3 : decode cX0_dishesToForget 3 = .ok (.istore_n 2, 1) := by decide +kernel
theorem dX0_dishesToForget_4 : decode cX0_dishesToForget 4 = .ok (.iload_n 2, 1) := by decide +kernel
theorem dX0_dishesToForget_5 : decode cX0_dishesToForget 5 = .ok (.aload_n 0, 1) := by decide +kernel
theorem dX0_dishesToForget_6 : decode cX0_dishesToForget 6 = .ok (.getfield 49, 3) := by decide +kernel
theorem dX0_dishesToForget_9 : decode cX0_dishesToForget 9 = .ok (.if_icmp .ge 47, 3) := by decide +kernel
theorem dX0_dishesToForget_12 : decode cX0_dishesToForget 12 = .ok (.aload_n 0, 1) := by decide +kernel
theorem dX0_dishesToForget_13 : decode cX0_dishesToForget 13 = .ok (.getfield 19, 3) := by decide +kernel
theorem dX0_dishesToForget_16 : decode cX0_dishesToForget 16 = .ok (.iload_n 2, 1) := by decide +kernel
theorem dX0_dishesToForget_17 : decode cX0_dishesToForget 17 = .ok (.invokestatic 102, 3) := by decide +kernel
theorem dX0_dishesToForget_20 : decode cX0_dishesToForget 20 = .ok (.iconst 3, 1) := by decide +kernel
theorem dX0_dishesToForget_21 : decode cX0_dishesToForget 21 = .ok (.if_icmp .ne 7, 3) := by decide +kernel
theorem dX0_dishesToForget_24 : decode cX0_dishesToForget 24 = .ok (.iconst 1, 1) := by decide +kernel
theorem dX0_dishesToForget_25 : decode cX0_dishesToForget 25 = .ok (.goto 4, 3) := by decide +kernel
theorem dX0_dishesToForget_28 : decode cX0_dishesToForget 28 = .ok (.iconst 0, 1) := by decide +kernel
theorem dX0_dishesToForget_29 : decode cX0_dishesToForget 29 = .ok (.istore_n 3, 1) := by decide +kernel
theorem dX0_dishesToForget_30 : decode cX0_dishesToForget 30 = .ok (.iload_n 3, 1) := by decide +kernel
theorem dX0_dishesToForget_31 : decode cX0_dishesToForget 31 = .ok (.ifCond .ne 19, 3) := by decide +kernel
theorem dX0_dishesToForget_34 : decode cX0_dishesToForget 34 = .ok (.aload_n 0, 1) := by decide +kernel
theorem dX0_dishesToForget_35 : decode cX0_dishesToForget 35 = .ok (.iload_n 2, 1) := by decide +kernel
theorem dX0_dishesToForget_36 : decode cX0_dishesToForget 36 = .ok (.aload_n 0, 1) := by decide +kernel
theorem dX0_dishesToForget_37 : decode cX0_dishesToForget 37 = .ok (.getfield 166, 3) := by decide +kernel
theorem dX0_dishesToForget_40 : decode cX0_dishesToForget 40 = .ok (.invokevirtual 184, 3) := by decide +kernel
theorem dX0_dishesToForget_43 : decode cX0_dishesToForget 43 = .ok (.iconst 3, 1) := by decide +kernel
theorem dX0_dishesToForget_44 : decode cX0_dishesToForget 44 = .ok (.if_icmp .ne 6, 3) := by decide +kernel
theorem dX0_dishesToForget_47 : decode cX0_dishesToForget 47 = .ok (.iinc 1 1, 3) := by decide +kernel
theorem dX0_dishesToForget_50 : decode cX0_dishesToForget 50 = .ok (.iinc 2 1, 3) := by decide +kernel
theorem dX0_dishesToForget_53 : decode cX0_dishesToForget 53 = .ok (.goto (-49), 3) := by decide +kernel
theorem dX0_dishesToForget_56 : decode cX0_dishesToForget 56 = .ok (.iload_n 1, 1) := by decide +kernel
theorem dX0_dishesToForget_57 : decode cX0_dishesToForget 57 = .ok (.ireturn, 1) := by decide +kernel
set_option maxRecDepth 20000 in
theorem ggX0_spoonsAfterUndoing_X0_at : GoodIn wsX0_spoonsAfterUndoing wsX0_at := goodIn_r _ [7, 8, 9, 6, 10] (by decide +kernel) (by decide +kernel)
set_option maxRecDepth 20000 in
theorem gX0_spoonsAfterUndoing_X0_at : GoodIn wsX0_spoonsAfterUndoing (va_wsS RX0 102 yX0_at wsX0_at) := goodIn_app (goodIn_of _ (by decide +kernel)) ggX0_spoonsAfterUndoing_X0_at
set_option maxRecDepth 20000 in
theorem ggX0_spoonsAfterUndoing_X0_isChangeNotTakenBack : GoodIn wsX0_spoonsAfterUndoing wsX0_isChangeNotTakenBack := goodIn_r _ [14, 15, 16, 17, 4, 5, 6, 7, 8, 9, 10, 18, 19, 20, 21, 22, 23, 24, 25, 26, 27, 28, 29, 30, 31, 32] (by decide +kernel) (by decide +kernel)
set_option maxRecDepth 20000 in
theorem gX0_spoonsAfterUndoing_X0_isChangeNotTakenBack : GoodIn wsX0_spoonsAfterUndoing (wsV RX0 219 RX0 yX0_isChangeNotTakenBack wsX0_isChangeNotTakenBack) := goodIn_app (goodIn_of _ (by decide +kernel)) ggX0_spoonsAfterUndoing_X0_isChangeNotTakenBack
theorem dX0_spoonsAfterUndoing_0 : decode cX0_spoonsAfterUndoing 0 = .ok (.iload_n 3, 1) := by decide +kernel
theorem dX0_spoonsAfterUndoing_1 : decode cX0_spoonsAfterUndoing 1 = .ok (.istore 4, 2) := by decide +kernel
theorem dX0_spoonsAfterUndoing_3 : decode cX0_spoonsAfterUndoing 3 = .ok (.aload_n 0, 1) := by decide +kernel
theorem dX0_spoonsAfterUndoing_4 : decode cX0_spoonsAfterUndoing 4 = .ok (.getfield 166, 3) := by decide +kernel
theorem dX0_spoonsAfterUndoing_7 : decode cX0_spoonsAfterUndoing 7 = .ok (.iconst 1, 1) := by decide +kernel
theorem dX0_spoonsAfterUndoing_8 : decode cX0_spoonsAfterUndoing 8 = .ok (.isub, 1) := by decide +kernel
theorem dX0_spoonsAfterUndoing_9 : decode cX0_spoonsAfterUndoing 9 = .ok (.istore 5, 2) := by decide +kernel
theorem dX0_spoonsAfterUndoing_11 : decode cX0_spoonsAfterUndoing 11 = .ok (.iload 5, 2) := by decide +kernel
theorem dX0_spoonsAfterUndoing_13 : decode cX0_spoonsAfterUndoing 13 = .ok (.ifCond .lt 47, 3) := by decide +kernel
theorem dX0_spoonsAfterUndoing_16 : decode cX0_spoonsAfterUndoing 16 = .ok (.aload_n 0, 1) := by decide +kernel
theorem dX0_spoonsAfterUndoing_17 : decode cX0_spoonsAfterUndoing 17 = .ok (.getfield 28, 3) := by decide +kernel
theorem dX0_spoonsAfterUndoing_20 : decode cX0_spoonsAfterUndoing 20 = .ok (.iload 5, 2) := by decide +kernel
theorem dX0_spoonsAfterUndoing_22 : decode cX0_spoonsAfterUndoing 22 = .ok (.invokestatic 102, 3) := by decide +kernel
theorem dX0_spoonsAfterUndoing_25 : decode cX0_spoonsAfterUndoing 25 = .ok (.iload_n 2, 1) := by decide +kernel
theorem dX0_spoonsAfterUndoing_26 : decode cX0_spoonsAfterUndoing 26 = .ok (.if_icmp .ne 28, 3) := by decide +kernel
theorem dX0_spoonsAfterUndoing_29 : decode cX0_spoonsAfterUndoing 29 = .ok (.aload_n 0, 1) := by decide +kernel
theorem dX0_spoonsAfterUndoing_30 : decode cX0_spoonsAfterUndoing 30 = .ok (.iload 5, 2) := by decide +kernel
theorem dX0_spoonsAfterUndoing_32 : decode cX0_spoonsAfterUndoing 32 = .ok (.iload_n 1, 1) := by decide +kernel
theorem dX0_spoonsAfterUndoing_33 : decode cX0_spoonsAfterUndoing 33 = .ok (.aload_n 0, 1) := by decide +kernel
theorem dX0_spoonsAfterUndoing_34 : decode cX0_spoonsAfterUndoing 34 = .ok (.getfield 166, 3) := by decide +kernel
theorem dX0_spoonsAfterUndoing_37 : decode cX0_spoonsAfterUndoing 37 = .ok (.invokevirtual 219, 3) := by decide +kernel
theorem dX0_spoonsAfterUndoing_40 : decode cX0_spoonsAfterUndoing 40 = .ok (.ifCond .eq 14, 3) := by decide +kernel
theorem dX0_spoonsAfterUndoing_43 : decode cX0_spoonsAfterUndoing 43 = .ok (.aload_n 0, 1) := by decide +kernel
theorem dX0_spoonsAfterUndoing_44 : decode cX0_spoonsAfterUndoing 44 = .ok (.getfield 31, 3) := by decide +kernel
theorem dX0_spoonsAfterUndoing_47 : decode cX0_spoonsAfterUndoing 47 = .ok (.iload 5, 2) := by decide +kernel
theorem dX0_spoonsAfterUndoing_49 : decode cX0_spoonsAfterUndoing 49 = .ok (.invokestatic 102, 3) := by decide +kernel
theorem dX0_spoonsAfterUndoing_52 : decode cX0_spoonsAfterUndoing 52 = .ok (.istore 4, 2) := by decide +kernel
theorem dX0_spoonsAfterUndoing_54 : decode cX0_spoonsAfterUndoing 54 = .ok (.iinc 5 (-1), 3) := by decide +kernel
theorem dX0_spoonsAfterUndoing_57 : decode cX0_spoonsAfterUndoing 57 = .ok (.goto (-46), 3) := by decide +kernel
theorem dX0_spoonsAfterUndoing_60 : decode cX0_spoonsAfterUndoing 60 = .ok (.iload 4, 2) := by decide +kernel
theorem dX0_spoonsAfterUndoing_62 : decode cX0_spoonsAfterUndoing 62 = .ok (.ireturn, 1) := by decide +kernel
theorem dX1_init_0 : decode cX1_init 0 = .ok (.aload_n 0, 1) := by decide +kernel
theorem dX1_init_1 : decode cX1_init 1 = .ok (.aload_n 1, 1) := by decide +kernel
theorem dX1_init_2 : decode cX1_init 2 = .ok (.putfield 3, 3) := by decide +kernel
theorem dX1_init_5 : decode cX1_init 5 = .ok (.aload_n 0, 1) := by decide +kernel
theorem dX1_init_6 : decode cX1_init 6 = .ok (.invokespecial 9, 3) := by decide +kernel
theorem dX1_init_9 : decode cX1_init 9 = .ok (.aload_n 0, 1) := by decide +kernel
theorem dX1_init_10 : decode cX1_init 10 = .ok (.bipush 8, 2) := by decide +kernel
theorem dX1_init_12 : decode cX1_init 12 = .ok (.newarray .int, 2) := by decide +kernel
theorem dX1_init_14 : decode cX1_init 14 = .ok (.putfield 15, 3) := by decide +kernel
theorem dX1_init_17 : decode cX1_init 17 = .ok (.aload_n 0, 1) := by decide +kernel
theorem dX1_init_18 : decode cX1_init 18 = .ok (.bipush 8, 2) := by decide +kernel
theorem dX1_init_20 : decode cX1_init 20 = .ok (.newarray .int, 2) := by decide +kernel
theorem dX1_init_22 : decode cX1_init 22 = .ok (.putfield 19, 3) := by decide +kernel
theorem dX1_init_25 : decode cX1_init 25 = .ok (.aload_n 0, 1) := by decide +kernel
theorem dX1_init_26 : decode cX1_init 26 = .ok (.bipush 8, 2) := by decide +kernel
theorem dX1_init_28 : decode cX1_init 28 = .ok (.newarray .int, 2) := by decide +kernel
theorem dX1_init_30 : decode cX1_init 30 = .ok (.putfield 22, 3) := by decide +kernel
theorem dX1_init_33 : decode cX1_init 33 = .ok (.aload_n 0, 1) := by decide +kernel
theorem dX1_init_34 : decode cX1_init 34 = .ok (.bipush 120, 2) := by decide +kernel
theorem dX1_init_36 : decode cX1_init 36 = .ok (.newarray .int, 2) := by decide +kernel
theorem dX1_init_38 : decode cX1_init 38 = .ok (.putfield 25, 3) := by decide +kernel
theorem dX1_init_41 : decode cX1_init 41 = .ok (.aload_n 0, 1) := by decide +kernel
theorem dX1_init_42 : decode cX1_init 42 = .ok (.bipush 120, 2) := by decide +kernel
theorem dX1_init_44 : decode cX1_init 44 = .ok (.newarray .int, 2) := by decide +kernel
theorem dX1_init_46 : decode cX1_init 46 = .ok (.putfield 28, 3) := by decide +kernel
theorem dX1_init_49 : decode cX1_init 49 = .ok (.aload_n 0, 1) := by decide +kernel
theorem dX1_init_50 : decode cX1_init 50 = .ok (.bipush 120, 2) := by decide +kernel
theorem dX1_init_52 : decode cX1_init 52 = .ok (.newarray .int, 2) := by decide +kernel
theorem dX1_init_54 : decode cX1_init 54 = .ok (.putfield 31, 3) := by decide +kernel
theorem dX1_init_57 : decode cX1_init 57 = .ok (.aload_n 0, 1) := by decide +kernel
theorem dX1_init_58 : decode cX1_init 58 = .ok (.bipush 120, 2) := by decide +kernel
theorem dX1_init_60 : decode cX1_init 60 = .ok (.newarray .int, 2) := by decide +kernel
theorem dX1_init_62 : decode cX1_init 62 = .ok (.putfield 34, 3) := by decide +kernel
theorem dX1_init_65 : decode cX1_init 65 = .ok (.aload_n 0, 1) := by decide +kernel
theorem dX1_init_66 : decode cX1_init 66 = .ok (.bipush 120, 2) := by decide +kernel
theorem dX1_init_68 : decode cX1_init 68 = .ok (.newarray .int, 2) := by decide +kernel
theorem dX1_init_70 : decode cX1_init 70 = .ok (.putfield 37, 3) := by decide +kernel
theorem dX1_init_73 : decode cX1_init 73 = .ok (.aload_n 0, 1) := by decide +kernel
theorem dX1_init_74 : decode cX1_init 74 = .ok (.bipush 120, 2) := by decide +kernel
theorem dX1_init_76 : decode cX1_init 76 = .ok (.newarray .int, 2) := by decide +kernel
theorem dX1_init_78 : decode cX1_init 78 = .ok (.putfield 40, 3) := by decide +kernel
theorem dX1_init_81 : decode cX1_init 81 = .ok (.iconst 0, 1) := by decide +kernel
theorem dX1_init_82 : decode cX1_init 82 = .ok (.istore_n 2, 1) := by decide +kernel
theorem dX1_init_83 : decode cX1_init 83 = .ok (.iload_n 2, 1) := by decide +kernel
theorem dX1_init_84 : decode cX1_init 84 = .ok (.bipush 8, 2) := by decide +kernel
theorem dX1_init_86 : decode cX1_init 86 = .ok (.if_icmp .ge 16, 3) := by decide +kernel
theorem dX1_init_89 : decode cX1_init 89 = .ok (.aload_n 0, 1) := by decide +kernel
theorem dX1_init_90 : decode cX1_init 90 = .ok (.getfield 22, 3) := by decide +kernel
theorem dX1_init_93 : decode cX1_init 93 = .ok (.iload_n 2, 1) := by decide +kernel
theorem dX1_init_94 : decode cX1_init 94 = .ok (.iconst (-1), 1) := by decide +kernel
theorem dX1_init_95 : decode cX1_init 95 = .ok (.iastore, 1) := by decide +kernel
theorem dX1_init_96 : decode cX1_init 96 = .ok (.iinc 2 1, 3) := by decide +kernel
theorem dX1_init_99 : decode cX1_init 99 = .ok (.goto (-16), 3) := by decide +kernel
theorem dX1_init_102 : decode cX1_init 102 = .ok (.return_, 1) := by decide +kernel
theorem dX1_copy_0 : decode cX1_copy 0 = .ok (.aload_n 1, 1) := by decide +kernel
theorem dX1_copy_1 : decode cX1_copy 1 = .ok (.iconst 0, 1) := by decide +kernel
theorem dX1_copy_2 : decode cX1_copy 2 = .ok (.aload_n 2, 1) := by decide +kernel
theorem dX1_copy_3 : decode cX1_copy 3 = .ok (.iconst 0, 1) := by decide +kernel
theorem dX1_copy_4 : decode cX1_copy 4 = .ok (.aload_n 1, 1) := by decide +kernel
theorem dX1_copy_5 : decode cX1_copy 5 = .ok (.arraylength, 1) := by decide +kernel
theorem dX1_copy_6 : decode cX1_copy 6 = .ok (.invokestatic 43, 3) := by decide +kernel
theorem dX1_copy_9 : decode cX1_copy 9 = .ok (.return_, 1) := by decide +kernel
set_option maxRecDepth 20000 in
theorem ggX1_become_X1_copy : GoodIn wsX1_become wsX1_copy := goodIn_r _ [16, 17, 18, 19, 20] (by decide +kernel) (by decide +kernel)
set_option maxRecDepth 20000 in
theorem gX1_become_X1_copy : GoodIn wsX1_become (wsV RX1 56 RX1 yX1_copy wsX1_copy) := goodIn_app (goodIn_of _ (by decide +kernel)) ggX1_become_X1_copy
theorem dX1_become_0 : decode cX1_become 0 = .ok (.aload_n 0, 1) := by decide +kernel
theorem dX1_become_1 : decode cX1_become 1 = .ok (.aload_n 1, 1) := by decide +kernel
theorem dX1_become_2 : decode cX1_become 2 = .ok (.getfield 49, 3) := by decide +kernel
theorem dX1_become_5 : decode cX1_become 5 = .ok (.putfield 49, 3) := by decide +kernel
theorem dX1_become_8 : decode cX1_become 8 = .ok (.aload_n 0, 1) := by decide +kernel
theorem dX1_become_9 : decode cX1_become 9 = .ok (.aload_n 1, 1) := by decide +kernel
theorem dX1_become_10 : decode cX1_become 10 = .ok (.getfield 53, 3) := by decide +kernel
theorem dX1_become_13 : decode cX1_become 13 = .ok (.putfield 53, 3) := by decide +kernel
theorem dX1_become_16 : decode cX1_become 16 = .ok (.aload_n 0, 1) := by decide +kernel
theorem dX1_become_17 : decode cX1_become 17 = .ok (.aload_n 1, 1) := by decide +kernel
theorem dX1_become_18 : decode cX1_become 18 = .ok (.getfield 15, 3) := by decide +kernel
theorem dX1_become_21 : decode cX1_become 21 = .ok (.aload_n 0, 1) := by decide +kernel
theorem dX1_become_22 : decode cX1_become 22 = .ok (.getfield 15, 3) := by decide +kernel
theorem dX1_become_25 : decode cX1_become 25 = .ok (.invokevirtual 56, 3) := by decide +kernel
theorem dX1_become_28 : decode cX1_become 28 = .ok (.aload_n 0, 1) := by decide +kernel
theorem dX1_become_29 : decode cX1_become 29 = .ok (.aload_n 1, 1) := by decide +kernel
theorem dX1_become_30 : decode cX1_become 30 = .ok (.getfield 19, 3) := by decide +kernel
theorem dX1_become_33 : decode cX1_become 33 = .ok (.aload_n 0, 1) := by decide +kernel
theorem dX1_become_34 : decode cX1_become 34 = .ok (.getfield 19, 3) := by decide +kernel
theorem dX1_become_37 : decode cX1_become 37 = .ok (.invokevirtual 56, 3) := by decide +kernel
theorem dX1_become_40 : decode cX1_become 40 = .ok (.aload_n 0, 1) := by decide +kernel
theorem dX1_become_41 : decode cX1_become 41 = .ok (.aload_n 1, 1) := by decide +kernel
theorem dX1_become_42 : decode cX1_become 42 = .ok (.getfield 22, 3) := by decide +kernel
theorem dX1_become_45 : decode cX1_become 45 = .ok (.aload_n 0, 1) := by decide +kernel
theorem dX1_become_46 : decode cX1_become 46 = .ok (.getfield 22, 3) := by decide +kernel
theorem dX1_become_49 : decode cX1_become 49 = .ok (.invokevirtual 56, 3) := by decide +kernel
theorem dX1_become_52 : decode cX1_become 52 = .ok (.aload_n 0, 1) := by decide +kernel
theorem dX1_become_53 : decode cX1_become 53 = .ok (.aload_n 1, 1) := by decide +kernel
theorem dX1_become_54 : decode cX1_become 54 = .ok (.getfield 25, 3) := by decide +kernel
theorem dX1_become_57 : decode cX1_become 57 = .ok (.aload_n 0, 1) := by decide +kernel
theorem dX1_become_58 : decode cX1_become 58 = .ok (.getfield 25, 3) := by decide +kernel
theorem dX1_become_61 : decode cX1_become 61 = .ok (.invokevirtual 56, 3) := by decide +kernel
theorem dX1_become_64 : decode cX1_become 64 = .ok (.aload_n 0, 1) := by decide +kernel
theorem dX1_become_65 : decode cX1_become 65 = .ok (.aload_n 1, 1) := by decide +kernel
theorem dX1_become_66 : decode cX1_become 66 = .ok (.getfield 28, 3) := by decide +kernel
theorem dX1_become_69 : decode cX1_become 69 = .ok (.aload_n 0, 1) := by decide +kernel
theorem dX1_become_70 : decode cX1_become 70 = .ok (.getfield 28, 3) := by decide +kernel
theorem dX1_become_73 : decode cX1_become 73 = .ok (.invokevirtual 56, 3) := by decide +kernel
theorem dX1_become_76 : decode cX1_become 76 = .ok (.aload_n 0, 1) := by decide +kernel
theorem dX1_become_77 : decode cX1_become 77 = .ok (.aload_n 1, 1) := by decide +kernel
theorem dX1_become_78 : decode cX1_become 78 = .ok (.getfield 31, 3) := by decide +kernel
theorem dX1_become_81 : decode cX1_become 81 = .ok (.aload_n 0, 1) := by decide +kernel
theorem dX1_become_82 : decode cX1_become 82 = .ok (.getfield 31, 3) := by decide +kernel
theorem dX1_become_85 : decode cX1_become 85 = .ok (.invokevirtual 56, 3) := by decide +kernel
theorem dX1_become_88 : decode cX1_become 88 = .ok (.aload_n 0, 1) := by decide +kernel
theorem dX1_become_89 : decode cX1_become 89 = .ok (.aload_n 1, 1) := by decide +kernel
theorem dX1_become_90 : decode cX1_become 90 = .ok (.getfield 34, 3) := by decide +kernel
theorem dX1_become_93 : decode cX1_become 93 = .ok (.aload_n 0, 1) := by decide +kernel
theorem dX1_become_94 : decode cX1_become 94 = .ok (.getfield 34, 3) := by decide +kernel
theorem dX1_become_97 : decode cX1_become 97 = .ok (.invokevirtual 56, 3) := by decide +kernel
theorem dX1_become_100 : decode cX1_become 100 = .ok (.aload_n 0, 1) := by decide +kernel
theorem dX1_become_101 : decode cX1_become 101 = .ok (.aload_n 1, 1) := by decide +kernel
theorem dX1_become_102 : decode cX1_become 102 = .ok (.getfield 37, 3) := by decide +kernel
theorem dX1_become_105 : decode cX1_become 105 = .ok (.aload_n 0, 1) := by decide +kernel
theorem dX1_become_106 : decode cX1_become 106 = .ok (.getfield 37, 3) := by decide +kernel
theorem dX1_become_109 : decode cX1_become 109 = .ok (.invokevirtual 56, 3) := by decide +kernel
theorem dX1_become_112 : decode cX1_become 112 = .ok (.aload_n 0, 1) := by decide +kernel
theorem dX1_become_113 : decode cX1_become 113 = .ok (.aload_n 1, 1) := by decide +kernel
theorem dX1_become_114 : decode cX1_become 114 = .ok (.getfield 40, 3) := by decide +kernel
theorem dX1_become_117 : decode cX1_become 117 = .ok (.aload_n 0, 1) := by decide +kernel
theorem dX1_become_118 : decode cX1_become 118 = .ok (.getfield 40, 3) := by decide +kernel
theorem dX1_become_121 : decode cX1_become 121 = .ok (.invokevirtual 56, 3) := by decide +kernel
theorem dX1_become_124 : decode cX1_become 124 = .ok (.return_, 1) := by decide +kernel
theorem dX1_is_0 : decode cX1_is 0 = .ok (.iconst 3, 1) := by decide +kernel
theorem dX1_is_1 : decode cX1_is 1 = .ok (.istore_n 2, 1) := by decide +kernel
theorem dX1_is_2 : decode cX1_is 2 = .ok (.iconst 0, 1) := by decide +kernel
theorem dX1_is_3 : decode cX1_is 3 = .ok (.istore_n 3, 1) := by decide +kernel
theorem dX1_is_4 : decode cX1_is 4 = .ok (.iload_n 3, 1) := by decide +kernel
theorem dX1_is_5 : decode cX1_is 5 = .ok (.aload_n 0, 1) := by decide +kernel
theorem dX1_is_6 : decode cX1_is 6 = .ok (.getfield 49, 3) := by decide +kernel
theorem dX1_is_9 : decode cX1_is 9 = .ok (.if_icmp .ge 57, 3) := by decide +kernel
theorem dX1_is_12 : decode cX1_is 12 = .ok (.aload_n 0, 1) := by decide +kernel
theorem dX1_is_13 : decode cX1_is 13 = .ok (.getfield 25, 3) := by decide +kernel
theorem dX1_is_16 : decode cX1_is 16 = .ok (.iload_n 3, 1) := by decide +kernel
theorem dX1_is_17 : decode cX1_is 17 = .ok (.iaload, 1) := by decide +kernel
theorem dX1_is_18 : decode cX1_is 18 = .ok (.iload_n 1, 1) := by decide +kernel
theorem dX1_is_19 : decode cX1_is 19 = .ok (.if_icmp .eq 6, 3) := by decide +kernel
theorem dX1_is_22 : decode cX1_is 22 = .ok (.goto 38, 3) := by decide +kernel
theorem dX1_is_25 : decode cX1_is 25 = .ok (.aload_n 0, 1) := by decide +kernel
theorem dX1_is_26 : decode cX1_is 26 = .ok (.getfield 28, 3) := by decide +kernel
theorem dX1_is_29 : decode cX1_is 29 = .ok (.iload_n 3, 1) := by decide +kernel
theorem dX1_is_30 : decode cX1_is 30 = .ok (.iaload, 1) := by decide +kernel
theorem dX1_is_31 : decode cX1_is 31 = .ok (.ifCond .ne 5, 3) := by decide +kernel
theorem dX1_is_34 : decode cX1_is 34 = .ok (.iconst 0, 1) := by decide +kernel
theorem dX1_is_35 : decode cX1_is 35 = .ok (.istore_n 2, 1) := by decide +kernel
theorem dX1_is_36 : decode cX1_is 36 = .ok (.aload_n 0, 1) := by decide +kernel
theorem dX1_is_37 : decode cX1_is 37 = .ok (.getfield 28, 3) := by decide +kernel
theorem dX1_is_40 : decode cX1_is 40 = .ok (.iload_n 3, 1) := by decide +kernel
theorem dX1_is_41 : decode cX1_is 41 = .ok (.iaload, 1) := by decide +kernel
theorem dX1_is_42 : decode cX1_is 42 = .ok (.iconst 2, 1) := by decide +kernel
theorem dX1_is_43 : decode cX1_is 43 = .ok (.if_icmp .ne 5, 3) := by decide +kernel
theorem dX1_is_46 : decode cX1_is 46 = .ok (.iconst 1, 1) := by decide +kernel
theorem dX1_is_47 : decode cX1_is 47 = .ok (.istore_n 2, 1) := by decide +kernel
theorem dX1_is_48 : decode cX1_is 48 = .ok (.aload_n 0, 1) := by decide +kernel
theorem dX1_is_49 : decode cX1_is 49 = .ok (.getfield 28, 3) := by decide +kernel
theorem dX1_is_52 : decode cX1_is 52 = .ok (.iload_n 3, 1) := by decide +kernel
theorem dX1_is_53 : decode cX1_is 53 = .ok (.iaload, 1) := by decide +kernel
theorem dX1_is_54 : decode cX1_is 54 = .ok (.iconst 4, 1) := by decide +kernel
theorem dX1_is_55 : decode cX1_is 55 = .ok (.if_icmp .ne 5, 3) := by decide +kernel
theorem dX1_is_58 : decode cX1_is 58 = .ok (.iconst 2, 1) := by decide +kernel
theorem dX1_is_59 : decode cX1_is 59 = .ok (.istore_n 2, 1) := by decide +kernel
theorem dX1_is_60 : decode cX1_is 60 = .ok (.iinc 3 1, 3) := by decide +kernel
theorem dX1_is_63 : decode cX1_is 63 = .ok (.goto (-59), 3) := by decide +kernel
theorem dX1_is_66 : decode cX1_is 66 = .ok (.iload_n 2, 1) := by decide +kernel
theorem dX1_is_67 : decode cX1_is 67 = .ok (.ireturn, 1) := by decide +kernel
theorem dX1_isTakenBack_0 : decode cX1_isTakenBack 0 = .ok (.iload_n 1, 1) := by decide +kernel
theorem dX1_isTakenBack_1 : decode cX1_isTakenBack 1 = .ok (.iconst 1, 1) := by decide +kernel
theorem dX1_isTakenBack_2 : decode cX1_isTakenBack 2 = .ok (.iadd, 1) := by decide +kernel
theorem dX1_isTakenBack_3 : decode cX1_isTakenBack 3 = .ok (.istore_n 2, 1) := by decide +kernel
theorem dX1_isTakenBack_4 : decode cX1_isTakenBack 4 = .ok (.iload_n 2, 1) := by decide +kernel
theorem dX1_isTakenBack_5 : decode cX1_isTakenBack 5 = .ok (.aload_n 0, 1) := by decide +kernel
theorem dX1_isTakenBack_6 : decode cX1_isTakenBack 6 = .ok (.getfield 49, 3) := by decide +kernel
theorem dX1_isTakenBack_9 : decode cX1_isTakenBack 9 = .ok (.if_icmp .ge 31, 3) := by decide +kernel
theorem dX1_isTakenBack_12 : decode cX1_isTakenBack 12 = .ok (.aload_n 0, 1) := by decide +kernel
theorem dX1_isTakenBack_13 : decode cX1_isTakenBack 13 = .ok (.getfield 28, 3) := by decide +kernel
theorem dX1_isTakenBack_16 : decode cX1_isTakenBack 16 = .ok (.iload_n 2, 1) := by decide +kernel
theorem dX1_isTakenBack_17 : decode cX1_isTakenBack 17 = .ok (.iaload, 1) := by decide +kernel
theorem dX1_isTakenBack_18 : decode cX1_isTakenBack 18 = .ok (.iconst 3, 1) := by decide +kernel
theorem dX1_isTakenBack_19 : decode cX1_isTakenBack 19 = .ok (.if_icmp .ne 15, 3) := by decide +kernel
theorem dX1_isTakenBack_22 : decode cX1_isTakenBack 22 = .ok (.aload_n 0, 1) := by decide +kernel
theorem dX1_isTakenBack_23 : decode cX1_isTakenBack 23 = .ok (.getfield 40, 3) := by decide +kernel
theorem dX1_isTakenBack_26 : decode cX1_isTakenBack 26 = .ok (.iload_n 2, 1) := by decide +kernel
theorem dX1_isTakenBack_27 : decode cX1_isTakenBack 27 = .ok (.iaload, 1) := by decide +kernel
theorem dX1_isTakenBack_28 : decode cX1_isTakenBack 28 = .ok (.iload_n 1, 1) := by decide +kernel
theorem dX1_isTakenBack_29 : decode cX1_isTakenBack 29 = .ok (.if_icmp .ne 5, 3) := by decide +kernel
theorem dX1_isTakenBack_32 : decode cX1_isTakenBack 32 = .ok (.iconst 1, 1) := by decide +kernel
theorem dX1_isTakenBack_33 : decode cX1_isTakenBack 33 = .ok (.ireturn, 1) := by decide +kernel
theorem dX1_isTakenBack_34 : decode cX1_isTakenBack 34 = .ok (.iinc 2 1, 3) := by decide +kernel
theorem dX1_isTakenBack_37 : decode cX1_isTakenBack 37 = .ok (.goto (-33), 3) := by decide +kernel
theorem dX1_isTakenBack_40 : decode cX1_isTakenBack 40 = .ok (.iconst 0, 1) := by decide +kernel
theorem dX1_isTakenBack_41 : decode cX1_isTakenBack 41 = .ok (.ireturn, 1) := by decide +kernel
set_option maxRecDepth 20000 in
theorem ggX1_isKept_X1_isTakenBack : GoodIn wsX1_isKept wsX1_isTakenBack := goodIn_r _ [7, 8, 2, 9, 10, 11, 12, 13, 14, 15, 16, 17, 18, 19, 20, 21, 22, 23, 24] (by decide +kernel) (by decide +kernel)
set_option maxRecDepth 20000 in
theorem gX1_isKept_X1_isTakenBack : GoodIn wsX1_isKept (wsV RX1 60 RX1 yX1_isTakenBack wsX1_isTakenBack) := goodIn_app (goodIn_of _ (by decide +kernel)) ggX1_isKept_X1_isTakenBack
theorem dX1_isKept_0 : decode cX1_isKept 0 = .ok (.aload_n 0, 1) := by decide +kernel
theorem dX1_isKept_1 : decode cX1_isKept 1 = .ok (.getfield 25, 3) := by decide +kernel
theorem dX1_isKept_4 : decode cX1_isKept 4 = .ok (.iload_n 1, 1) := by decide +kernel
theorem dX1_isKept_5 : decode cX1_isKept 5 = .ok (.iaload, 1) := by decide +kernel
theorem dX1_isKept_6 : decode cX1_isKept 6 = .ok (.iload_n 2, 1) := by decide +kernel
theorem dX1_isKept_7 : decode cX1_isKept 7 = .ok (.if_icmp .ne 25, 3) := by decide +kernel
theorem dX1_isKept_10 : decode cX1_isKept 10 = .ok (.aload_n 0, 1) := by decide +kernel
theorem dX1_isKept_11 : decode cX1_isKept 11 = .ok (.getfield 28, 3) := by decide +kernel
theorem dX1_isKept_14 : decode cX1_isKept 14 = .ok (.iload_n 1, 1) := by decide +kernel
theorem dX1_isKept_15 : decode cX1_isKept 15 = .ok (.iaload, 1) := by decide +kernel
theorem dX1_isKept_16 : decode cX1_isKept 16 = .ok (.iconst 1, 1) := by decide +kernel
theorem dX1_isKept_17 : decode cX1_isKept 17 = .ok (.if_icmp .ne 15, 3) := by decide +kernel
theorem dX1_isKept_20 : decode cX1_isKept 20 = .ok (.aload_n 0, 1) := by decide +kernel
theorem dX1_isKept_21 : decode cX1_isKept 21 = .ok (.iload_n 1, 1) := by decide +kernel
theorem dX1_isKept_22 : decode cX1_isKept 22 = .ok (.invokevirtual 60, 3) := by decide +kernel
theorem dX1_isKept_25 : decode cX1_isKept 25 = .ok (.ifCond .ne 7, 3) := by decide +kernel
theorem dX1_isKept_28 : decode cX1_isKept 28 = .ok (.iconst 1, 1) := by decide +kernel
theorem dX1_isKept_29 : decode cX1_isKept 29 = .ok (.goto 4, 3) := by decide +kernel
theorem dX1_isKept_32 : decode cX1_isKept 32 = .ok (.iconst 0, 1) := by decide +kernel
theorem dX1_isKept_33 : decode cX1_isKept 33 = .ok (.ireturn, 1) := by decide +kernel
set_option maxRecDepth 20000 in
theorem ggX1_kept_X1_isKept : GoodIn wsX1_kept wsX1_isKept := goodIn_r _ [6, 7, 8, 9, 10, 11, 5, 12, 1, 13, 14, 15, 16, 17, 18, 19, 20, 21, 22, 23, 24, 25, 26, 27, 28] (by decide +kernel) (by decide +kernel)
set_option maxRecDepth 20000 in
theorem gX1_kept_X1_isKept : GoodIn wsX1_kept (wsV RX1 64 RX1 yX1_isKept wsX1_isKept) := goodIn_app (goodIn_of _ (by decide +kernel)) ggX1_kept_X1_isKept
theorem dX1_kept_0 : decode cX1_kept 0 = .ok (.iconst 0, 1) := by decide +kernel
theorem dX1_kept_1 : decode cX1_kept 1 = .ok (.istore_n 2, 1) := by decide +kernel
theorem dX1_kept_2 : decode cX1_kept 2 = .ok (.iconst 0, 1) := by decide +kernel
theorem dX1_kept_3 : decode cX1_kept 3 = .ok (.istore_n 3, 1) := by decide +kernel
theorem dX1_kept_4 : decode cX1_kept 4 = .ok (.iload_n 3, 1) := by decide +kernel
theorem dX1_kept_5 : decode cX1_kept 5 = .ok (.aload_n 0, 1) := by decide +kernel
theorem dX1_kept_6 : decode cX1_kept 6 = .ok (.getfield 49, 3) := by decide +kernel
theorem dX1_kept_9 : decode cX1_kept 9 = .ok (.if_icmp .ge 26, 3) := by decide +kernel
theorem dX1_kept_12 : decode cX1_kept 12 = .ok (.iload_n 2, 1) := by decide +kernel
theorem dX1_kept_13 : decode cX1_kept 13 = .ok (.aload_n 0, 1) := by decide +kernel
theorem dX1_kept_14 : decode cX1_kept 14 = .ok (.iload_n 3, 1) := by decide +kernel
theorem dX1_kept_15 : decode cX1_kept 15 = .ok (.iload_n 1, 1) := by decide +kernel
theorem dX1_kept_16 : decode cX1_kept 16 = .ok (.invokevirtual 64, 3) := by decide +kernel
theorem dX1_kept_19 : decode cX1_kept 19 = .ok (.ifCond .eq 7, 3) := by decide +kernel
theorem dX1_kept_22 : decode cX1_kept 22 = .ok (.iconst 1, 1) := by decide +kernel
theorem dX1_kept_23 : decode cX1_kept 23 = .ok (.goto 4, 3) := by decide +kernel
theorem dX1_kept_26 : decode cX1_kept 26 = .ok (.iconst 0, 1) := by decide +kernel
theorem dX1_kept_27 : decode cX1_kept 27 = .ok (.iadd, 1) := by decide +kernel
theorem dX1_kept_28 : decode cX1_kept 28 = .ok (.istore_n 2, 1) := by decide +kernel
theorem dX1_kept_29 : decode cX1_kept 29 = .ok (.iinc 3 1, 3) := by decide +kernel
theorem dX1_kept_32 : decode cX1_kept 32 = .ok (.goto (-28), 3) := by decide +kernel
theorem dX1_kept_35 : decode cX1_kept 35 = .ok (.iload_n 2, 1) := by decide +kernel
theorem dX1_kept_36 : decode cX1_kept 36 = .ok (.ireturn, 1) := by decide +kernel
set_option maxRecDepth 20000 in
theorem ggX1_room_X1_is : GoodIn wsX1_room wsX1_is := goodIn_r _ [7, 1, 8, 9, 23, 24, 25, 26, 27, 28, 29, 30, 31, 32, 33, 34, 35, 36, 37] (by decide +kernel) (by decide +kernel)
set_option maxRecDepth 20000 in
theorem gX1_room_X1_is : GoodIn wsX1_room (wsV RX1 71 RX1 yX1_is wsX1_is) := goodIn_app (goodIn_of _ (by decide +kernel)) ggX1_room_X1_is
set_option maxRecDepth 20000 in
theorem ggX1_room_X1_kept : GoodIn wsX1_room wsX1_kept := goodIn_r _ [13, 1, 14, 15, 16, 6, 17, 8, 9, 18, 19, 20, 21, 22, 23, 24, 25, 26, 27, 28, 29, 30, 31, 32, 33, 34, 35, 36, 37] (by decide +kernel) (by decide +kernel)
set_option maxRecDepth 20000 in
theorem gX1_room_X1_kept : GoodIn wsX1_room (wsV RX1 75 RX1 yX1_kept wsX1_kept) := goodIn_app (goodIn_of _ (by decide +kernel)) ggX1_room_X1_kept
theorem dX1_room_0 : decode cX1_room 0 = .ok (.bipush 120, 2) := by decide +kernel
theorem dX1_room_2 : decode cX1_room 2 = .ok (.aload_n 0, 1) := by decide +kernel
theorem dX1_room_3 : decode cX1_room 3 = .ok (.getfield 49, 3) := by decide +kernel
theorem dX1_room_6 : decode cX1_room 6 = .ok (.isub, 1) := by decide +kernel
theorem dX1_room_7 : decode cX1_room 7 = .ok (.istore_n 1, 1) := by decide +kernel
theorem dX1_room_8 : decode cX1_room 8 = .ok (.iconst 0, 1) := by decide +kernel
theorem dX1_room_9 : decode cX1_room 9 = .ok (.istore_n 2, 1) := by decide +kernel
theorem dX1_room_10 : decode cX1_room 10 = .ok (.iload_n 2, 1) := by decide +kernel
theorem dX1_room_11 : decode cX1_room 11 = .ok (.aload_n 0, 1) := by decide +kernel
theorem dX1_room_12 : decode cX1_room 12 = .ok (.getfield 3, 3) := by decide +kernel
theorem dX1_room_15 : decode cX1_room 15 = .ok (.getfield 68, 3) := by decide +kernel
theorem dX1_room_18 : decode cX1_room 18 = .ok (.if_icmp .ge 31, 3) := by decide +kernel
theorem dX1_room_21 : decode cX1_room 21 = .ok (.iload_n 1, 1) := by decide +kernel
theorem dX1_room_22 : decode cX1_room 22 = .ok (.aload_n 0, 1) := by decide +kernel
theorem dX1_room_23 : decode cX1_room 23 = .ok (.iload_n 2, 1) := by decide +kernel
theorem dX1_room_24 : decode cX1_room 24 = .ok (.invokevirtual 71, 3) := by decide +kernel
theorem dX1_room_27 : decode cX1_room 27 = .ok (.ifCond .ne 13, 3) := by decide +kernel
theorem dX1_room_30 : decode cX1_room 30 = .ok (.iconst 1, 1) := by decide +kernel
theorem dX1_room_31 : decode cX1_room 31 = .ok (.aload_n 0, 1) := by decide +kernel
theorem dX1_room_32 : decode cX1_room 32 = .ok (.iload_n 2, 1) := by decide +kernel
theorem dX1_room_33 : decode cX1_room 33 = .ok (.invokevirtual 75, 3) := by decide +kernel
theorem dX1_room_36 : decode cX1_room 36 = .ok (.iadd, 1) := by decide +kernel
theorem dX1_room_37 : decode cX1_room 37 = .ok (.goto 4, 3) := by decide +kernel
theorem dX1_room_40 : decode cX1_room 40 = .ok (.iconst 0, 1) := by decide +kernel
theorem dX1_room_41 : decode cX1_room 41 = .ok (.isub, 1) := by decide +kernel
theorem dX1_room_42 : decode cX1_room 42 = .ok (.istore_n 1, 1) := by decide +kernel
theorem dX1_room_43 : decode cX1_room 43 = .ok (.iinc 2 1, 3) := by decide +kernel
theorem dX1_room_46 : decode cX1_room 46 = .ok (.goto (-36), 3) := by decide +kernel
theorem dX1_room_49 : decode cX1_room 49 = .ok (.iload_n 1, 1) := by decide +kernel
theorem dX1_room_50 : decode cX1_room 50 = .ok (.ireturn, 1) := by decide +kernel
set_option maxRecDepth 20000 in
theorem ggX1_isHeld_X1_is : GoodIn wsX1_isHeld wsX1_is := goodIn_r _ [9, 1, 2, 3, 10, 11, 12, 13, 14, 15, 16, 17, 18, 19, 20, 21, 22, 23, 24] (by decide +kernel) (by decide +kernel)
set_option maxRecDepth 20000 in
theorem gX1_isHeld_X1_is : GoodIn wsX1_isHeld (wsV RX1 71 RX1 yX1_is wsX1_is) := goodIn_app (goodIn_of _ (by decide +kernel)) ggX1_isHeld_X1_is
theorem dX1_isHeld_0 : decode cX1_isHeld 0 = .ok (.iconst 0, 1) := by decide +kernel
theorem dX1_isHeld_1 : decode cX1_isHeld 1 = .ok (.istore_n 3, 1) := by decide +kernel
theorem dX1_isHeld_2 : decode cX1_isHeld 2 = .ok (.iconst 0, 1) := by decide +kernel
theorem dX1_isHeld_3 : decode cX1_isHeld 3 = .ok (.istore 4, 2) := by decide +kernel
theorem dX1_isHeld_5 : decode cX1_isHeld 5 = .ok (.iload 4, 2) := by decide +kernel
theorem dX1_isHeld_7 : decode cX1_isHeld 7 = .ok (.aload_n 0, 1) := by decide +kernel
theorem dX1_isHeld_8 : decode cX1_isHeld 8 = .ok (.getfield 49, 3) := by decide +kernel
theorem dX1_isHeld_11 : decode cX1_isHeld 11 = .ok (.if_icmp .ge 50, 3) := by decide +kernel
theorem dX1_isHeld_14 : decode cX1_isHeld 14 = .ok (.iload_n 3, 1) := by decide +kernel
theorem dX1_isHeld_15 : decode cX1_isHeld 15 = .ok (.aload_n 0, 1) := by decide +kernel
theorem dX1_isHeld_16 : decode cX1_isHeld 16 = .ok (.getfield 25, 3) := by decide +kernel
theorem dX1_isHeld_19 : decode cX1_isHeld 19 = .ok (.iload 4, 2) := by decide +kernel
theorem dX1_isHeld_21 : decode cX1_isHeld 21 = .ok (.iaload, 1) := by decide +kernel
theorem dX1_isHeld_22 : decode cX1_isHeld 22 = .ok (.iload_n 2, 1) := by decide +kernel
theorem dX1_isHeld_23 : decode cX1_isHeld 23 = .ok (.if_icmp .ne 29, 3) := by decide +kernel
theorem dX1_isHeld_26 : decode cX1_isHeld 26 = .ok (.aload_n 0, 1) := by decide +kernel
theorem dX1_isHeld_27 : decode cX1_isHeld 27 = .ok (.getfield 28, 3) := by decide +kernel
theorem dX1_isHeld_30 : decode cX1_isHeld 30 = .ok (.iload 4, 2) := by decide +kernel
theorem dX1_isHeld_32 : decode cX1_isHeld 32 = .ok (.iaload, 1) := by decide +kernel
theorem dX1_isHeld_33 : decode cX1_isHeld 33 = .ok (.iconst 1, 1) := by decide +kernel
theorem dX1_isHeld_34 : decode cX1_isHeld 34 = .ok (.if_icmp .ne 18, 3) := by decide +kernel
theorem dX1_isHeld_37 : decode cX1_isHeld 37 = .ok (.aload_n 0, 1) := by decide +kernel
theorem dX1_isHeld_38 : decode cX1_isHeld 38 = .ok (.getfield 31, 3) := by decide +kernel
theorem dX1_isHeld_41 : decode cX1_isHeld 41 = .ok (.iload 4, 2) := by decide +kernel
theorem dX1_isHeld_43 : decode cX1_isHeld 43 = .ok (.iaload, 1) := by decide +kernel
theorem dX1_isHeld_44 : decode cX1_isHeld 44 = .ok (.iload_n 1, 1) := by decide +kernel
theorem dX1_isHeld_45 : decode cX1_isHeld 45 = .ok (.if_icmp .ne 7, 3) := by decide +kernel
theorem dX1_isHeld_48 : decode cX1_isHeld 48 = .ok (.iconst 1, 1) := by decide +kernel
theorem dX1_isHeld_49 : decode cX1_isHeld 49 = .ok (.goto 4, 3) := by decide +kernel
theorem dX1_isHeld_52 : decode cX1_isHeld 52 = .ok (.iconst 0, 1) := by decide +kernel
theorem dX1_isHeld_53 : decode cX1_isHeld 53 = .ok (.ior, 1) := by decide +kernel
theorem dX1_isHeld_54 : decode cX1_isHeld 54 = .ok (.istore_n 3, 1) := by decide +kernel
theorem dX1_isHeld_55 : decode cX1_isHeld 55 = .ok (.iinc 4 1, 3) := by decide +kernel
theorem dX1_isHeld_58 : decode cX1_isHeld 58 = .ok (.goto (-53), 3) := by decide +kernel
theorem dX1_isHeld_61 : decode cX1_isHeld 61 = .ok (.iload_n 3, 1) := by decide +kernel
theorem dX1_isHeld_62 : decode cX1_isHeld 62 = .ok (.ifCond .eq 15, 3) := by decide +kernel
theorem dX1_isHeld_65 : decode cX1_isHeld 65 = .ok (.aload_n 0, 1) := by decide +kernel
theorem dX1_isHeld_66 : decode cX1_isHeld 66 = .ok (.iload_n 2, 1) := by decide +kernel
theorem dX1_isHeld_67 : decode cX1_isHeld 67 = .ok (.invokevirtual 71, 3) := by decide +kernel
theorem dX1_isHeld_70 : decode cX1_isHeld 70 = .ok (.ifCond .ne 7, 3) := by decide +kernel
theorem dX1_isHeld_73 : decode cX1_isHeld 73 = .ok (.iconst 1, 1) := by decide +kernel
theorem dX1_isHeld_74 : decode cX1_isHeld 74 = .ok (.goto 4, 3) := by decide +kernel
theorem dX1_isHeld_77 : decode cX1_isHeld 77 = .ok (.iconst 0, 1) := by decide +kernel
theorem dX1_isHeld_78 : decode cX1_isHeld 78 = .ok (.ireturn, 1) := by decide +kernel
end
section
set_option maxRecDepth 20000 in
theorem ggX1_holder_X1_isHeld : GoodIn wsX1_holder wsX1_isHeld := goodIn_r _ [6, 7, 8, 9, 10, 11, 12, 13, 5, 14, 15, 16, 17, 18, 19, 20, 21, 22, 23, 24, 25, 26, 27, 28, 29] (by decide +kernel) (by decide +kernel)
set_option maxRecDepth 20000 in
theorem gX1_holder_X1_isHeld : GoodIn wsX1_holder (wsV RX1 78 RX1 yX1_isHeld wsX1_isHeld) := goodIn_app (goodIn_of _ (by decide +kernel)) ggX1_holder_X1_isHeld
theorem dX1_holder_0 : decode cX1_holder 0 = .ok (.iconst 0, 1) := by decide +kernel
theorem dX1_holder_1 : decode cX1_holder 1 = .ok (.istore_n 2, 1) := by decide +kernel
theorem dX1_holder_2 : decode cX1_holder 2 = .ok (.iload_n 2, 1) := by decide +kernel
theorem dX1_holder_3 : decode cX1_holder 3 = .ok (.aload_n 0, 1) := by decide +kernel
theorem dX1_holder_4 : decode cX1_holder 4 = .ok (.getfield 3, 3) := by decide +kernel
theorem dX1_holder_7 : decode cX1_holder 7 = .ok (.getfield 68, 3) := by decide +kernel
theorem dX1_holder_10 : decode cX1_holder 10 = .ok (.if_icmp .ge 20, 3) := by decide +kernel
theorem dX1_holder_13 : decode cX1_holder 13 = .ok (.aload_n 0, 1) := by decide +kernel
theorem dX1_holder_14 : decode cX1_holder 14 = .ok (.iload_n 1, 1) := by decide +kernel
theorem dX1_holder_15 : decode cX1_holder 15 = .ok (.iload_n 2, 1) := by decide +kernel
theorem dX1_holder_16 : decode cX1_holder 16 = .ok (.invokevirtual 78, 3) := by decide +kernel
theorem dX1_holder_19 : decode cX1_holder 19 = .ok (.ifCond .eq 5, 3) := by decide +kernel
theorem dX1_holder_22 : decode cX1_holder 22 = .ok (.iload_n 2, 1) := by decide +kernel
theorem dX1_holder_23 : decode cX1_holder 23 = .ok (.ireturn, 1) := by decide +kernel
theorem dX1_holder_24 : decode cX1_holder 24 = .ok (.iinc 2 1, 3) := by decide +kernel
theorem dX1_holder_27 : decode cX1_holder 27 = .ok (.goto (-25), 3) := by decide +kernel
theorem dX1_holder_30 : decode cX1_holder 30 = .ok (.iconst (-1), 1) := by decide +kernel
theorem dX1_holder_31 : decode cX1_holder 31 = .ok (.ireturn, 1) := by decide +kernel
theorem dX1_latest_0 : decode cX1_latest 0 = .ok (.iconst (-1), 1) := by decide +kernel
theorem dX1_latest_1 : decode cX1_latest 1 = .ok (.istore_n 2, 1) := by decide +kernel
theorem dX1_latest_2 : decode cX1_latest 2 = .ok (.iconst 0, 1) := by decide +kernel
theorem dX1_latest_3 : decode cX1_latest 3 = .ok (.istore_n 3, 1) := by decide +kernel
theorem dX1_latest_4 : decode cX1_latest 4 = .ok (.iload_n 3, 1) := by decide +kernel
theorem dX1_latest_5 : decode cX1_latest 5 = .ok (.aload_n 0, 1) := by decide +kernel
theorem dX1_latest_6 : decode cX1_latest 6 = .ok (.getfield 49, 3) := by decide +kernel
theorem dX1_latest_9 : decode cX1_latest 9 = .ok (.if_icmp .ge 21, 3) := by decide +kernel
theorem dX1_latest_12 : decode cX1_latest 12 = .ok (.aload_n 0, 1) := by decide +kernel
theorem dX1_latest_13 : decode cX1_latest 13 = .ok (.getfield 31, 3) := by decide +kernel
theorem dX1_latest_16 : decode cX1_latest 16 = .ok (.iload_n 3, 1) := by decide +kernel
theorem dX1_latest_17 : decode cX1_latest 17 = .ok (.iaload, 1) := by decide +kernel
theorem dX1_latest_18 : decode cX1_latest 18 = .ok (.iload_n 1, 1) := by decide +kernel
theorem dX1_latest_19 : decode cX1_latest 19 = .ok (.if_icmp .ne 5, 3) := by decide +kernel
theorem dX1_latest_22 : decode cX1_latest 22 = .ok (.iload_n 3, 1) := by decide +kernel
theorem dX1_latest_23 : decode cX1_latest 23 = .ok (.istore_n 2, 1) := by decide +kernel
theorem dX1_latest_24 : decode cX1_latest 24 = .ok (.iinc 3 1, 3) := by decide +kernel
theorem dX1_latest_27 : decode cX1_latest 27 = .ok (.goto (-23), 3) := by decide +kernel
theorem dX1_latest_30 : decode cX1_latest 30 = .ok (.iload_n 2, 1) := by decide +kernel
theorem dX1_latest_31 : decode cX1_latest 31 = .ok (.ireturn, 1) := by decide +kernel
theorem dX1_chalk_0 : decode cX1_chalk 0 = .ok (.aload_n 0, 1) := by decide +kernel
theorem dX1_chalk_1 : decode cX1_chalk 1 = .ok (.getfield 25, 3) := by decide +kernel
theorem dX1_chalk_4 : decode cX1_chalk 4 = .ok (.aload_n 0, 1) := by decide +kernel
theorem dX1_chalk_5 : decode cX1_chalk 5 = .ok (.getfield 49, 3) := by decide +kernel
theorem dX1_chalk_8 : decode cX1_chalk 8 = .ok (.iload_n 1, 1) := by decide +kernel
theorem dX1_chalk_9 : decode cX1_chalk 9 = .ok (.iastore, 1) := by decide +kernel
theorem dX1_chalk_10 : decode cX1_chalk 10 = .ok (.aload_n 0, 1) := by decide +kernel
theorem dX1_chalk_11 : decode cX1_chalk 11 = .ok (.getfield 28, 3) := by decide +kernel
theorem dX1_chalk_14 : decode cX1_chalk 14 = .ok (.aload_n 0, 1) := by decide +kernel
theorem dX1_chalk_15 : decode cX1_chalk 15 = .ok (.getfield 49, 3) := by decide +kernel
theorem dX1_chalk_18 : decode cX1_chalk 18 = .ok (.iload_n 2, 1) := by decide +kernel
theorem dX1_chalk_19 : decode cX1_chalk 19 = .ok (.iastore, 1) := by decide +kernel
theorem dX1_chalk_20 : decode cX1_chalk 20 = .ok (.aload_n 0, 1) := by decide +kernel
theorem dX1_chalk_21 : decode cX1_chalk 21 = .ok (.getfield 31, 3) := by decide +kernel
theorem dX1_chalk_24 : decode cX1_chalk 24 = .ok (.aload_n 0, 1) := by decide +kernel
theorem dX1_chalk_25 : decode cX1_chalk 25 = .ok (.getfield 49, 3) := by decide +kernel
theorem dX1_chalk_28 : decode cX1_chalk 28 = .ok (.iconst (-1), 1) := by decide +kernel
theorem dX1_chalk_29 : decode cX1_chalk 29 = .ok (.iastore, 1) := by decide +kernel
theorem dX1_chalk_30 : decode cX1_chalk 30 = .ok (.aload_n 0, 1) := by decide +kernel
theorem dX1_chalk_31 : decode cX1_chalk 31 = .ok (.getfield 34, 3) := by decide +kernel
theorem dX1_chalk_34 : decode cX1_chalk 34 = .ok (.aload_n 0, 1) := by decide +kernel
theorem dX1_chalk_35 : decode cX1_chalk 35 = .ok (.getfield 49, 3) := by decide +kernel
theorem dX1_chalk_38 : decode cX1_chalk 38 = .ok (.iconst (-1), 1) := by decide +kernel
theorem dX1_chalk_39 : decode cX1_chalk 39 = .ok (.iastore, 1) := by decide +kernel
theorem dX1_chalk_40 : decode cX1_chalk 40 = .ok (.aload_n 0, 1) := by decide +kernel
theorem dX1_chalk_41 : decode cX1_chalk 41 = .ok (.getfield 37, 3) := by decide +kernel
theorem dX1_chalk_44 : decode cX1_chalk 44 = .ok (.aload_n 0, 1) := by decide +kernel
theorem dX1_chalk_45 : decode cX1_chalk 45 = .ok (.getfield 49, 3) := by decide +kernel
theorem dX1_chalk_48 : decode cX1_chalk 48 = .ok (.iconst (-1), 1) := by decide +kernel
theorem dX1_chalk_49 : decode cX1_chalk 49 = .ok (.iastore, 1) := by decide +kernel
theorem dX1_chalk_50 : decode cX1_chalk 50 = .ok (.aload_n 0, 1) := by decide +kernel
theorem dX1_chalk_51 : decode cX1_chalk 51 = .ok (.getfield 40, 3) := by decide +kernel
theorem dX1_chalk_54 : decode cX1_chalk 54 = .ok (.aload_n 0, 1) := by decide +kernel
theorem dX1_chalk_55 : decode cX1_chalk 55 = .ok (.getfield 49, 3) := by decide +kernel
theorem dX1_chalk_58 : decode cX1_chalk 58 = .ok (.iconst (-1), 1) := by decide +kernel
theorem dX1_chalk_59 : decode cX1_chalk 59 = .ok (.iastore, 1) := by decide +kernel
theorem dX1_chalk_60 : decode cX1_chalk 60 = .ok (.aload_n 0, 1) := by decide +kernel
theorem dX1_chalk_61 : decode cX1_chalk 61 = .ok (.dup, 1) := by decide +kernel
theorem dX1_chalk_62 : decode cX1_chalk 62 = .ok (.getfield 49, 3) := by decide +kernel
theorem dX1_chalk_65 : decode cX1_chalk 65 = .ok (.iconst 1, 1) := by decide +kernel
theorem dX1_chalk_66 : decode cX1_chalk 66 = .ok (.iadd, 1) := by decide +kernel
theorem dX1_chalk_67 : decode cX1_chalk 67 = .ok (.putfield 49, 3) := by decide +kernel
theorem dX1_chalk_70 : decode cX1_chalk 70 = .ok (.return_, 1) := by decide +kernel
set_option maxRecDepth 20000 in
theorem ggX1_chalk__X1_chalk : GoodIn wsX1_chalk_ wsX1_chalk := goodIn_r _ [11, 12, 2, 13, 1, 3, 5, 6, 14, 15, 16, 17, 18, 19, 20, 21, 22, 23, 24, 25, 26, 27, 28] (by decide +kernel) (by decide +kernel)
set_option maxRecDepth 20000 in
theorem gX1_chalk__X1_chalk : GoodIn wsX1_chalk_ (wsV RX1 81 RX1 yX1_chalk wsX1_chalk) := goodIn_app (goodIn_of _ (by decide +kernel)) ggX1_chalk__X1_chalk
theorem dX1_chalk__0 : decode cX1_chalk_ 0 = .ok (.aload_n 0, 1) := by decide +kernel
theorem dX1_chalk__1 : decode cX1_chalk_ 1 = .ok (.iload_n 1, 1) := by decide +kernel
theorem dX1_chalk__2 : decode cX1_chalk_ 2 = .ok (.iload_n 2, 1) := by decide +kernel
theorem dX1_chalk__3 : decode cX1_chalk_ 3 = .ok (.invokevirtual 81, 3) := by decide +kernel
theorem dX1_chalk__6 : decode cX1_chalk_ 6 = .ok (.aload_n 0, 1) := by decide +kernel
theorem dX1_chalk__7 : decode cX1_chalk_ 7 = .ok (.getfield 31, 3) := by decide +kernel
theorem dX1_chalk__10 : decode cX1_chalk_ 10 = .ok (.aload_n 0, 1) := by decide +kernel
theorem dX1_chalk__11 : decode cX1_chalk_ 11 = .ok (.getfield 49, 3) := by decide +kernel
theorem dX1_chalk__14 : decode cX1_chalk_ 14 = .ok (.iconst 1, 1) := by decide +kernel
theorem dX1_chalk__15 : decode cX1_chalk_ 15 = .ok (.isub, 1) := by decide +kernel
theorem dX1_chalk__16 : decode cX1_chalk_ 16 = .ok (.iload_n 3, 1) := by decide +kernel
theorem dX1_chalk__17 : decode cX1_chalk_ 17 = .ok (.iastore, 1) := by decide +kernel
theorem dX1_chalk__18 : decode cX1_chalk_ 18 = .ok (.aload_n 0, 1) := by decide +kernel
theorem dX1_chalk__19 : decode cX1_chalk_ 19 = .ok (.getfield 34, 3) := by decide +kernel
theorem dX1_chalk__22 : decode cX1_chalk_ 22 = .ok (.aload_n 0, 1) := by decide +kernel
theorem dX1_chalk__23 : decode cX1_chalk_ 23 = .ok (.getfield 49, 3) := by decide +kernel
theorem dX1_chalk__26 : decode cX1_chalk_ 26 = .ok (.iconst 1, 1) := by decide +kernel
theorem dX1_chalk__27 : decode cX1_chalk_ 27 = .ok (.isub, 1) := by decide +kernel
theorem dX1_chalk__28 : decode cX1_chalk_ 28 = .ok (.aload_n 0, 1) := by decide +kernel
theorem dX1_chalk__29 : decode cX1_chalk_ 29 = .ok (.getfield 15, 3) := by decide +kernel
theorem dX1_chalk__32 : decode cX1_chalk_ 32 = .ok (.iload_n 3, 1) := by decide +kernel
theorem dX1_chalk__33 : decode cX1_chalk_ 33 = .ok (.iaload, 1) := by decide +kernel
theorem dX1_chalk__34 : decode cX1_chalk_ 34 = .ok (.iastore, 1) := by decide +kernel
theorem dX1_chalk__35 : decode cX1_chalk_ 35 = .ok (.aload_n 0, 1) := by decide +kernel
theorem dX1_chalk__36 : decode cX1_chalk_ 36 = .ok (.getfield 37, 3) := by decide +kernel
theorem dX1_chalk__39 : decode cX1_chalk_ 39 = .ok (.aload_n 0, 1) := by decide +kernel
theorem dX1_chalk__40 : decode cX1_chalk_ 40 = .ok (.getfield 49, 3) := by decide +kernel
theorem dX1_chalk__43 : decode cX1_chalk_ 43 = .ok (.iconst 1, 1) := by decide +kernel
theorem dX1_chalk__44 : decode cX1_chalk_ 44 = .ok (.isub, 1) := by decide +kernel
theorem dX1_chalk__45 : decode cX1_chalk_ 45 = .ok (.iload 4, 2) := by decide +kernel
theorem dX1_chalk__47 : decode cX1_chalk_ 47 = .ok (.iastore, 1) := by decide +kernel
theorem dX1_chalk__48 : decode cX1_chalk_ 48 = .ok (.aload_n 0, 1) := by decide +kernel
theorem dX1_chalk__49 : decode cX1_chalk_ 49 = .ok (.getfield 40, 3) := by decide +kernel
theorem dX1_chalk__52 : decode cX1_chalk_ 52 = .ok (.aload_n 0, 1) := by decide +kernel
theorem dX1_chalk__53 : decode cX1_chalk_ 53 = .ok (.getfield 49, 3) := by decide +kernel
theorem dX1_chalk__56 : decode cX1_chalk_ 56 = .ok (.iconst 1, 1) := by decide +kernel
theorem dX1_chalk__57 : decode cX1_chalk_ 57 = .ok (.isub, 1) := by decide +kernel
theorem dX1_chalk__58 : decode cX1_chalk_ 58 = .ok (.iload 5, 2) := by decide +kernel
theorem dX1_chalk__60 : decode cX1_chalk_ 60 = .ok (.iastore, 1) := by decide +kernel
theorem dX1_chalk__61 : decode cX1_chalk_ 61 = .ok (.aload_n 0, 1) := by decide +kernel
theorem dX1_chalk__62 : decode cX1_chalk_ 62 = .ok (.getfield 15, 3) := by decide +kernel
theorem dX1_chalk__65 : decode cX1_chalk_ 65 = .ok (.iload_n 3, 1) := by decide +kernel
theorem dX1_chalk__66 : decode cX1_chalk_ 66 = .ok (.iload 4, 2) := by decide +kernel
theorem dX1_chalk__68 : decode cX1_chalk_ 68 = .ok (.iastore, 1) := by decide +kernel
theorem dX1_chalk__69 : decode cX1_chalk_ 69 = .ok (.return_, 1) := by decide +kernel
set_option maxRecDepth 20000 in
theorem ggX1_undo_X1_isKept : GoodIn wsX1_undo wsX1_isKept := goodIn_r _ [8, 9, 10, 11, 12, 13, 7, 14, 1, 15, 26, 27, 28, 29, 30, 31, 32, 33, 34, 35, 36, 37, 38, 39, 40] (by decide +kernel) (by decide +kernel)
set_option maxRecDepth 20000 in
theorem gX1_undo_X1_isKept : GoodIn wsX1_undo (wsV RX1 64 RX1 yX1_isKept wsX1_isKept) := goodIn_app (goodIn_of _ (by decide +kernel)) ggX1_undo_X1_isKept
set_option maxRecDepth 20000 in
theorem ggX1_undo_X1_chalk_ : GoodIn wsX1_undo wsX1_chalk_ := goodIn_r _ [19, 2, 1, 3, 20, 21, 15, 22, 23, 24, 7, 25, 9, 10, 26, 27, 28, 29, 30, 31, 32, 33, 34, 35, 36, 37, 38, 39, 40] (by decide +kernel) (by decide +kernel)
set_option maxRecDepth 20000 in
theorem gX1_undo_X1_chalk_ : GoodIn wsX1_undo (wsV RX1 85 RX1 yX1_chalk_ wsX1_chalk_) := goodIn_app (goodIn_of _ (by decide +kernel)) ggX1_undo_X1_chalk_
set_option maxRecDepth 20000 in
theorem ggX1_undo_X1_chalk : GoodIn wsX1_undo wsX1_chalk := goodIn_r _ [25, 9, 1, 10, 2, 3, 21, 15, 26, 27, 28, 29, 30, 31, 32, 33, 34, 35, 36, 37, 38, 39, 40] (by decide +kernel) (by decide +kernel)
set_option maxRecDepth 20000 in
theorem gX1_undo_X1_chalk : GoodIn wsX1_undo (wsV RX1 81 RX1 yX1_chalk wsX1_chalk) := goodIn_app (goodIn_of _ (by decide +kernel)) ggX1_undo_X1_chalk
theorem dX1_undo_0 : decode cX1_undo 0 = .ok (.iconst 0, 1) := by decide +kernel
theorem dX1_undo_1 : decode cX1_undo 1 = .ok (.istore_n 2, 1) := by decide +kernel
theorem dX1_undo_2 : decode cX1_undo 2 = .ok (.aload_n 0, 1) := by decide +kernel
theorem dX1_undo_3 : decode cX1_undo 3 = .ok (.getfield 49, 3) := by decide +kernel
theorem dX1_undo_6 : decode cX1_undo 6 = .ok (.iconst 1, 1) := by decide +kernel
theorem dX1_undo_7 : decode cX1_undo 7 = .ok (.isub, 1) := by decide +kernel
theorem dX1_undo_8 : decode cX1_undo 8 = .ok (.istore_n 3, 1) := by decide +kernel
theorem dX1_undo_9 : decode cX1_undo 9 = .ok (.iload_n 3, 1) := by decide +kernel
theorem dX1_undo_10 : decode cX1_undo 10 = .ok (.ifCond .lt 43, 3) := by decide +kernel
theorem dX1_undo_13 : decode cX1_undo 13 = .ok (.aload_n 0, 1) := by decide +kernel
theorem dX1_undo_14 : decode cX1_undo 14 = .ok (.iload_n 3, 1) := by decide +kernel
theorem dX1_undo_15 : decode cX1_undo 15 = .ok (.iload_n 1, 1) := by decide +kernel
theorem dX1_undo_16 : decode cX1_undo 16 = .ok (.invokevirtual 64, 3) := by decide +kernel
theorem dX1_undo_19 : decode cX1_undo 19 = .ok (.ifCond .ne 6, 3) := by decide +kernel
theorem dX1_undo_22 : decode cX1_undo 22 = .ok (.goto 25, 3) := by decide +kernel
theorem dX1_undo_25 : decode cX1_undo 25 = .ok (.aload_n 0, 1) := by decide +kernel
theorem dX1_undo_26 : decode cX1_undo 26 = .ok (.iload_n 1, 1) := by decide +kernel
theorem dX1_undo_27 : decode cX1_undo 27 = .ok (.iconst 3, 1) := by decide +kernel
theorem dX1_undo_28 : decode cX1_undo 28 = .ok (.aload_n 0, 1) := by decide +kernel
theorem dX1_undo_29 : decode cX1_undo 29 = .ok (.getfield 31, 3) := by decide +kernel
theorem dX1_undo_32 : decode cX1_undo 32 = .ok (.iload_n 3, 1) := by decide +kernel
theorem dX1_undo_33 : decode cX1_undo 33 = .ok (.iaload, 1) := by decide +kernel
theorem dX1_undo_34 : decode cX1_undo 34 = .ok (.aload_n 0, 1) := by decide +kernel
theorem dX1_undo_35 : decode cX1_undo 35 = .ok (.getfield 34, 3) := by decide +kernel
theorem dX1_undo_38 : decode cX1_undo 38 = .ok (.iload_n 3, 1) := by decide +kernel
theorem dX1_undo_39 : decode cX1_undo 39 = .ok (.iaload, 1) := by decide +kernel
theorem dX1_undo_40 : decode cX1_undo 40 = .ok (.iload_n 3, 1) := by decide +kernel
theorem dX1_undo_41 : decode cX1_undo 41 = .ok (.invokevirtual 85, 3) := by decide +kernel
theorem dX1_undo_44 : decode cX1_undo 44 = .ok (.iinc 2 1, 3) := by decide +kernel
theorem dX1_undo_47 : decode cX1_undo 47 = .ok (.iinc 3 (-1), 3) := by decide +kernel
theorem dX1_undo_50 : decode cX1_undo 50 = .ok (.goto (-41), 3) := by decide +kernel
theorem dX1_undo_53 : decode cX1_undo 53 = .ok (.aload_n 0, 1) := by decide +kernel
theorem dX1_undo_54 : decode cX1_undo 54 = .ok (.iload_n 1, 1) := by decide +kernel
theorem dX1_undo_55 : decode cX1_undo 55 = .ok (.iconst 4, 1) := by decide +kernel
theorem dX1_undo_56 : decode cX1_undo 56 = .ok (.invokevirtual 81, 3) := by decide +kernel
theorem dX1_undo_59 : decode cX1_undo 59 = .ok (.iload_n 2, 1) := by decide +kernel
theorem dX1_undo_60 : decode cX1_undo 60 = .ok (.ireturn, 1) := by decide +kernel
theorem dX1_dries_0 : decode cX1_dries 0 = .ok (.aload_n 0, 1) := by decide +kernel
theorem dX1_dries_1 : decode cX1_dries 1 = .ok (.getfield 53, 3) := by decide +kernel
theorem dX1_dries_4 : decode cX1_dries 4 = .ok (.istore_n 2, 1) := by decide +kernel
theorem dX1_dries_5 : decode cX1_dries 5 = .ok (.aload_n 0, 1) := by decide +kernel
theorem dX1_dries_6 : decode cX1_dries 6 = .ok (.aload_n 0, 1) := by decide +kernel
theorem dX1_dries_7 : decode cX1_dries 7 = .ok (.getfield 53, 3) := by decide +kernel
theorem dX1_dries_10 : decode cX1_dries 10 = .ok (.iload_n 1, 1) := by decide +kernel
theorem dX1_dries_11 : decode cX1_dries 11 = .ok (.iconst 1, 1) := by decide +kernel
theorem dX1_dries_12 : decode cX1_dries 12 = .ok (.iadd, 1) := by decide +kernel
theorem dX1_dries_13 : decode cX1_dries 13 = .ok (.invokestatic 88, 3) := by decide +kernel
theorem dX1_dries_16 : decode cX1_dries 16 = .ok (.putfield 53, 3) := by decide +kernel
theorem dX1_dries_19 : decode cX1_dries 19 = .ok (.aload_n 0, 1) := by decide +kernel
theorem dX1_dries_20 : decode cX1_dries 20 = .ok (.getfield 53, 3) := by decide +kernel
theorem dX1_dries_23 : decode cX1_dries 23 = .ok (.iload_n 2, 1) := by decide +kernel
theorem dX1_dries_24 : decode cX1_dries 24 = .ok (.isub, 1) := by decide +kernel
theorem dX1_dries_25 : decode cX1_dries 25 = .ok (.ireturn, 1) := by decide +kernel
set_option maxRecDepth 20000 in
theorem ggX1_fall_X1_is : GoodIn wsX1_fall wsX1_is := goodIn_r _ [16, 2, 17, 18, 41, 42, 43, 44, 45, 46, 47, 48, 49, 50, 51, 52, 53, 54, 55] (by decide +kernel) (by decide +kernel)
set_option maxRecDepth 20000 in
theorem gX1_fall_X1_is : GoodIn wsX1_fall (wsV RX1 71 RX1 yX1_is wsX1_is) := goodIn_app (goodIn_of _ (by decide +kernel)) ggX1_fall_X1_is
set_option maxRecDepth 20000 in
theorem ggX1_fall_X1_undo : GoodIn wsX1_fall wsX1_undo := goodIn_r _ [22, 2, 8, 23, 24, 25, 26, 15, 27, 17, 18, 28, 29, 30, 31, 32, 33, 34, 35, 36, 6, 10, 37, 38, 39, 40, 41, 42, 43, 44, 45, 46, 47, 48, 49, 50, 51, 52, 53, 54, 55] (by decide +kernel) (by decide +kernel)
set_option maxRecDepth 20000 in
theorem gX1_fall_X1_undo : GoodIn wsX1_fall (wsV RX1 103 RX1 yX1_undo wsX1_undo) := goodIn_app (goodIn_of _ (by decide +kernel)) ggX1_fall_X1_undo
theorem dX1_fall_0 : decode cX1_fall 0 = .ok (.aload_n 0, 1) := by decide +kernel
theorem dX1_fall_1 : decode cX1_fall 1 = .ok (.aload_n 0, 1) := by decide +kernel
theorem dX1_fall_2 : decode cX1_fall 2 = .ok (.getfield 53, 3) := by decide +kernel
theorem dX1_fall_5 : decode cX1_fall 5 = .ok (.putfield 49, 3) := by decide +kernel
theorem dX1_fall_8 : decode cX1_fall 8 = .ok (.aload_n 0, 1) := by decide +kernel
theorem dX1_fall_9 : decode cX1_fall 9 = .ok (.iconst 0, 1) := by decide +kernel
theorem dX1_fall_10 : decode cX1_fall 10 = .ok (.putfield 94, 3) := by decide +kernel
theorem dX1_fall_13 : decode cX1_fall 13 = .ok (.aload_n 0, 1) := by decide +kernel
theorem dX1_fall_14 : decode cX1_fall 14 = .ok (.iconst (-1), 1) := by decide +kernel
theorem dX1_fall_15 : decode cX1_fall 15 = .ok (.putfield 97, 3) := by decide +kernel
theorem dX1_fall_18 : decode cX1_fall 18 = .ok (.aload_n 0, 1) := by decide +kernel
theorem dX1_fall_19 : decode cX1_fall 19 = .ok (.iconst 0, 1) := by decide +kernel
theorem dX1_fall_20 : decode cX1_fall 20 = .ok (.putfield 100, 3) := by decide +kernel
theorem dX1_fall_23 : decode cX1_fall 23 = .ok (.iconst 0, 1) := by decide +kernel
theorem dX1_fall_24 : decode cX1_fall 24 = .ok (.istore_n 1, 1) := by decide +kernel
theorem dX1_fall_25 : decode cX1_fall 25 = .ok (.iload_n 1, 1) := by decide +kernel
theorem dX1_fall_26 : decode cX1_fall 26 = .ok (.bipush 8, 2) := by decide +kernel
theorem dX1_fall_28 : decode cX1_fall 28 = .ok (.if_icmp .ge 21, 3) := by decide +kernel
theorem dX1_fall_31 : decode cX1_fall 31 = .ok (.aload_n 0, 1) := by decide +kernel
theorem dX1_fall_32 : decode cX1_fall 32 = .ok (.getfield 15, 3) := by decide +kernel
theorem dX1_fall_35 : decode cX1_fall 35 = .ok (.iload_n 1, 1) := by decide +kernel
theorem dX1_fall_36 : decode cX1_fall 36 = .ok (.aload_n 0, 1) := by decide +kernel
theorem dX1_fall_37 : decode cX1_fall 37 = .ok (.getfield 19, 3) := by decide +kernel
theorem dX1_fall_40 : decode cX1_fall 40 = .ok (.iload_n 1, 1) := by decide +kernel
theorem dX1_fall_41 : decode cX1_fall 41 = .ok (.iaload, 1) := by decide +kernel
theorem dX1_fall_42 : decode cX1_fall 42 = .ok (.iastore, 1) := by decide +kernel
theorem dX1_fall_43 : decode cX1_fall 43 = .ok (.iinc 1 1, 3) := by decide +kernel
theorem dX1_fall_46 : decode cX1_fall 46 = .ok (.goto (-21), 3) := by decide +kernel
theorem dX1_fall_49 : decode cX1_fall 49 = .ok (.iconst 0, 1) := by decide +kernel
theorem dX1_fall_50 : decode cX1_fall 50 = .ok (.istore_n 1, 1) := by decide +kernel
theorem dX1_fall_51 : decode cX1_fall 51 = .ok (.iload_n 1, 1) := by decide +kernel
theorem dX1_fall_52 : decode cX1_fall 52 = .ok (.aload_n 0, 1) := by decide +kernel
theorem dX1_fall_53 : decode cX1_fall 53 = .ok (.getfield 49, 3) := by decide +kernel
theorem dX1_fall_56 : decode cX1_fall 56 = .ok (.if_icmp .ge 77, 3) := by decide +kernel
theorem dX1_fall_59 : decode cX1_fall 59 = .ok (.aload_n 0, 1) := by decide +kernel
theorem dX1_fall_60 : decode cX1_fall 60 = .ok (.getfield 31, 3) := by decide +kernel
theorem dX1_fall_63 : decode cX1_fall 63 = .ok (.iload_n 1, 1) := by decide +kernel
theorem dX1_fall_64 : decode cX1_fall 64 = .ok (.iaload, 1) := by decide +kernel
theorem dX1_fall_65 : decode cX1_fall 65 = .ok (.iconst (-1), 1) := by decide +kernel
theorem dX1_fall_66 : decode cX1_fall 66 = .ok (.if_icmp .eq 61, 3) := by decide +kernel
theorem dX1_fall_69 : decode cX1_fall 69 = .ok (.iload_n 1, 1) := by decide +kernel
theorem dX1_fall_70 : decode cX1_fall 70 = .ok (.aload_n 0, 1) := by decide +kernel
theorem dX1_fall_71 : decode cX1_fall 71 = .ok (.getfield 22, 3) := by decide +kernel
theorem dX1_fall_74 : decode cX1_fall 74 = .ok (.aload_n 0, 1) := by decide +kernel
theorem dX1_fall_75 : decode cX1_fall 75 = .ok (.getfield 31, 3) := by decide +kernel
theorem dX1_fall_78 : decode cX1_fall 78 = .ok (.iload_n 1, 1) := by decide +kernel
theorem dX1_fall_79 : decode cX1_fall 79 = .ok (.iaload, 1) := by decide +kernel
theorem dX1_fall_80 : decode cX1_fall 80 = .ok (.iaload, 1) := by decide +kernel
theorem dX1_fall_81 : decode cX1_fall 81 = .ok (.if_icmp .gt 6, 3) := by decide +kernel
theorem dX1_fall_84 : decode cX1_fall 84 = .ok (.goto 43, 3) := by decide +kernel
theorem dX1_fall_87 : decode cX1_fall 87 = .ok (.aload_n 0, 1) := by decide +kernel
theorem dX1_fall_88 : decode cX1_fall 88 = .ok (.getfield 15, 3) := by decide +kernel
theorem dX1_fall_91 : decode cX1_fall 91 = .ok (.aload_n 0, 1) := by decide +kernel
theorem dX1_fall_92 : decode cX1_fall 92 = .ok (.getfield 31, 3) := by decide +kernel
theorem dX1_fall_95 : decode cX1_fall 95 = .ok (.iload_n 1, 1) := by decide +kernel
theorem dX1_fall_96 : decode cX1_fall 96 = .ok (.iaload, 1) := by decide +kernel
theorem dX1_fall_97 : decode cX1_fall 97 = .ok (.aload_n 0, 1) := by decide +kernel
theorem dX1_fall_98 : decode cX1_fall 98 = .ok (.getfield 37, 3) := by decide +kernel
theorem dX1_fall_101 : decode cX1_fall 101 = .ok (.iload_n 1, 1) := by decide +kernel
theorem dX1_fall_102 : decode cX1_fall 102 = .ok (.iaload, 1) := by decide +kernel
theorem dX1_fall_103 : decode cX1_fall 103 = .ok (.iastore, 1) := by decide +kernel
theorem dX1_fall_104 : decode cX1_fall 104 = .ok (.aload_n 0, 1) := by decide +kernel
theorem dX1_fall_105 : decode cX1_fall 105 = .ok (.dup, 1) := by decide +kernel
theorem dX1_fall_106 : decode cX1_fall 106 = .ok (.getfield 94, 3) := by decide +kernel
theorem dX1_fall_109 : decode cX1_fall 109 = .ok (.iconst 1, 1) := by decide +kernel
theorem dX1_fall_110 : decode cX1_fall 110 = .ok (.iadd, 1) := by decide +kernel
theorem dX1_fall_111 : decode cX1_fall 111 = .ok (.putfield 94, 3) := by decide +kernel
theorem dX1_fall_114 : decode cX1_fall 114 = .ok (.aload_n 0, 1) := by decide +kernel
theorem dX1_fall_115 : decode cX1_fall 115 = .ok (.getfield 97, 3) := by decide +kernel
theorem dX1_fall_118 : decode cX1_fall 118 = .ok (.iconst (-1), 1) := by decide +kernel
theorem dX1_fall_119 : decode cX1_fall 119 = .ok (.if_icmp .ne 8, 3) := by decide +kernel
theorem dX1_fall_122 : decode cX1_fall 122 = .ok (.aload_n 0, 1) := by decide +kernel
theorem dX1_fall_123 : decode cX1_fall 123 = .ok (.iload_n 1, 1) := by decide +kernel
theorem dX1_fall_124 : decode cX1_fall 124 = .ok (.putfield 97, 3) := by decide +kernel
theorem dX1_fall_127 : decode cX1_fall 127 = .ok (.iinc 1 1, 3) := by decide +kernel
theorem dX1_fall_130 : decode cX1_fall 130 = .ok (.goto (-79), 3) := by decide +kernel
theorem dX1_fall_133 : decode cX1_fall 133 = .ok (.aload_n 0, 1) := by decide +kernel
theorem dX1_fall_134 : decode cX1_fall 134 = .ok (.getfield 3, 3) := by decide +kernel
theorem dX1_fall_137 : decode cX1_fall 137 = .ok (.getfield 68, 3) := by decide +kernel
theorem dX1_fall_140 : decode cX1_fall 140 = .ok (.iconst 1, 1) := by decide +kernel
theorem dX1_fall_141 : decode cX1_fall 141 = .ok (.isub, 1) := by decide +kernel
theorem dX1_fall_142 : decode cX1_fall 142 = .ok (.istore_n 1, 1) := by decide +kernel
theorem dX1_fall_143 : decode cX1_fall 143 = .ok (.iload_n 1, 1) := by decide +kernel
theorem dX1_fall_144 : decode cX1_fall 144 = .ok (.ifCond .lt 31, 3) := by decide +kernel
theorem dX1_fall_147 : decode cX1_fall 147 = .ok (.aload_n 0, 1) := by decide +kernel
theorem dX1_fall_148 : decode cX1_fall 148 = .ok (.iload_n 1, 1) := by decide +kernel
theorem dX1_fall_149 : decode cX1_fall 149 = .ok (.invokevirtual 71, 3) := by decide +kernel
theorem dX1_fall_152 : decode cX1_fall 152 = .ok (.ifCond .ne 17, 3) := by decide +kernel
theorem dX1_fall_155 : decode cX1_fall 155 = .ok (.aload_n 0, 1) := by decide +kernel
theorem dX1_fall_156 : decode cX1_fall 156 = .ok (.dup, 1) := by decide +kernel
theorem dX1_fall_157 : decode cX1_fall 157 = .ok (.getfield 100, 3) := by decide +kernel
theorem dX1_fall_160 : decode cX1_fall 160 = .ok (.aload_n 0, 1) := by decide +kernel
theorem dX1_fall_161 : decode cX1_fall 161 = .ok (.iload_n 1, 1) := by decide +kernel
theorem dX1_fall_162 : decode cX1_fall 162 = .ok (.invokevirtual 103, 3) := by decide +kernel
theorem dX1_fall_165 : decode cX1_fall 165 = .ok (.iadd, 1) := by decide +kernel
theorem dX1_fall_166 : decode cX1_fall 166 = .ok (.putfield 100, 3) := by decide +kernel
theorem dX1_fall_169 : decode cX1_fall 169 = .ok (.iinc 1 (-1), 3) := by decide +kernel
theorem dX1_fall_172 : decode cX1_fall 172 = .ok (.goto (-29), 3) := by decide +kernel
theorem dX1_fall_175 : decode cX1_fall 175 = .ok (.return_, 1) := by decide +kernel
set_option maxRecDepth 20000 in
theorem ggX1_are_X1_is : GoodIn wsX1_are wsX1_is := goodIn_r _ [6, 7, 8, 9, 10, 11, 12, 13, 14, 15, 16, 17, 18, 19, 20, 21, 22, 23, 24] (by decide +kernel) (by decide +kernel)
set_option maxRecDepth 20000 in
theorem gX1_are_X1_is : GoodIn wsX1_are (wsV RX1 71 RX1 yX1_is wsX1_is) := goodIn_app (goodIn_of _ (by decide +kernel)) ggX1_are_X1_is
theorem dX1_are_0 : decode cX1_are 0 = .ok (.iconst 0, 1) := by decide +kernel
theorem dX1_are_1 : decode cX1_are 1 = .ok (.istore_n 2, 1) := by decide +kernel
theorem dX1_are_2 : decode cX1_are 2 = .ok (.iconst 0, 1) := by decide +kernel
theorem dX1_are_3 : decode cX1_are 3 = .ok (.istore_n 3, 1) := by decide +kernel
theorem dX1_are_4 : decode cX1_are 4 = .ok (.iload_n 3, 1) := by decide +kernel
theorem dX1_are_5 : decode cX1_are 5 = .ok (.aload_n 0, 1) := by decide +kernel
theorem dX1_are_6 : decode cX1_are 6 = .ok (.getfield 3, 3) := by decide +kernel
theorem dX1_are_9 : decode cX1_are 9 = .ok (.getfield 68, 3) := by decide +kernel
theorem dX1_are_12 : decode cX1_are 12 = .ok (.if_icmp .ge 26, 3) := by decide +kernel
theorem dX1_are_15 : decode cX1_are 15 = .ok (.iload_n 2, 1) := by decide +kernel
theorem dX1_are_16 : decode cX1_are 16 = .ok (.aload_n 0, 1) := by decide +kernel
theorem dX1_are_17 : decode cX1_are 17 = .ok (.iload_n 3, 1) := by decide +kernel
theorem dX1_are_18 : decode cX1_are 18 = .ok (.invokevirtual 71, 3) := by decide +kernel
theorem dX1_are_21 : decode cX1_are 21 = .ok (.iload_n 1, 1) := by decide +kernel
theorem dX1_are_22 : decode cX1_are 22 = .ok (.if_icmp .ne 7, 3) := by decide +kernel
theorem dX1_are_25 : decode cX1_are 25 = .ok (.iconst 1, 1) := by decide +kernel
theorem dX1_are_26 : decode cX1_are 26 = .ok (.goto 4, 3) := by decide +kernel
theorem dX1_are_29 : decode cX1_are 29 = .ok (.iconst 0, 1) := by decide +kernel
theorem dX1_are_30 : decode cX1_are 30 = .ok (.iadd, 1) := by decide +kernel
theorem dX1_are_31 : decode cX1_are 31 = .ok (.istore_n 2, 1) := by decide +kernel
theorem dX1_are_32 : decode cX1_are 32 = .ok (.iinc 3 1, 3) := by decide +kernel
theorem dX1_are_35 : decode cX1_are 35 = .ok (.goto (-31), 3) := by decide +kernel
theorem dX1_are_38 : decode cX1_are 38 = .ok (.iload_n 2, 1) := by decide +kernel
theorem dX1_are_39 : decode cX1_are 39 = .ok (.ireturn, 1) := by decide +kernel
theorem dX1_sum_0 : decode cX1_sum 0 = .ok (.iconst 0, 1) := by decide +kernel
theorem dX1_sum_1 : decode cX1_sum 1 = .ok (.istore_n 2, 1) := by decide +kernel
theorem dX1_sum_2 : decode cX1_sum 2 = .ok (.aload_n 1, 1) := by decide +kernel
theorem dX1_sum_3 : decode cX1_sum 3 = .ok (.astore_n 3, 1) := by decide +kernel
theorem dX1_sum_4 : decode cX1_sum 4 = .ok (.aload_n 3, 1) := by decide +kernel
theorem dX1_sum_5 : decode cX1_sum 5 = .ok (.arraylength, 1) := by decide +kernel
theorem dX1_sum_6 : decode cX1_sum 6 = .ok (.istore 4, 2) := by decide +kernel
theorem dX1_sum_8 : decode cX1_sum 8 = .ok (.iconst 0, 1) := by decide +kernel
theorem dX1_sum_9 : decode cX1_sum 9 = .ok (.istore 5, 2) := by decide +kernel
theorem dX1_sum_11 : decode cX1_sum 11 = .ok (.iload 5, 2) := by decide +kernel
theorem dX1_sum_13 : decode cX1_sum 13 = .ok (.iload 4, 2) := by decide +kernel
theorem dX1_sum_15 : decode cX1_sum 15 = .ok (.if_icmp .ge 20, 3) := by decide +kernel
theorem dX1_sum_18 : decode cX1_sum 18 = .ok (.aload_n 3, 1) := by decide +kernel
theorem dX1_sum_19 : decode cX1_sum 19 = .ok (.iload 5, 2) := by decide +kernel
theorem dX1_sum_21 : decode cX1_sum 21 = .ok (.iaload, 1) := by decide +kernel
theorem dX1_sum_22 : decode cX1_sum 22 = .ok (.istore 6, 2) := by decide +kernel
theorem dX1_sum_24 : decode cX1_sum 24 = .ok (.iload_n 2, 1) := by decide +kernel
theorem dX1_sum_25 : decode cX1_sum 25 = .ok (.iload 6, 2) := by decide +kernel
theorem dX1_sum_27 : decode cX1_sum 27 = .ok (.iadd, 1) := by decide +kernel
theorem dX1_sum_28 : decode cX1_sum 28 = .ok (.istore_n 2, 1) := by decide +kernel
theorem dX1_sum_29 : decode cX1_sum 29 = .ok (.iinc 5 1, 3) := by decide +kernel
theorem dX1_sum_32 : decode cX1_sum 32 = .ok (.goto (-21), 3) := by decide +kernel
theorem dX1_sum_35 : decode cX1_sum 35 = .ok (.iload_n 2, 1) := by decide +kernel
theorem dX1_sum_36 : decode cX1_sum 36 = .ok (.ireturn, 1) := by decide +kernel
set_option maxRecDepth 20000 in
theorem ggX2_init_X1_init : GoodIn wsX2_init wsX1_init := goodIn_r _ [11, 12, 13, 2, 3, 14, 15, 16, 17, 18, 19, 20, 21, 22, 23, 24, 25, 26, 27, 28, 29, 30, 31, 32, 33, 34, 35, 36, 37, 38] (by decide +kernel) (by decide +kernel)
set_option maxRecDepth 20000 in
theorem gX2_init_X1_init : GoodIn wsX2_init (wsX1_init) := ggX2_init_X1_init
theorem dX2_init_0 : decode cX2_init 0 = .ok (.aload_n 0, 1) := by decide +kernel
theorem dX2_init_1 : decode cX2_init 1 = .ok (.invokespecial 1, 3) := by decide +kernel
theorem dX2_init_4 : decode cX2_init 4 = .ok (.aload_n 0, 1) := by decide +kernel
theorem dX2_init_5 : decode cX2_init 5 = .ok (.new 7, 3) := by decide +kernel
theorem dX2_init_8 : decode cX2_init 8 = .ok (.dup, 1) := by decide +kernel
theorem dX2_init_9 : decode cX2_init 9 = .ok (.aload_n 0, 1) := by decide +kernel
theorem dX2_init_10 : decode cX2_init 10 = .ok (.invokespecial 9, 3) := by decide +kernel
theorem dX2_init_13 : decode cX2_init 13 = .ok (.putfield 12, 3) := by decide +kernel
theorem dX2_init_16 : decode cX2_init 16 = .ok (.aload_n 0, 1) := by decide +kernel
theorem dX2_init_17 : decode cX2_init 17 = .ok (.new 7, 3) := by decide +kernel
theorem dX2_init_20 : decode cX2_init 20 = .ok (.dup, 1) := by decide +kernel
theorem dX2_init_21 : decode cX2_init 21 = .ok (.aload_n 0, 1) := by decide +kernel
theorem dX2_init_22 : decode cX2_init 22 = .ok (.invokespecial 9, 3) := by decide +kernel
theorem dX2_init_25 : decode cX2_init 25 = .ok (.putfield 18, 3) := by decide +kernel
theorem dX2_init_28 : decode cX2_init 28 = .ok (.return_, 1) := by decide +kernel
theorem dX2_thrown_0 : decode cX2_thrown 0 = .ok (.aload_n 0, 1) := by decide +kernel
theorem dX2_thrown_1 : decode cX2_thrown 1 = .ok (.getfield 21, 3) := by decide +kernel
theorem dX2_thrown_4 : decode cX2_thrown 4 = .ok (.ireturn, 1) := by decide +kernel
theorem dX2_no_0 : decode cX2_no 0 = .ok (.aload_n 0, 1) := by decide +kernel
theorem dX2_no_1 : decode cX2_no 1 = .ok (.iload_n 1, 1) := by decide +kernel
theorem dX2_no_2 : decode cX2_no 2 = .ok (.putfield 21, 3) := by decide +kernel
theorem dX2_no_5 : decode cX2_no 5 = .ok (.iconst 0, 1) := by decide +kernel
theorem dX2_no_6 : decode cX2_no 6 = .ok (.ireturn, 1) := by decide +kernel
theorem dX2_isIn_0 : decode cX2_isIn 0 = .ok (.iload_n 0, 1) := by decide +kernel
theorem dX2_isIn_1 : decode cX2_isIn 1 = .ok (.iload_n 1, 1) := by decide +kernel
theorem dX2_isIn_2 : decode cX2_isIn 2 = .ok (.if_icmp .lt 12, 3) := by decide +kernel
theorem dX2_isIn_5 : decode cX2_isIn 5 = .ok (.iload_n 0, 1) := by decide +kernel
theorem dX2_isIn_6 : decode cX2_isIn 6 = .ok (.iload_n 2, 1) := by decide +kernel
theorem dX2_isIn_7 : decode cX2_isIn 7 = .ok (.if_icmp .gt 7, 3) := by decide +kernel
theorem dX2_isIn_10 : decode cX2_isIn 10 = .ok (.iconst 1, 1) := by decide +kernel
theorem dX2_isIn_11 : decode cX2_isIn 11 = .ok (.goto 4, 3) := by decide +kernel
theorem dX2_isIn_14 : decode cX2_isIn 14 = .ok (.iconst 0, 1) := by decide +kernel
theorem dX2_isIn_15 : decode cX2_isIn 15 = .ok (.ireturn, 1) := by decide +kernel
set_option maxRecDepth 20000 in
theorem ggX2_isPot_X2_isIn : GoodIn wsX2_isPot wsX2_isIn := goodIn_r _ [4] (by decide +kernel) (by decide +kernel)
set_option maxRecDepth 20000 in
theorem gX2_isPot_X2_isIn : GoodIn wsX2_isPot (va_wsS RX2 25 yX2_isIn wsX2_isIn) := goodIn_app (goodIn_of _ (by decide +kernel)) ggX2_isPot_X2_isIn
theorem dX2_isPot_0 : decode cX2_isPot 0 = .ok (.iload_n 0, 1) := by decide +kernel
theorem dX2_isPot_1 : decode cX2_isPot 1 = .ok (.iconst 0, 1) := by decide +kernel
theorem dX2_isPot_2 : decode cX2_isPot 2 = .ok (.bipush 7, 2) := by decide +kernel
theorem dX2_isPot_4 : decode cX2_isPot 4 = .ok (.invokestatic 25, 3) := by decide +kernel
theorem dX2_isPot_7 : decode cX2_isPot 7 = .ok (.ireturn, 1) := by decide +kernel
set_option maxRecDepth 20000 in
theorem ggX2_isDish_X2_isIn : GoodIn wsX2_isDish wsX2_isIn := goodIn_r _ [5] (by decide +kernel) (by decide +kernel)
set_option maxRecDepth 20000 in
theorem gX2_isDish_X2_isIn : GoodIn wsX2_isDish (va_wsS RX2 25 yX2_isIn wsX2_isIn) := goodIn_app (goodIn_of _ (by decide +kernel)) ggX2_isDish_X2_isIn
theorem dX2_isDish_0 : decode cX2_isDish 0 = .ok (.iload_n 1, 1) := by decide +kernel
theorem dX2_isDish_1 : decode cX2_isDish 1 = .ok (.iconst 0, 1) := by decide +kernel
theorem dX2_isDish_2 : decode cX2_isDish 2 = .ok (.aload_n 0, 1) := by decide +kernel
theorem dX2_isDish_3 : decode cX2_isDish 3 = .ok (.getfield 29, 3) := by decide +kernel
theorem dX2_isDish_6 : decode cX2_isDish 6 = .ok (.iconst 1, 1) := by decide +kernel
theorem dX2_isDish_7 : decode cX2_isDish 7 = .ok (.isub, 1) := by decide +kernel
theorem dX2_isDish_8 : decode cX2_isDish 8 = .ok (.invokestatic 25, 3) := by decide +kernel
theorem dX2_isDish_11 : decode cX2_isDish 11 = .ok (.ireturn, 1) := by decide +kernel
set_option maxRecDepth 20000 in
theorem ggX2_begin_X1_room : GoodIn wsX2_begin wsX1_room := goodIn_r _ [8, 9, 10, 11, 12, 13, 7, 14, 15, 16, 17, 18, 19, 20, 21, 22, 23, 24, 25, 26, 27, 28, 29, 47, 48, 49, 50, 51, 52, 53, 54, 55, 56, 57, 58, 59, 60, 61, 42, 43, 44, 45, 46] (by decide +kernel) (by decide +kernel)
set_option maxRecDepth 20000 in
theorem gX2_begin_X1_room : GoodIn wsX2_begin (wsV RX2 32 RX1 yX1_room wsX1_room) := goodIn_app (goodIn_of _ (by decide +kernel)) ggX2_begin_X1_room
set_option maxRecDepth 20000 in
theorem ggX2_begin_X2_no : GoodIn wsX2_begin wsX2_no := goodIn_r _ [34, 1, 42, 43, 44, 45, 46] (by decide +kernel) (by decide +kernel)
set_option maxRecDepth 20000 in
theorem gX2_begin_X2_no : GoodIn wsX2_begin (wsV RX2 36 RX2 yX2_no wsX2_no) := goodIn_app (goodIn_of _ (by decide +kernel)) ggX2_begin_X2_no
set_option maxRecDepth 20000 in
theorem ggX2_begin_X1_chalk : GoodIn wsX2_begin wsX1_chalk := goodIn_r _ [38, 15, 9, 16, 39, 40, 41, 29, 47, 48, 49, 50, 51, 52, 53, 54, 55, 56, 57, 58, 59, 60, 61] (by decide +kernel) (by decide +kernel)
set_option maxRecDepth 20000 in
theorem gX2_begin_X1_chalk : GoodIn wsX2_begin (wsV RX2 40 RX1 yX1_chalk wsX1_chalk) := goodIn_app (goodIn_of _ (by decide +kernel)) ggX2_begin_X1_chalk
theorem dX2_begin_0 : decode cX2_begin 0 = .ok (.aload_n 0, 1) := by decide +kernel
theorem dX2_begin_1 : decode cX2_begin 1 = .ok (.iconst 0, 1) := by decide +kernel
theorem dX2_begin_2 : decode cX2_begin 2 = .ok (.putfield 21, 3) := by decide +kernel
theorem dX2_begin_5 : decode cX2_begin 5 = .ok (.aload_n 0, 1) := by decide +kernel
theorem dX2_begin_6 : decode cX2_begin 6 = .ok (.getfield 29, 3) := by decide +kernel
theorem dX2_begin_9 : decode cX2_begin 9 = .ok (.bipush 20, 2) := by decide +kernel
theorem dX2_begin_11 : decode cX2_begin 11 = .ok (.if_icmp .eq 14, 3) := by decide +kernel
theorem dX2_begin_14 : decode cX2_begin 14 = .ok (.aload_n 0, 1) := by decide +kernel
theorem dX2_begin_15 : decode cX2_begin 15 = .ok (.getfield 12, 3) := by decide +kernel
theorem dX2_begin_18 : decode cX2_begin 18 = .ok (.invokevirtual 32, 3) := by decide +kernel
theorem dX2_begin_21 : decode cX2_begin 21 = .ok (.iconst 2, 1) := by decide +kernel
theorem dX2_begin_22 : decode cX2_begin 22 = .ok (.if_icmp .ge 9, 3) := by decide +kernel
theorem dX2_begin_25 : decode cX2_begin 25 = .ok (.aload_n 0, 1) := by decide +kernel
theorem dX2_begin_26 : decode cX2_begin 26 = .ok (.iconst 1, 1) := by decide +kernel
theorem dX2_begin_27 : decode cX2_begin 27 = .ok (.invokevirtual 36, 3) := by decide +kernel
theorem dX2_begin_30 : decode cX2_begin 30 = .ok (.ireturn, 1) := by decide +kernel
theorem dX2_begin_31 : decode cX2_begin 31 = .ok (.aload_n 0, 1) := by decide +kernel
theorem dX2_begin_32 : decode cX2_begin 32 = .ok (.getfield 12, 3) := by decide +kernel
theorem dX2_begin_35 : decode cX2_begin 35 = .ok (.aload_n 0, 1) := by decide +kernel
theorem dX2_begin_36 : decode cX2_begin 36 = .ok (.getfield 29, 3) := by decide +kernel
theorem dX2_begin_39 : decode cX2_begin 39 = .ok (.iconst 0, 1) := by decide +kernel
theorem dX2_begin_40 : decode cX2_begin 40 = .ok (.invokevirtual 40, 3) := by decide +kernel
theorem dX2_begin_43 : decode cX2_begin 43 = .ok (.aload_n 0, 1) := by decide +kernel
theorem dX2_begin_44 : decode cX2_begin 44 = .ok (.dup, 1) := by decide +kernel
theorem dX2_begin_45 : decode cX2_begin 45 = .ok (.getfield 29, 3) := by decide +kernel
theorem dX2_begin_48 : decode cX2_begin 48 = .ok (.iconst 1, 1) := by decide +kernel
theorem dX2_begin_49 : decode cX2_begin 49 = .ok (.iadd, 1) := by decide +kernel
theorem dX2_begin_50 : decode cX2_begin 50 = .ok (.putfield 29, 3) := by decide +kernel
theorem dX2_begin_53 : decode cX2_begin 53 = .ok (.aload_n 0, 1) := by decide +kernel
theorem dX2_begin_54 : decode cX2_begin 54 = .ok (.getfield 29, 3) := by decide +kernel
theorem dX2_begin_57 : decode cX2_begin 57 = .ok (.iconst 1, 1) := by decide +kernel
theorem dX2_begin_58 : decode cX2_begin 58 = .ok (.isub, 1) := by decide +kernel
theorem dX2_begin_59 : decode cX2_begin 59 = .ok (.ireturn, 1) := by decide +kernel
set_option maxRecDepth 20000 in
theorem ggX2_cook_X2_isDish : GoodIn wsX2_cook wsX2_isDish := goodIn_r _ [7, 8, 9, 10, 6, 11, 66, 67, 68, 69, 70] (by decide +kernel) (by decide +kernel)
set_option maxRecDepth 20000 in
theorem gX2_cook_X2_isDish : GoodIn wsX2_cook (wsV RX2 44 RX2 yX2_isDish wsX2_isDish) := goodIn_app (goodIn_of _ (by decide +kernel)) ggX2_cook_X2_isDish
set_option maxRecDepth 20000 in
theorem ggX2_cook_X2_isPot : GoodIn wsX2_cook wsX2_isPot := goodIn_r _ [14, 9, 10, 6, 11] (by decide +kernel) (by decide +kernel)
set_option maxRecDepth 20000 in
theorem gX2_cook_X2_isPot : GoodIn wsX2_cook (va_wsS RX2 48 yX2_isPot wsX2_isPot) := goodIn_app (goodIn_of _ (by decide +kernel)) ggX2_cook_X2_isPot
set_option maxRecDepth 20000 in
theorem ggX2_cook_X2_no : GoodIn wsX2_cook wsX2_no := goodIn_r _ [18, 1, 66, 67, 68, 69, 70] (by decide +kernel) (by decide +kernel)
set_option maxRecDepth 20000 in
theorem gX2_cook_X2_no : GoodIn wsX2_cook (wsV RX2 36 RX2 yX2_no wsX2_no) := goodIn_app (goodIn_of _ (by decide +kernel)) ggX2_cook_X2_no
set_option maxRecDepth 20000 in
theorem ggX2_cook_X2_isIn : GoodIn wsX2_cook wsX2_isIn := goodIn_r _ [11] (by decide +kernel) (by decide +kernel)
set_option maxRecDepth 20000 in
theorem gX2_cook_X2_isIn : GoodIn wsX2_cook (va_wsS RX2 25 yX2_isIn wsX2_isIn) := goodIn_app (goodIn_of _ (by decide +kernel)) ggX2_cook_X2_isIn
set_option maxRecDepth 20000 in
theorem ggX2_cook_X1_holder : GoodIn wsX2_cook wsX1_holder := goodIn_r _ [23, 24, 25, 26, 27, 22, 28, 29, 30, 31, 32, 33, 34, 35, 36, 71, 72, 73, 74, 75, 76, 77, 78, 79, 80, 81, 82, 83, 84, 85, 66, 67, 68, 69, 70] (by decide +kernel) (by decide +kernel)
set_option maxRecDepth 20000 in
theorem gX2_cook_X1_holder : GoodIn wsX2_cook (wsV RX2 51 RX1 yX1_holder wsX1_holder) := goodIn_app (goodIn_of _ (by decide +kernel)) ggX2_cook_X1_holder
set_option maxRecDepth 20000 in
theorem ggX2_cook_X1_is : GoodIn wsX2_cook wsX1_is := goodIn_r _ [36, 29, 30, 31, 71, 72, 73, 74, 75, 76, 77, 78, 79, 80, 81, 82, 83, 84, 85] (by decide +kernel) (by decide +kernel)
set_option maxRecDepth 20000 in
theorem gX2_cook_X1_is : GoodIn wsX2_cook (wsV RX2 54 RX1 yX1_is wsX1_is) := goodIn_app (goodIn_of _ (by decide +kernel)) ggX2_cook_X1_is
set_option maxRecDepth 20000 in
theorem ggX2_cook_X1_room : GoodIn wsX2_cook wsX1_room := goodIn_r _ [41, 29, 24, 33, 34, 35, 22, 36, 30, 31, 42, 43, 44, 45, 46, 47, 48, 49, 50, 51, 52, 53, 54, 71, 72, 73, 74, 75, 76, 77, 78, 79, 80, 81, 82, 83, 84, 85, 66, 67, 68, 69, 70] (by decide +kernel) (by decide +kernel)
set_option maxRecDepth 20000 in
theorem gX2_cook_X1_room : GoodIn wsX2_cook (wsV RX2 32 RX1 yX1_room wsX1_room) := goodIn_app (goodIn_of _ (by decide +kernel)) ggX2_cook_X1_room
set_option maxRecDepth 20000 in
theorem ggX2_cook_X1_chalk_ : GoodIn wsX2_cook wsX1_chalk_ := goodIn_r _ [58, 32, 29, 59, 60, 61, 54, 62, 63, 64, 22, 65, 30, 31, 71, 72, 73, 74, 75, 76, 77, 78, 79, 80, 81, 82, 83, 84, 85] (by decide +kernel) (by decide +kernel)
set_option maxRecDepth 20000 in
theorem gX2_cook_X1_chalk_ : GoodIn wsX2_cook (wsV RX2 61 RX1 yX1_chalk_ wsX1_chalk_) := goodIn_app (goodIn_of _ (by decide +kernel)) ggX2_cook_X1_chalk_
theorem dX2_cook_0 : decode cX2_cook 0 = .ok (.aload_n 0, 1) := by decide +kernel
theorem dX2_cook_1 : decode cX2_cook 1 = .ok (.iconst 0, 1) := by decide +kernel
theorem dX2_cook_2 : decode cX2_cook 2 = .ok (.putfield 21, 3) := by decide +kernel
theorem dX2_cook_5 : decode cX2_cook 5 = .ok (.aload_n 0, 1) := by decide +kernel
theorem dX2_cook_6 : decode cX2_cook 6 = .ok (.iload_n 1, 1) := by decide +kernel
theorem dX2_cook_7 : decode cX2_cook 7 = .ok (.invokevirtual 44, 3) := by decide +kernel
theorem dX2_cook_10 : decode cX2_cook 10 = .ok (.ifCond .eq 10, 3) := by decide +kernel
theorem dX2_cook_13 : decode cX2_cook 13 = .ok (.iload_n 2, 1) := by decide +kernel
theorem dX2_cook_14 : decode cX2_cook 14 = .ok (.invokestatic 48, 3) := by decide +kernel
theorem dX2_cook_17 : decode cX2_cook 17 = .ok (.ifCond .ne 9, 3) := by decide +kernel
theorem dX2_cook_20 : decode cX2_cook 20 = .ok (.aload_n 0, 1) := by decide +kernel
theorem dX2_cook_21 : decode cX2_cook 21 = .ok (.iconst 1, 1) := by decide +kernel
theorem dX2_cook_22 : decode cX2_cook 22 = .ok (.invokevirtual 36, 3) := by decide +kernel
theorem dX2_cook_25 : decode cX2_cook 25 = .ok (.ireturn, 1) := by decide +kernel
theorem dX2_cook_26 : decode cX2_cook 26 = .ok (.iload_n 3, 1) := by decide +kernel
theorem dX2_cook_27 : decode cX2_cook 27 = .ok (.iconst 0, 1) := by decide +kernel
theorem dX2_cook_28 : decode cX2_cook 28 = .ok (.sipush 999, 3) := by decide +kernel
theorem dX2_cook_31 : decode cX2_cook 31 = .ok (.invokestatic 25, 3) := by decide +kernel
theorem dX2_cook_34 : decode cX2_cook 34 = .ok (.ifCond .ne 9, 3) := by decide +kernel
theorem dX2_cook_37 : decode cX2_cook 37 = .ok (.aload_n 0, 1) := by decide +kernel
theorem dX2_cook_38 : decode cX2_cook 38 = .ok (.iconst 2, 1) := by decide +kernel
theorem dX2_cook_39 : decode cX2_cook 39 = .ok (.invokevirtual 36, 3) := by decide +kernel
theorem dX2_cook_42 : decode cX2_cook 42 = .ok (.ireturn, 1) := by decide +kernel
theorem dX2_cook_43 : decode cX2_cook 43 = .ok (.aload_n 0, 1) := by decide +kernel
theorem dX2_cook_44 : decode cX2_cook 44 = .ok (.getfield 12, 3) := by decide +kernel
theorem dX2_cook_47 : decode cX2_cook 47 = .ok (.iload_n 2, 1) := by decide +kernel
theorem dX2_cook_48 : decode cX2_cook 48 = .ok (.invokevirtual 51, 3) := by decide +kernel
theorem dX2_cook_51 : decode cX2_cook 51 = .ok (.istore 4, 2) := by decide +kernel
theorem dX2_cook_53 : decode cX2_cook 53 = .ok (.aload_n 0, 1) := by decide +kernel
theorem dX2_cook_54 : decode cX2_cook 54 = .ok (.getfield 12, 3) := by decide +kernel
theorem dX2_cook_57 : decode cX2_cook 57 = .ok (.iload_n 1, 1) := by decide +kernel
theorem dX2_cook_58 : decode cX2_cook 58 = .ok (.invokevirtual 54, 3) := by decide +kernel
theorem dX2_cook_61 : decode cX2_cook 61 = .ok (.ifCond .ne 26, 3) := by decide +kernel
theorem dX2_cook_64 : decode cX2_cook 64 = .ok (.iload 4, 2) := by decide +kernel
theorem dX2_cook_66 : decode cX2_cook 66 = .ok (.iconst (-1), 1) := by decide +kernel
theorem dX2_cook_67 : decode cX2_cook 67 = .ok (.if_icmp .eq 9, 3) := by decide +kernel
theorem dX2_cook_70 : decode cX2_cook 70 = .ok (.iload 4, 2) := by decide +kernel
theorem dX2_cook_72 : decode cX2_cook 72 = .ok (.iload_n 1, 1) := by decide +kernel
theorem dX2_cook_73 : decode cX2_cook 73 = .ok (.if_icmp .ne 14, 3) := by decide +kernel
theorem dX2_cook_76 : decode cX2_cook 76 = .ok (.aload_n 0, 1) := by decide +kernel
theorem dX2_cook_77 : decode cX2_cook 77 = .ok (.getfield 12, 3) := by decide +kernel
theorem dX2_cook_80 : decode cX2_cook 80 = .ok (.invokevirtual 32, 3) := by decide +kernel
theorem dX2_cook_83 : decode cX2_cook 83 = .ok (.iconst 2, 1) := by decide +kernel
theorem dX2_cook_84 : decode cX2_cook 84 = .ok (.if_icmp .ge 9, 3) := by decide +kernel
theorem dX2_cook_87 : decode cX2_cook 87 = .ok (.aload_n 0, 1) := by decide +kernel
theorem dX2_cook_88 : decode cX2_cook 88 = .ok (.iconst 3, 1) := by decide +kernel
theorem dX2_cook_89 : decode cX2_cook 89 = .ok (.invokevirtual 36, 3) := by decide +kernel
theorem dX2_cook_92 : decode cX2_cook 92 = .ok (.ireturn, 1) := by decide +kernel
theorem dX2_cook_93 : decode cX2_cook 93 = .ok (.aload_n 0, 1) := by decide +kernel
theorem dX2_cook_94 : decode cX2_cook 94 = .ok (.getfield 12, 3) := by decide +kernel
theorem dX2_cook_97 : decode cX2_cook 97 = .ok (.getfield 57, 3) := by decide +kernel
theorem dX2_cook_100 : decode cX2_cook 100 = .ok (.iload_n 2, 1) := by decide +kernel
theorem dX2_cook_101 : decode cX2_cook 101 = .ok (.iaload, 1) := by decide +kernel
theorem dX2_cook_102 : decode cX2_cook 102 = .ok (.istore 5, 2) := by decide +kernel
theorem dX2_cook_104 : decode cX2_cook 104 = .ok (.aload_n 0, 1) := by decide +kernel
theorem dX2_cook_105 : decode cX2_cook 105 = .ok (.getfield 12, 3) := by decide +kernel
theorem dX2_cook_108 : decode cX2_cook 108 = .ok (.iload_n 1, 1) := by decide +kernel
theorem dX2_cook_109 : decode cX2_cook 109 = .ok (.iconst 1, 1) := by decide +kernel
theorem dX2_cook_110 : decode cX2_cook 110 = .ok (.iload_n 2, 1) := by decide +kernel
theorem dX2_cook_111 : decode cX2_cook 111 = .ok (.iload_n 3, 1) := by decide +kernel
theorem dX2_cook_112 : decode cX2_cook 112 = .ok (.iconst (-1), 1) := by decide +kernel
theorem dX2_cook_113 : decode cX2_cook 113 = .ok (.invokevirtual 61, 3) := by decide +kernel
theorem dX2_cook_116 : decode cX2_cook 116 = .ok (.iload 5, 2) := by decide +kernel
theorem dX2_cook_118 : decode cX2_cook 118 = .ok (.ireturn, 1) := by decide +kernel
set_option maxRecDepth 20000 in
theorem ggX2_finish_X2_isDish : GoodIn wsX2_finish wsX2_isDish := goodIn_r _ [7, 8, 9, 10, 6, 11, 41, 42, 43, 44, 45] (by decide +kernel) (by decide +kernel)
set_option maxRecDepth 20000 in
theorem gX2_finish_X2_isDish : GoodIn wsX2_finish (wsV RX2 44 RX2 yX2_isDish wsX2_isDish) := goodIn_app (goodIn_of _ (by decide +kernel)) ggX2_finish_X2_isDish
set_option maxRecDepth 20000 in
theorem ggX2_finish_X2_no : GoodIn wsX2_finish wsX2_no := goodIn_r _ [15, 1, 41, 42, 43, 44, 45] (by decide +kernel) (by decide +kernel)
set_option maxRecDepth 20000 in
theorem gX2_finish_X2_no : GoodIn wsX2_finish (wsV RX2 36 RX2 yX2_no wsX2_no) := goodIn_app (goodIn_of _ (by decide +kernel)) ggX2_finish_X2_no
set_option maxRecDepth 20000 in
theorem ggX2_finish_X1_is : GoodIn wsX2_finish wsX1_is := goodIn_r _ [20, 21, 22, 23, 46, 47, 48, 49, 50, 51, 52, 53, 54, 55, 56, 57, 58, 59, 60] (by decide +kernel) (by decide +kernel)
set_option maxRecDepth 20000 in
theorem gX2_finish_X1_is : GoodIn wsX2_finish (wsV RX2 54 RX1 yX1_is wsX1_is) := goodIn_app (goodIn_of _ (by decide +kernel)) ggX2_finish_X1_is
set_option maxRecDepth 20000 in
theorem ggX2_finish_X1_chalk : GoodIn wsX2_finish wsX1_chalk := goodIn_r _ [27, 22, 21, 23, 28, 29, 30, 31, 46, 47, 48, 49, 50, 51, 52, 53, 54, 55, 56, 57, 58, 59, 60] (by decide +kernel) (by decide +kernel)
set_option maxRecDepth 20000 in
theorem gX2_finish_X1_chalk : GoodIn wsX2_finish (wsV RX2 40 RX1 yX1_chalk wsX1_chalk) := goodIn_app (goodIn_of _ (by decide +kernel)) ggX2_finish_X1_chalk
set_option maxRecDepth 20000 in
theorem ggX2_finish_X1_dries : GoodIn wsX2_finish wsX1_dries := goodIn_r _ [35, 36, 37, 38, 39, 40, 46, 47, 48, 49, 50, 51, 52, 53, 54, 55, 56, 57, 58, 59, 60] (by decide +kernel) (by decide +kernel)
set_option maxRecDepth 20000 in
theorem gX2_finish_X1_dries : GoodIn wsX2_finish (wsV RX2 67 RX1 yX1_dries wsX1_dries) := goodIn_app (goodIn_of _ (by decide +kernel)) ggX2_finish_X1_dries
theorem dX2_finish_0 : decode cX2_finish 0 = .ok (.aload_n 0, 1) := by decide +kernel
theorem dX2_finish_1 : decode cX2_finish 1 = .ok (.iconst 0, 1) := by decide +kernel
theorem dX2_finish_2 : decode cX2_finish 2 = .ok (.putfield 21, 3) := by decide +kernel
theorem dX2_finish_5 : decode cX2_finish 5 = .ok (.aload_n 0, 1) := by decide +kernel
theorem dX2_finish_6 : decode cX2_finish 6 = .ok (.iload_n 1, 1) := by decide +kernel
theorem dX2_finish_7 : decode cX2_finish 7 = .ok (.invokevirtual 44, 3) := by decide +kernel
theorem dX2_finish_10 : decode cX2_finish 10 = .ok (.ifCond .ne 9, 3) := by decide +kernel
theorem dX2_finish_13 : decode cX2_finish 13 = .ok (.aload_n 0, 1) := by decide +kernel
theorem dX2_finish_14 : decode cX2_finish 14 = .ok (.iconst 1, 1) := by decide +kernel
theorem dX2_finish_15 : decode cX2_finish 15 = .ok (.invokevirtual 36, 3) := by decide +kernel
theorem dX2_finish_18 : decode cX2_finish 18 = .ok (.ireturn, 1) := by decide +kernel
theorem dX2_finish_19 : decode cX2_finish 19 = .ok (.aload_n 0, 1) := by decide +kernel
theorem dX2_finish_20 : decode cX2_finish 20 = .ok (.getfield 12, 3) := by decide +kernel
theorem dX2_finish_23 : decode cX2_finish 23 = .ok (.iload_n 1, 1) := by decide +kernel
theorem dX2_finish_24 : decode cX2_finish 24 = .ok (.invokevirtual 54, 3) := by decide +kernel
theorem dX2_finish_27 : decode cX2_finish 27 = .ok (.ifCond .eq 9, 3) := by decide +kernel
theorem dX2_finish_30 : decode cX2_finish 30 = .ok (.aload_n 0, 1) := by decide +kernel
theorem dX2_finish_31 : decode cX2_finish 31 = .ok (.iconst 2, 1) := by decide +kernel
theorem dX2_finish_32 : decode cX2_finish 32 = .ok (.invokevirtual 36, 3) := by decide +kernel
theorem dX2_finish_35 : decode cX2_finish 35 = .ok (.ireturn, 1) := by decide +kernel
theorem dX2_finish_36 : decode cX2_finish 36 = .ok (.aload_n 0, 1) := by decide +kernel
theorem dX2_finish_37 : decode cX2_finish 37 = .ok (.getfield 12, 3) := by decide +kernel
theorem dX2_finish_40 : decode cX2_finish 40 = .ok (.iload_n 1, 1) := by decide +kernel
theorem dX2_finish_41 : decode cX2_finish 41 = .ok (.iconst 2, 1) := by decide +kernel
theorem dX2_finish_42 : decode cX2_finish 42 = .ok (.invokevirtual 40, 3) := by decide +kernel
theorem dX2_finish_45 : decode cX2_finish 45 = .ok (.aload_n 0, 1) := by decide +kernel
theorem dX2_finish_46 : decode cX2_finish 46 = .ok (.getfield 12, 3) := by decide +kernel
theorem dX2_finish_49 : decode cX2_finish 49 = .ok (.aload_n 0, 1) := by decide +kernel
theorem dX2_finish_50 : decode cX2_finish 50 = .ok (.getfield 12, 3) := by decide +kernel
theorem dX2_finish_53 : decode cX2_finish 53 = .ok (.getfield 64, 3) := by decide +kernel
theorem dX2_finish_56 : decode cX2_finish 56 = .ok (.iconst 1, 1) := by decide +kernel
theorem dX2_finish_57 : decode cX2_finish 57 = .ok (.isub, 1) := by decide +kernel
theorem dX2_finish_58 : decode cX2_finish 58 = .ok (.invokevirtual 67, 3) := by decide +kernel
theorem dX2_finish_61 : decode cX2_finish 61 = .ok (.ireturn, 1) := by decide +kernel
set_option maxRecDepth 20000 in
theorem ggX2_drop_X2_isDish : GoodIn wsX2_drop wsX2_isDish := goodIn_r _ [7, 8, 9, 10, 6, 11, 49, 50, 51, 52, 53] (by decide +kernel) (by decide +kernel)
set_option maxRecDepth 20000 in
theorem gX2_drop_X2_isDish : GoodIn wsX2_drop (wsV RX2 44 RX2 yX2_isDish wsX2_isDish) := goodIn_app (goodIn_of _ (by decide +kernel)) ggX2_drop_X2_isDish
set_option maxRecDepth 20000 in
theorem ggX2_drop_X2_no : GoodIn wsX2_drop wsX2_no := goodIn_r _ [15, 1, 49, 50, 51, 52, 53] (by decide +kernel) (by decide +kernel)
set_option maxRecDepth 20000 in
theorem gX2_drop_X2_no : GoodIn wsX2_drop (wsV RX2 36 RX2 yX2_no wsX2_no) := goodIn_app (goodIn_of _ (by decide +kernel)) ggX2_drop_X2_no
set_option maxRecDepth 20000 in
theorem ggX2_drop_X1_is : GoodIn wsX2_drop wsX1_is := goodIn_r _ [20, 21, 22, 23, 54, 55, 56, 57, 58, 59, 60, 61, 62, 63, 64, 65, 66, 67, 68] (by decide +kernel) (by decide +kernel)
set_option maxRecDepth 20000 in
theorem gX2_drop_X1_is : GoodIn wsX2_drop (wsV RX2 54 RX1 yX1_is wsX1_is) := goodIn_app (goodIn_of _ (by decide +kernel)) ggX2_drop_X1_is
set_option maxRecDepth 20000 in
theorem ggX2_drop_X1_undo : GoodIn wsX2_drop wsX1_undo := goodIn_r _ [27, 21, 28, 29, 30, 31, 32, 19, 33, 22, 23, 34, 35, 36, 37, 38, 39, 40, 41, 42, 43, 44, 45, 46, 47, 48, 54, 55, 56, 57, 58, 59, 60, 61, 62, 63, 64, 65, 66, 67, 68] (by decide +kernel) (by decide +kernel)
set_option maxRecDepth 20000 in
theorem gX2_drop_X1_undo : GoodIn wsX2_drop (wsV RX2 70 RX1 yX1_undo wsX1_undo) := goodIn_app (goodIn_of _ (by decide +kernel)) ggX2_drop_X1_undo
theorem dX2_drop_0 : decode cX2_drop 0 = .ok (.aload_n 0, 1) := by decide +kernel
theorem dX2_drop_1 : decode cX2_drop 1 = .ok (.iconst 0, 1) := by decide +kernel
theorem dX2_drop_2 : decode cX2_drop 2 = .ok (.putfield 21, 3) := by decide +kernel
theorem dX2_drop_5 : decode cX2_drop 5 = .ok (.aload_n 0, 1) := by decide +kernel
theorem dX2_drop_6 : decode cX2_drop 6 = .ok (.iload_n 1, 1) := by decide +kernel
theorem dX2_drop_7 : decode cX2_drop 7 = .ok (.invokevirtual 44, 3) := by decide +kernel
theorem dX2_drop_10 : decode cX2_drop 10 = .ok (.ifCond .ne 9, 3) := by decide +kernel
theorem dX2_drop_13 : decode cX2_drop 13 = .ok (.aload_n 0, 1) := by decide +kernel
theorem dX2_drop_14 : decode cX2_drop 14 = .ok (.iconst 1, 1) := by decide +kernel
theorem dX2_drop_15 : decode cX2_drop 15 = .ok (.invokevirtual 36, 3) := by decide +kernel
theorem dX2_drop_18 : decode cX2_drop 18 = .ok (.ireturn, 1) := by decide +kernel
theorem dX2_drop_19 : decode cX2_drop 19 = .ok (.aload_n 0, 1) := by decide +kernel
theorem dX2_drop_20 : decode cX2_drop 20 = .ok (.getfield 12, 3) := by decide +kernel
theorem dX2_drop_23 : decode cX2_drop 23 = .ok (.iload_n 1, 1) := by decide +kernel
theorem dX2_drop_24 : decode cX2_drop 24 = .ok (.invokevirtual 54, 3) := by decide +kernel
theorem dX2_drop_27 : decode cX2_drop 27 = .ok (.ifCond .ne 14, 3) := by decide +kernel
theorem dX2_drop_30 : decode cX2_drop 30 = .ok (.aload_n 0, 1) := by decide +kernel
theorem dX2_drop_31 : decode cX2_drop 31 = .ok (.getfield 12, 3) := by decide +kernel
theorem dX2_drop_34 : decode cX2_drop 34 = .ok (.iload_n 1, 1) := by decide +kernel
theorem dX2_drop_35 : decode cX2_drop 35 = .ok (.invokevirtual 70, 3) := by decide +kernel
theorem dX2_drop_38 : decode cX2_drop 38 = .ok (.goto 8, 3) := by decide +kernel
theorem dX2_drop_41 : decode cX2_drop 41 = .ok (.aload_n 0, 1) := by decide +kernel
theorem dX2_drop_42 : decode cX2_drop 42 = .ok (.iconst 2, 1) := by decide +kernel
theorem dX2_drop_43 : decode cX2_drop 43 = .ok (.invokevirtual 36, 3) := by decide +kernel
theorem dX2_drop_46 : decode cX2_drop 46 = .ok (.ireturn, 1) := by decide +kernel
set_option maxRecDepth 20000 in
theorem ggX2_shelve_X2_isPot : GoodIn wsX2_shelve wsX2_isPot := goodIn_r _ [6, 7, 8, 5, 9] (by decide +kernel) (by decide +kernel)
set_option maxRecDepth 20000 in
theorem gX2_shelve_X2_isPot : GoodIn wsX2_shelve (va_wsS RX2 48 yX2_isPot wsX2_isPot) := goodIn_app (goodIn_of _ (by decide +kernel)) ggX2_shelve_X2_isPot
set_option maxRecDepth 20000 in
theorem ggX2_shelve_X2_no : GoodIn wsX2_shelve wsX2_no := goodIn_r _ [13, 1, 30, 31, 32, 33, 34] (by decide +kernel) (by decide +kernel)
set_option maxRecDepth 20000 in
theorem gX2_shelve_X2_no : GoodIn wsX2_shelve (wsV RX2 36 RX2 yX2_no wsX2_no) := goodIn_app (goodIn_of _ (by decide +kernel)) ggX2_shelve_X2_no
set_option maxRecDepth 20000 in
theorem ggX2_shelve_X1_latest : GoodIn wsX2_shelve wsX1_latest := goodIn_r _ [18, 19, 20, 35, 36, 37, 38, 39, 40, 41, 42, 43, 44, 45, 46, 47, 48, 49] (by decide +kernel) (by decide +kernel)
set_option maxRecDepth 20000 in
theorem gX2_shelve_X1_latest : GoodIn wsX2_shelve (wsV RX2 73 RX1 yX1_latest wsX1_latest) := goodIn_app (goodIn_of _ (by decide +kernel)) ggX2_shelve_X1_latest
set_option maxRecDepth 20000 in
theorem ggX2_shelve_X1_dries : GoodIn wsX2_shelve wsX1_dries := goodIn_r _ [24, 25, 26, 27, 28, 29, 35, 36, 37, 38, 39, 40, 41, 42, 43, 44, 45, 46, 47, 48, 49] (by decide +kernel) (by decide +kernel)
set_option maxRecDepth 20000 in
theorem gX2_shelve_X1_dries : GoodIn wsX2_shelve (wsV RX2 67 RX1 yX1_dries wsX1_dries) := goodIn_app (goodIn_of _ (by decide +kernel)) ggX2_shelve_X1_dries
theorem dX2_shelve_0 : decode cX2_shelve 0 = .ok (.aload_n 0, 1) := by decide +kernel
theorem dX2_shelve_1 : decode cX2_shelve 1 = .ok (.iconst 0, 1) := by decide +kernel
theorem dX2_shelve_2 : decode cX2_shelve 2 = .ok (.putfield 21, 3) := by decide +kernel
theorem dX2_shelve_5 : decode cX2_shelve 5 = .ok (.iload_n 1, 1) := by decide +kernel
theorem dX2_shelve_6 : decode cX2_shelve 6 = .ok (.invokestatic 48, 3) := by decide +kernel
theorem dX2_shelve_9 : decode cX2_shelve 9 = .ok (.ifCond .ne 9, 3) := by decide +kernel
theorem dX2_shelve_12 : decode cX2_shelve 12 = .ok (.aload_n 0, 1) := by decide +kernel
theorem dX2_shelve_13 : decode cX2_shelve 13 = .ok (.iconst 1, 1) := by decide +kernel
theorem dX2_shelve_14 : decode cX2_shelve 14 = .ok (.invokevirtual 36, 3) := by decide +kernel
theorem dX2_shelve_17 : decode cX2_shelve 17 = .ok (.ireturn, 1) := by decide +kernel
theorem dX2_shelve_18 : decode cX2_shelve 18 = .ok (.aload_n 0, 1) := by decide +kernel
theorem dX2_shelve_19 : decode cX2_shelve 19 = .ok (.getfield 12, 3) := by decide +kernel
theorem dX2_shelve_22 : decode cX2_shelve 22 = .ok (.iload_n 1, 1) := by decide +kernel
theorem dX2_shelve_23 : decode cX2_shelve 23 = .ok (.invokevirtual 73, 3) := by decide +kernel
theorem dX2_shelve_26 : decode cX2_shelve 26 = .ok (.istore_n 2, 1) := by decide +kernel
theorem dX2_shelve_27 : decode cX2_shelve 27 = .ok (.aload_n 0, 1) := by decide +kernel
theorem dX2_shelve_28 : decode cX2_shelve 28 = .ok (.getfield 12, 3) := by decide +kernel
theorem dX2_shelve_31 : decode cX2_shelve 31 = .ok (.getfield 76, 3) := by decide +kernel
theorem dX2_shelve_34 : decode cX2_shelve 34 = .ok (.iload_n 1, 1) := by decide +kernel
theorem dX2_shelve_35 : decode cX2_shelve 35 = .ok (.aload_n 0, 1) := by decide +kernel
theorem dX2_shelve_36 : decode cX2_shelve 36 = .ok (.getfield 12, 3) := by decide +kernel
theorem dX2_shelve_39 : decode cX2_shelve 39 = .ok (.getfield 57, 3) := by decide +kernel
theorem dX2_shelve_42 : decode cX2_shelve 42 = .ok (.iload_n 1, 1) := by decide +kernel
theorem dX2_shelve_43 : decode cX2_shelve 43 = .ok (.iaload, 1) := by decide +kernel
theorem dX2_shelve_44 : decode cX2_shelve 44 = .ok (.iastore, 1) := by decide +kernel
theorem dX2_shelve_45 : decode cX2_shelve 45 = .ok (.aload_n 0, 1) := by decide +kernel
theorem dX2_shelve_46 : decode cX2_shelve 46 = .ok (.getfield 12, 3) := by decide +kernel
theorem dX2_shelve_49 : decode cX2_shelve 49 = .ok (.getfield 79, 3) := by decide +kernel
theorem dX2_shelve_52 : decode cX2_shelve 52 = .ok (.iload_n 1, 1) := by decide +kernel
theorem dX2_shelve_53 : decode cX2_shelve 53 = .ok (.iload_n 2, 1) := by decide +kernel
theorem dX2_shelve_54 : decode cX2_shelve 54 = .ok (.iastore, 1) := by decide +kernel
theorem dX2_shelve_55 : decode cX2_shelve 55 = .ok (.aload_n 0, 1) := by decide +kernel
theorem dX2_shelve_56 : decode cX2_shelve 56 = .ok (.getfield 12, 3) := by decide +kernel
theorem dX2_shelve_59 : decode cX2_shelve 59 = .ok (.iload_n 2, 1) := by decide +kernel
theorem dX2_shelve_60 : decode cX2_shelve 60 = .ok (.invokevirtual 67, 3) := by decide +kernel
theorem dX2_shelve_63 : decode cX2_shelve 63 = .ok (.ireturn, 1) := by decide +kernel
set_option maxRecDepth 20000 in
theorem ggX2_blow_X1_dries : GoodIn wsX2_blow wsX1_dries := goodIn_r _ [7, 8, 9, 10, 11, 12, 18, 19, 20, 21, 22, 23, 24, 25, 26, 27, 28, 29, 30, 31, 32] (by decide +kernel) (by decide +kernel)
set_option maxRecDepth 20000 in
theorem gX2_blow_X1_dries : GoodIn wsX2_blow (wsV RX2 67 RX1 yX1_dries wsX1_dries) := goodIn_app (goodIn_of _ (by decide +kernel)) ggX2_blow_X1_dries
theorem dX2_blow_0 : decode cX2_blow 0 = .ok (.aload_n 0, 1) := by decide +kernel
theorem dX2_blow_1 : decode cX2_blow 1 = .ok (.iconst 0, 1) := by decide +kernel
theorem dX2_blow_2 : decode cX2_blow 2 = .ok (.putfield 21, 3) := by decide +kernel
theorem dX2_blow_5 : decode cX2_blow 5 = .ok (.aload_n 0, 1) := by decide +kernel
theorem dX2_blow_6 : decode cX2_blow 6 = .ok (.getfield 12, 3) := by decide +kernel
theorem dX2_blow_9 : decode cX2_blow 9 = .ok (.aload_n 0, 1) := by decide +kernel
theorem dX2_blow_10 : decode cX2_blow 10 = .ok (.getfield 12, 3) := by decide +kernel
theorem dX2_blow_13 : decode cX2_blow 13 = .ok (.getfield 64, 3) := by decide +kernel
theorem dX2_blow_16 : decode cX2_blow 16 = .ok (.iconst 1, 1) := by decide +kernel
theorem dX2_blow_17 : decode cX2_blow 17 = .ok (.isub, 1) := by decide +kernel
theorem dX2_blow_18 : decode cX2_blow 18 = .ok (.invokevirtual 67, 3) := by decide +kernel
theorem dX2_blow_21 : decode cX2_blow 21 = .ok (.ireturn, 1) := by decide +kernel
set_option maxRecDepth 20000 in
theorem ggX2_fall_X1_fall : GoodIn wsX2_fall wsX1_fall := goodIn_r _ [8, 9, 10, 11, 12, 13, 14, 15, 16, 17, 18, 19, 20, 21, 22, 7, 23, 24, 25, 26, 27, 28, 29, 30, 31, 32, 33, 34, 35, 36, 37, 38, 39, 40, 41, 42, 43, 44, 45, 46, 47, 53, 54, 55, 56, 57, 58, 59, 60, 61, 62, 63, 64, 65, 66, 67, 48, 49, 50, 51, 52] (by decide +kernel) (by decide +kernel)
set_option maxRecDepth 20000 in
theorem gX2_fall_X1_fall : GoodIn wsX2_fall (wsV RX2 82 RX1 yX1_fall wsX1_fall) := goodIn_app (goodIn_of _ (by decide +kernel)) ggX2_fall_X1_fall
theorem dX2_fall_0 : decode cX2_fall 0 = .ok (.aload_n 0, 1) := by decide +kernel
theorem dX2_fall_1 : decode cX2_fall 1 = .ok (.iconst 0, 1) := by decide +kernel
theorem dX2_fall_2 : decode cX2_fall 2 = .ok (.putfield 21, 3) := by decide +kernel
theorem dX2_fall_5 : decode cX2_fall 5 = .ok (.aload_n 0, 1) := by decide +kernel
theorem dX2_fall_6 : decode cX2_fall 6 = .ok (.getfield 12, 3) := by decide +kernel
theorem dX2_fall_9 : decode cX2_fall 9 = .ok (.invokevirtual 82, 3) := by decide +kernel
theorem dX2_fall_12 : decode cX2_fall 12 = .ok (.aload_n 0, 1) := by decide +kernel
theorem dX2_fall_13 : decode cX2_fall 13 = .ok (.dup, 1) := by decide +kernel
theorem dX2_fall_14 : decode cX2_fall 14 = .ok (.getfield 85, 3) := by decide +kernel
theorem dX2_fall_17 : decode cX2_fall 17 = .ok (.iconst 1, 1) := by decide +kernel
theorem dX2_fall_18 : decode cX2_fall 18 = .ok (.iadd, 1) := by decide +kernel
theorem dX2_fall_19 : decode cX2_fall 19 = .ok (.putfield 85, 3) := by decide +kernel
theorem dX2_fall_22 : decode cX2_fall 22 = .ok (.aload_n 0, 1) := by decide +kernel
theorem dX2_fall_23 : decode cX2_fall 23 = .ok (.getfield 12, 3) := by decide +kernel
theorem dX2_fall_26 : decode cX2_fall 26 = .ok (.getfield 88, 3) := by decide +kernel
theorem dX2_fall_29 : decode cX2_fall 29 = .ok (.ireturn, 1) := by decide +kernel
set_option maxRecDepth 20000 in
theorem ggX2_potTold_X1_holder : GoodIn wsX2_potTold wsX1_holder := goodIn_r _ [7, 8, 9, 10, 11, 6, 12, 13, 14, 15, 16, 17, 18, 19, 20, 30, 31, 32, 33, 34, 35, 36, 37, 38, 39, 40, 41, 42, 43, 44, 25, 26, 27, 28, 29] (by decide +kernel) (by decide +kernel)
set_option maxRecDepth 20000 in
theorem gX2_potTold_X1_holder : GoodIn wsX2_potTold (wsV RX2 51 RX1 yX1_holder wsX1_holder) := goodIn_app (goodIn_of _ (by decide +kernel)) ggX2_potTold_X1_holder
set_option maxRecDepth 20000 in
theorem ggX2_potTold_X1_latest : GoodIn wsX2_potTold wsX1_latest := goodIn_r _ [24, 13, 16, 30, 31, 32, 33, 34, 35, 36, 37, 38, 39, 40, 41, 42, 43, 44] (by decide +kernel) (by decide +kernel)
set_option maxRecDepth 20000 in
theorem gX2_potTold_X1_latest : GoodIn wsX2_potTold (wsV RX2 73 RX1 yX1_latest wsX1_latest) := goodIn_app (goodIn_of _ (by decide +kernel)) ggX2_potTold_X1_latest
theorem dX2_potTold_0 : decode cX2_potTold 0 = .ok (.iconst 5, 1) := by decide +kernel
theorem dX2_potTold_1 : decode cX2_potTold 1 = .ok (.newarray .int, 2) := by decide +kernel
end
section
theorem dX2_potTold_3 : decode cX2_potTold 3 = .ok (.dup, 1) := by decide +kernel
theorem dX2_potTold_4 : decode cX2_potTold 4 = .ok (.iconst 0, 1) := by decide +kernel
theorem dX2_potTold_5 : decode cX2_potTold 5 = .ok (.aload_n 0, 1) := by decide +kernel
theorem dX2_potTold_6 : decode cX2_potTold 6 = .ok (.getfield 12, 3) := by decide +kernel
theorem dX2_potTold_9 : decode cX2_potTold 9 = .ok (.getfield 57, 3) := by decide +kernel
theorem dX2_potTold_12 : decode cX2_potTold 12 = .ok (.iload_n 1, 1) := by decide +kernel
theorem dX2_potTold_13 : decode cX2_potTold 13 = .ok (.iaload, 1) := by decide +kernel
theorem dX2_potTold_14 : decode cX2_potTold 14 = .ok (.iastore, 1) := by decide +kernel
theorem dX2_potTold_15 : decode cX2_potTold 15 = .ok (.dup, 1) := by decide +kernel
theorem dX2_potTold_16 : decode cX2_potTold 16 = .ok (.iconst 1, 1) := by decide +kernel
theorem dX2_potTold_17 : decode cX2_potTold 17 = .ok (.aload_n 0, 1) := by decide +kernel
theorem dX2_potTold_18 : decode cX2_potTold 18 = .ok (.getfield 12, 3) := by decide +kernel
theorem dX2_potTold_21 : decode cX2_potTold 21 = .ok (.getfield 76, 3) := by decide +kernel
theorem dX2_potTold_24 : decode cX2_potTold 24 = .ok (.iload_n 1, 1) := by decide +kernel
theorem dX2_potTold_25 : decode cX2_potTold 25 = .ok (.iaload, 1) := by decide +kernel
theorem dX2_potTold_26 : decode cX2_potTold 26 = .ok (.iastore, 1) := by decide +kernel
theorem dX2_potTold_27 : decode cX2_potTold 27 = .ok (.dup, 1) := by decide +kernel
theorem dX2_potTold_28 : decode cX2_potTold 28 = .ok (.iconst 2, 1) := by decide +kernel
theorem dX2_potTold_29 : decode cX2_potTold 29 = .ok (.aload_n 0, 1) := by decide +kernel
theorem dX2_potTold_30 : decode cX2_potTold 30 = .ok (.getfield 12, 3) := by decide +kernel
theorem dX2_potTold_33 : decode cX2_potTold 33 = .ok (.getfield 79, 3) := by decide +kernel
theorem dX2_potTold_36 : decode cX2_potTold 36 = .ok (.iload_n 1, 1) := by decide +kernel
theorem dX2_potTold_37 : decode cX2_potTold 37 = .ok (.iaload, 1) := by decide +kernel
theorem dX2_potTold_38 : decode cX2_potTold 38 = .ok (.iastore, 1) := by decide +kernel
theorem dX2_potTold_39 : decode cX2_potTold 39 = .ok (.dup, 1) := by decide +kernel
theorem dX2_potTold_40 : decode cX2_potTold 40 = .ok (.iconst 3, 1) := by decide +kernel
theorem dX2_potTold_41 : decode cX2_potTold 41 = .ok (.aload_n 0, 1) := by decide +kernel
theorem dX2_potTold_42 : decode cX2_potTold 42 = .ok (.getfield 12, 3) := by decide +kernel
theorem dX2_potTold_45 : decode cX2_potTold 45 = .ok (.iload_n 1, 1) := by decide +kernel
theorem dX2_potTold_46 : decode cX2_potTold 46 = .ok (.invokevirtual 51, 3) := by decide +kernel
theorem dX2_potTold_49 : decode cX2_potTold 49 = .ok (.iastore, 1) := by decide +kernel
theorem dX2_potTold_50 : decode cX2_potTold 50 = .ok (.dup, 1) := by decide +kernel
theorem dX2_potTold_51 : decode cX2_potTold 51 = .ok (.iconst 4, 1) := by decide +kernel
theorem dX2_potTold_52 : decode cX2_potTold 52 = .ok (.aload_n 0, 1) := by decide +kernel
theorem dX2_potTold_53 : decode cX2_potTold 53 = .ok (.getfield 12, 3) := by decide +kernel
theorem dX2_potTold_56 : decode cX2_potTold 56 = .ok (.iload_n 1, 1) := by decide +kernel
theorem dX2_potTold_57 : decode cX2_potTold 57 = .ok (.invokevirtual 73, 3) := by decide +kernel
theorem dX2_potTold_60 : decode cX2_potTold 60 = .ok (.iastore, 1) := by decide +kernel
theorem dX2_potTold_61 : decode cX2_potTold 61 = .ok (.astore_n 3, 1) := by decide +kernel
theorem dX2_potTold_62 : decode cX2_potTold 62 = .ok (.aload_n 3, 1) := by decide +kernel
theorem dX2_potTold_63 : decode cX2_potTold 63 = .ok (.iload_n 2, 1) := by decide +kernel
theorem dX2_potTold_64 : decode cX2_potTold 64 = .ok (.iaload, 1) := by decide +kernel
theorem dX2_potTold_65 : decode cX2_potTold 65 = .ok (.ireturn, 1) := by decide +kernel
set_option maxRecDepth 20000 in
theorem ggX2_pot_X2_isPot : GoodIn wsX2_pot wsX2_isPot := goodIn_r _ [5, 6, 7, 4, 8] (by decide +kernel) (by decide +kernel)
set_option maxRecDepth 20000 in
theorem gX2_pot_X2_isPot : GoodIn wsX2_pot (va_wsS RX2 48 yX2_isPot wsX2_isPot) := goodIn_app (goodIn_of _ (by decide +kernel)) ggX2_pot_X2_isPot
set_option maxRecDepth 20000 in
theorem ggX2_pot_X2_isIn : GoodIn wsX2_pot wsX2_isIn := goodIn_r _ [8] (by decide +kernel) (by decide +kernel)
set_option maxRecDepth 20000 in
theorem gX2_pot_X2_isIn : GoodIn wsX2_pot (va_wsS RX2 25 yX2_isIn wsX2_isIn) := goodIn_app (goodIn_of _ (by decide +kernel)) ggX2_pot_X2_isIn
set_option maxRecDepth 20000 in
theorem ggX2_pot_X2_potTold : GoodIn wsX2_pot wsX2_potTold := goodIn_r _ [12, 13, 14, 15, 16, 17, 18, 19, 20, 21, 22, 23, 24, 25, 26, 27, 28, 29, 30, 31, 32, 33, 34, 35, 36, 41, 42, 43, 44, 45, 46, 47, 48, 49, 50, 51, 52, 53, 54, 55, 56, 57, 58, 59, 60] (by decide +kernel) (by decide +kernel)
set_option maxRecDepth 20000 in
theorem gX2_pot_X2_potTold : GoodIn wsX2_pot (wsV RX2 91 RX2 yX2_potTold wsX2_potTold) := goodIn_app (goodIn_of _ (by decide +kernel)) ggX2_pot_X2_potTold
set_option maxRecDepth 20000 in
theorem ggX2_pot_X2_no : GoodIn wsX2_pot wsX2_no := goodIn_r _ [40, 1, 41, 42, 43, 44, 45] (by decide +kernel) (by decide +kernel)
set_option maxRecDepth 20000 in
theorem gX2_pot_X2_no : GoodIn wsX2_pot (wsV RX2 36 RX2 yX2_no wsX2_no) := goodIn_app (goodIn_of _ (by decide +kernel)) ggX2_pot_X2_no
theorem dX2_pot_0 : decode cX2_pot 0 = .ok (.aload_n 0, 1) := by decide +kernel
theorem dX2_pot_1 : decode cX2_pot 1 = .ok (.iconst 0, 1) := by decide +kernel
theorem dX2_pot_2 : decode cX2_pot 2 = .ok (.putfield 21, 3) := by decide +kernel
theorem dX2_pot_5 : decode cX2_pot 5 = .ok (.iload_n 1, 1) := by decide +kernel
theorem dX2_pot_6 : decode cX2_pot 6 = .ok (.invokestatic 48, 3) := by decide +kernel
theorem dX2_pot_9 : decode cX2_pot 9 = .ok (.ifCond .eq 21, 3) := by decide +kernel
theorem dX2_pot_12 : decode cX2_pot 12 = .ok (.iload_n 2, 1) := by decide +kernel
theorem dX2_pot_13 : decode cX2_pot 13 = .ok (.iconst 0, 1) := by decide +kernel
theorem dX2_pot_14 : decode cX2_pot 14 = .ok (.iconst 4, 1) := by decide +kernel
theorem dX2_pot_15 : decode cX2_pot 15 = .ok (.invokestatic 25, 3) := by decide +kernel
theorem dX2_pot_18 : decode cX2_pot 18 = .ok (.ifCond .eq 12, 3) := by decide +kernel
theorem dX2_pot_21 : decode cX2_pot 21 = .ok (.aload_n 0, 1) := by decide +kernel
theorem dX2_pot_22 : decode cX2_pot 22 = .ok (.iload_n 1, 1) := by decide +kernel
theorem dX2_pot_23 : decode cX2_pot 23 = .ok (.iload_n 2, 1) := by decide +kernel
theorem dX2_pot_24 : decode cX2_pot 24 = .ok (.invokevirtual 91, 3) := by decide +kernel
theorem dX2_pot_27 : decode cX2_pot 27 = .ok (.goto 8, 3) := by decide +kernel
theorem dX2_pot_30 : decode cX2_pot 30 = .ok (.aload_n 0, 1) := by decide +kernel
theorem dX2_pot_31 : decode cX2_pot 31 = .ok (.iconst 1, 1) := by decide +kernel
theorem dX2_pot_32 : decode cX2_pot 32 = .ok (.invokevirtual 36, 3) := by decide +kernel
theorem dX2_pot_35 : decode cX2_pot 35 = .ok (.ireturn, 1) := by decide +kernel
set_option maxRecDepth 20000 in
theorem ggX2_dishTold_X1_isHeld : GoodIn wsX2_dishTold wsX1_isHeld := goodIn_r _ [7, 8, 9, 10, 11, 12, 13, 14, 6, 15, 35, 36, 37, 38, 39, 40, 41, 42, 43, 44, 45, 46, 47, 48, 49] (by decide +kernel) (by decide +kernel)
set_option maxRecDepth 20000 in
theorem gX2_dishTold_X1_isHeld : GoodIn wsX2_dishTold (wsV RX2 98 RX1 yX1_isHeld wsX1_isHeld) := goodIn_app (goodIn_of _ (by decide +kernel)) ggX2_dishTold_X1_isHeld
set_option maxRecDepth 20000 in
theorem ggX2_dishTold_X1_is : GoodIn wsX2_dishTold wsX1_is := goodIn_r _ [15, 8, 9, 10, 35, 36, 37, 38, 39, 40, 41, 42, 43, 44, 45, 46, 47, 48, 49] (by decide +kernel) (by decide +kernel)
set_option maxRecDepth 20000 in
theorem gX2_dishTold_X1_is : GoodIn wsX2_dishTold (wsV RX2 54 RX1 yX1_is wsX1_is) := goodIn_app (goodIn_of _ (by decide +kernel)) ggX2_dishTold_X1_is
set_option maxRecDepth 20000 in
theorem ggX2_dishTold_X1_kept : GoodIn wsX2_dishTold wsX1_kept := goodIn_r _ [20, 8, 21, 22, 23, 6, 24, 9, 10, 25, 26, 27, 28, 29, 35, 36, 37, 38, 39, 40, 41, 42, 43, 44, 45, 46, 47, 48, 49] (by decide +kernel) (by decide +kernel)
set_option maxRecDepth 20000 in
theorem gX2_dishTold_X1_kept : GoodIn wsX2_dishTold (wsV RX2 102 RX1 yX1_kept wsX1_kept) := goodIn_app (goodIn_of _ (by decide +kernel)) ggX2_dishTold_X1_kept
theorem dX2_dishTold_0 : decode cX2_dishTold 0 = .ok (.iconst 0, 1) := by decide +kernel
theorem dX2_dishTold_1 : decode cX2_dishTold 1 = .ok (.istore_n 3, 1) := by decide +kernel
theorem dX2_dishTold_2 : decode cX2_dishTold 2 = .ok (.iconst (-1), 1) := by decide +kernel
theorem dX2_dishTold_3 : decode cX2_dishTold 3 = .ok (.istore 4, 2) := by decide +kernel
theorem dX2_dishTold_5 : decode cX2_dishTold 5 = .ok (.iconst 0, 1) := by decide +kernel
theorem dX2_dishTold_6 : decode cX2_dishTold 6 = .ok (.istore 5, 2) := by decide +kernel
theorem dX2_dishTold_8 : decode cX2_dishTold 8 = .ok (.iconst 0, 1) := by decide +kernel
theorem dX2_dishTold_9 : decode cX2_dishTold 9 = .ok (.istore 6, 2) := by decide +kernel
theorem dX2_dishTold_11 : decode cX2_dishTold 11 = .ok (.iload 6, 2) := by decide +kernel
theorem dX2_dishTold_13 : decode cX2_dishTold 13 = .ok (.aload_n 0, 1) := by decide +kernel
theorem dX2_dishTold_14 : decode cX2_dishTold 14 = .ok (.getfield 12, 3) := by decide +kernel
theorem dX2_dishTold_17 : decode cX2_dishTold 17 = .ok (.getfield 64, 3) := by decide +kernel
theorem dX2_dishTold_20 : decode cX2_dishTold 20 = .ok (.if_icmp .ge 33, 3) := by decide +kernel
theorem dX2_dishTold_23 : decode cX2_dishTold 23 = .ok (.aload_n 0, 1) := by decide +kernel
theorem dX2_dishTold_24 : decode cX2_dishTold 24 = .ok (.getfield 12, 3) := by decide +kernel
theorem dX2_dishTold_27 : decode cX2_dishTold 27 = .ok (.getfield 95, 3) := by decide +kernel
theorem dX2_dishTold_30 : decode cX2_dishTold 30 = .ok (.iload 6, 2) := by decide +kernel
theorem dX2_dishTold_32 : decode cX2_dishTold 32 = .ok (.iaload, 1) := by decide +kernel
theorem dX2_dishTold_33 : decode cX2_dishTold 33 = .ok (.iload_n 1, 1) := by decide +kernel
theorem dX2_dishTold_34 : decode cX2_dishTold 34 = .ok (.if_icmp .eq 6, 3) := by decide +kernel
theorem dX2_dishTold_37 : decode cX2_dishTold 37 = .ok (.goto 10, 3) := by decide +kernel
theorem dX2_dishTold_40 : decode cX2_dishTold 40 = .ok (.iinc 3 1, 3) := by decide +kernel
theorem dX2_dishTold_43 : decode cX2_dishTold 43 = .ok (.iload 6, 2) := by decide +kernel
theorem dX2_dishTold_45 : decode cX2_dishTold 45 = .ok (.istore 4, 2) := by decide +kernel
theorem dX2_dishTold_47 : decode cX2_dishTold 47 = .ok (.iinc 6 1, 3) := by decide +kernel
theorem dX2_dishTold_50 : decode cX2_dishTold 50 = .ok (.goto (-39), 3) := by decide +kernel
theorem dX2_dishTold_53 : decode cX2_dishTold 53 = .ok (.iconst 0, 1) := by decide +kernel
theorem dX2_dishTold_54 : decode cX2_dishTold 54 = .ok (.istore 6, 2) := by decide +kernel
theorem dX2_dishTold_56 : decode cX2_dishTold 56 = .ok (.iload 6, 2) := by decide +kernel
theorem dX2_dishTold_58 : decode cX2_dishTold 58 = .ok (.bipush 8, 2) := by decide +kernel
theorem dX2_dishTold_60 : decode cX2_dishTold 60 = .ok (.if_icmp .ge 32, 3) := by decide +kernel
theorem dX2_dishTold_63 : decode cX2_dishTold 63 = .ok (.iload 5, 2) := by decide +kernel
theorem dX2_dishTold_65 : decode cX2_dishTold 65 = .ok (.aload_n 0, 1) := by decide +kernel
theorem dX2_dishTold_66 : decode cX2_dishTold 66 = .ok (.getfield 12, 3) := by decide +kernel
theorem dX2_dishTold_69 : decode cX2_dishTold 69 = .ok (.iload 6, 2) := by decide +kernel
theorem dX2_dishTold_71 : decode cX2_dishTold 71 = .ok (.iload_n 1, 1) := by decide +kernel
theorem dX2_dishTold_72 : decode cX2_dishTold 72 = .ok (.invokevirtual 98, 3) := by decide +kernel
theorem dX2_dishTold_75 : decode cX2_dishTold 75 = .ok (.ifCond .eq 7, 3) := by decide +kernel
theorem dX2_dishTold_78 : decode cX2_dishTold 78 = .ok (.iconst 1, 1) := by decide +kernel
theorem dX2_dishTold_79 : decode cX2_dishTold 79 = .ok (.goto 4, 3) := by decide +kernel
theorem dX2_dishTold_82 : decode cX2_dishTold 82 = .ok (.iconst 0, 1) := by decide +kernel
theorem dX2_dishTold_83 : decode cX2_dishTold 83 = .ok (.iadd, 1) := by decide +kernel
theorem dX2_dishTold_84 : decode cX2_dishTold 84 = .ok (.istore 5, 2) := by decide +kernel
theorem dX2_dishTold_86 : decode cX2_dishTold 86 = .ok (.iinc 6 1, 3) := by decide +kernel
theorem dX2_dishTold_89 : decode cX2_dishTold 89 = .ok (.goto (-33), 3) := by decide +kernel
theorem dX2_dishTold_92 : decode cX2_dishTold 92 = .ok (.iconst 5, 1) := by decide +kernel
theorem dX2_dishTold_93 : decode cX2_dishTold 93 = .ok (.newarray .int, 2) := by decide +kernel
theorem dX2_dishTold_95 : decode cX2_dishTold 95 = .ok (.dup, 1) := by decide +kernel
theorem dX2_dishTold_96 : decode cX2_dishTold 96 = .ok (.iconst 0, 1) := by decide +kernel
theorem dX2_dishTold_97 : decode cX2_dishTold 97 = .ok (.aload_n 0, 1) := by decide +kernel
theorem dX2_dishTold_98 : decode cX2_dishTold 98 = .ok (.getfield 12, 3) := by decide +kernel
theorem dX2_dishTold_101 : decode cX2_dishTold 101 = .ok (.iload_n 1, 1) := by decide +kernel
theorem dX2_dishTold_102 : decode cX2_dishTold 102 = .ok (.invokevirtual 54, 3) := by decide +kernel
theorem dX2_dishTold_105 : decode cX2_dishTold 105 = .ok (.iastore, 1) := by decide +kernel
theorem dX2_dishTold_106 : decode cX2_dishTold 106 = .ok (.dup, 1) := by decide +kernel
theorem dX2_dishTold_107 : decode cX2_dishTold 107 = .ok (.iconst 1, 1) := by decide +kernel
theorem dX2_dishTold_108 : decode cX2_dishTold 108 = .ok (.iload_n 3, 1) := by decide +kernel
theorem dX2_dishTold_109 : decode cX2_dishTold 109 = .ok (.iastore, 1) := by decide +kernel
theorem dX2_dishTold_110 : decode cX2_dishTold 110 = .ok (.dup, 1) := by decide +kernel
theorem dX2_dishTold_111 : decode cX2_dishTold 111 = .ok (.iconst 2, 1) := by decide +kernel
theorem dX2_dishTold_112 : decode cX2_dishTold 112 = .ok (.aload_n 0, 1) := by decide +kernel
theorem dX2_dishTold_113 : decode cX2_dishTold 113 = .ok (.getfield 12, 3) := by decide +kernel
theorem dX2_dishTold_116 : decode cX2_dishTold 116 = .ok (.iload_n 1, 1) := by decide +kernel
theorem dX2_dishTold_117 : decode cX2_dishTold 117 = .ok (.invokevirtual 102, 3) := by decide +kernel
theorem dX2_dishTold_120 : decode cX2_dishTold 120 = .ok (.iastore, 1) := by decide +kernel
theorem dX2_dishTold_121 : decode cX2_dishTold 121 = .ok (.dup, 1) := by decide +kernel
theorem dX2_dishTold_122 : decode cX2_dishTold 122 = .ok (.iconst 3, 1) := by decide +kernel
theorem dX2_dishTold_123 : decode cX2_dishTold 123 = .ok (.iload 5, 2) := by decide +kernel
theorem dX2_dishTold_125 : decode cX2_dishTold 125 = .ok (.iastore, 1) := by decide +kernel
theorem dX2_dishTold_126 : decode cX2_dishTold 126 = .ok (.dup, 1) := by decide +kernel
theorem dX2_dishTold_127 : decode cX2_dishTold 127 = .ok (.iconst 4, 1) := by decide +kernel
theorem dX2_dishTold_128 : decode cX2_dishTold 128 = .ok (.iload 4, 2) := by decide +kernel
theorem dX2_dishTold_130 : decode cX2_dishTold 130 = .ok (.iastore, 1) := by decide +kernel
theorem dX2_dishTold_131 : decode cX2_dishTold 131 = .ok (.astore 6, 2) := by decide +kernel
theorem dX2_dishTold_133 : decode cX2_dishTold 133 = .ok (.aload 6, 2) := by decide +kernel
theorem dX2_dishTold_135 : decode cX2_dishTold 135 = .ok (.iload_n 2, 1) := by decide +kernel
theorem dX2_dishTold_136 : decode cX2_dishTold 136 = .ok (.iaload, 1) := by decide +kernel
theorem dX2_dishTold_137 : decode cX2_dishTold 137 = .ok (.ireturn, 1) := by decide +kernel
set_option maxRecDepth 20000 in
theorem ggX2_dish_X2_isDish : GoodIn wsX2_dish wsX2_isDish := goodIn_r _ [6, 7, 8, 9, 5, 10, 48, 49, 50, 51, 52] (by decide +kernel) (by decide +kernel)
set_option maxRecDepth 20000 in
theorem gX2_dish_X2_isDish : GoodIn wsX2_dish (wsV RX2 44 RX2 yX2_isDish wsX2_isDish) := goodIn_app (goodIn_of _ (by decide +kernel)) ggX2_dish_X2_isDish
set_option maxRecDepth 20000 in
theorem ggX2_dish_X2_isIn : GoodIn wsX2_dish wsX2_isIn := goodIn_r _ [10] (by decide +kernel) (by decide +kernel)
set_option maxRecDepth 20000 in
theorem gX2_dish_X2_isIn : GoodIn wsX2_dish (va_wsS RX2 25 yX2_isIn wsX2_isIn) := goodIn_app (goodIn_of _ (by decide +kernel)) ggX2_dish_X2_isIn
set_option maxRecDepth 20000 in
theorem ggX2_dish_X2_dishTold : GoodIn wsX2_dish wsX2_dishTold := goodIn_r _ [14, 15, 16, 17, 18, 19, 20, 21, 22, 23, 24, 25, 26, 27, 28, 29, 30, 31, 32, 33, 34, 35, 36, 37, 38, 39, 40, 41, 42, 43, 48, 49, 50, 51, 52, 53, 54, 55, 56, 57, 58, 59, 60, 61, 62, 63, 64, 65, 66, 67] (by decide +kernel) (by decide +kernel)
set_option maxRecDepth 20000 in
theorem gX2_dish_X2_dishTold : GoodIn wsX2_dish (wsV RX2 105 RX2 yX2_dishTold wsX2_dishTold) := goodIn_app (goodIn_of _ (by decide +kernel)) ggX2_dish_X2_dishTold
set_option maxRecDepth 20000 in
theorem ggX2_dish_X2_no : GoodIn wsX2_dish wsX2_no := goodIn_r _ [47, 1, 48, 49, 50, 51, 52] (by decide +kernel) (by decide +kernel)
set_option maxRecDepth 20000 in
theorem gX2_dish_X2_no : GoodIn wsX2_dish (wsV RX2 36 RX2 yX2_no wsX2_no) := goodIn_app (goodIn_of _ (by decide +kernel)) ggX2_dish_X2_no
theorem dX2_dish_0 : decode cX2_dish 0 = .ok (.aload_n 0, 1) := by decide +kernel
theorem dX2_dish_1 : decode cX2_dish 1 = .ok (.iconst 0, 1) := by decide +kernel
theorem dX2_dish_2 : decode cX2_dish 2 = .ok (.putfield 21, 3) := by decide +kernel
theorem dX2_dish_5 : decode cX2_dish 5 = .ok (.aload_n 0, 1) := by decide +kernel
theorem dX2_dish_6 : decode cX2_dish 6 = .ok (.iload_n 1, 1) := by decide +kernel
theorem dX2_dish_7 : decode cX2_dish 7 = .ok (.invokevirtual 44, 3) := by decide +kernel
theorem dX2_dish_10 : decode cX2_dish 10 = .ok (.ifCond .eq 21, 3) := by decide +kernel
theorem dX2_dish_13 : decode cX2_dish 13 = .ok (.iload_n 2, 1) := by decide +kernel
theorem dX2_dish_14 : decode cX2_dish 14 = .ok (.iconst 0, 1) := by decide +kernel
theorem dX2_dish_15 : decode cX2_dish 15 = .ok (.iconst 4, 1) := by decide +kernel
theorem dX2_dish_16 : decode cX2_dish 16 = .ok (.invokestatic 25, 3) := by decide +kernel
theorem dX2_dish_19 : decode cX2_dish 19 = .ok (.ifCond .eq 12, 3) := by decide +kernel
theorem dX2_dish_22 : decode cX2_dish 22 = .ok (.aload_n 0, 1) := by decide +kernel
theorem dX2_dish_23 : decode cX2_dish 23 = .ok (.iload_n 1, 1) := by decide +kernel
theorem dX2_dish_24 : decode cX2_dish 24 = .ok (.iload_n 2, 1) := by decide +kernel
theorem dX2_dish_25 : decode cX2_dish 25 = .ok (.invokevirtual 105, 3) := by decide +kernel
theorem dX2_dish_28 : decode cX2_dish 28 = .ok (.goto 8, 3) := by decide +kernel
theorem dX2_dish_31 : decode cX2_dish 31 = .ok (.aload_n 0, 1) := by decide +kernel
theorem dX2_dish_32 : decode cX2_dish 32 = .ok (.iconst 1, 1) := by decide +kernel
theorem dX2_dish_33 : decode cX2_dish 33 = .ok (.invokevirtual 36, 3) := by decide +kernel
theorem dX2_dish_36 : decode cX2_dish 36 = .ok (.ireturn, 1) := by decide +kernel
theorem dX2_lineTold_0 : decode cX2_lineTold 0 = .ok (.bipush 7, 2) := by decide +kernel
theorem dX2_lineTold_2 : decode cX2_lineTold 2 = .ok (.newarray .int, 2) := by decide +kernel
theorem dX2_lineTold_4 : decode cX2_lineTold 4 = .ok (.dup, 1) := by decide +kernel
theorem dX2_lineTold_5 : decode cX2_lineTold 5 = .ok (.iconst 0, 1) := by decide +kernel
theorem dX2_lineTold_6 : decode cX2_lineTold 6 = .ok (.aload_n 0, 1) := by decide +kernel
theorem dX2_lineTold_7 : decode cX2_lineTold 7 = .ok (.getfield 12, 3) := by decide +kernel
theorem dX2_lineTold_10 : decode cX2_lineTold 10 = .ok (.getfield 95, 3) := by decide +kernel
theorem dX2_lineTold_13 : decode cX2_lineTold 13 = .ok (.iload_n 1, 1) := by decide +kernel
theorem dX2_lineTold_14 : decode cX2_lineTold 14 = .ok (.iaload, 1) := by decide +kernel
theorem dX2_lineTold_15 : decode cX2_lineTold 15 = .ok (.iastore, 1) := by decide +kernel
theorem dX2_lineTold_16 : decode cX2_lineTold 16 = .ok (.dup, 1) := by decide +kernel
theorem dX2_lineTold_17 : decode cX2_lineTold 17 = .ok (.iconst 1, 1) := by decide +kernel
theorem dX2_lineTold_18 : decode cX2_lineTold 18 = .ok (.aload_n 0, 1) := by decide +kernel
theorem dX2_lineTold_19 : decode cX2_lineTold 19 = .ok (.getfield 12, 3) := by decide +kernel
theorem dX2_lineTold_22 : decode cX2_lineTold 22 = .ok (.getfield 108, 3) := by decide +kernel
theorem dX2_lineTold_25 : decode cX2_lineTold 25 = .ok (.iload_n 1, 1) := by decide +kernel
theorem dX2_lineTold_26 : decode cX2_lineTold 26 = .ok (.iaload, 1) := by decide +kernel
theorem dX2_lineTold_27 : decode cX2_lineTold 27 = .ok (.iastore, 1) := by decide +kernel
theorem dX2_lineTold_28 : decode cX2_lineTold 28 = .ok (.dup, 1) := by decide +kernel
theorem dX2_lineTold_29 : decode cX2_lineTold 29 = .ok (.iconst 2, 1) := by decide +kernel
theorem dX2_lineTold_30 : decode cX2_lineTold 30 = .ok (.aload_n 0, 1) := by decide +kernel
theorem dX2_lineTold_31 : decode cX2_lineTold 31 = .ok (.getfield 12, 3) := by decide +kernel
theorem dX2_lineTold_34 : decode cX2_lineTold 34 = .ok (.getfield 111, 3) := by decide +kernel
theorem dX2_lineTold_37 : decode cX2_lineTold 37 = .ok (.iload_n 1, 1) := by decide +kernel
theorem dX2_lineTold_38 : decode cX2_lineTold 38 = .ok (.iaload, 1) := by decide +kernel
theorem dX2_lineTold_39 : decode cX2_lineTold 39 = .ok (.iastore, 1) := by decide +kernel
theorem dX2_lineTold_40 : decode cX2_lineTold 40 = .ok (.dup, 1) := by decide +kernel
theorem dX2_lineTold_41 : decode cX2_lineTold 41 = .ok (.iconst 3, 1) := by decide +kernel
theorem dX2_lineTold_42 : decode cX2_lineTold 42 = .ok (.aload_n 0, 1) := by decide +kernel
theorem dX2_lineTold_43 : decode cX2_lineTold 43 = .ok (.getfield 12, 3) := by decide +kernel
theorem dX2_lineTold_46 : decode cX2_lineTold 46 = .ok (.getfield 114, 3) := by decide +kernel
theorem dX2_lineTold_49 : decode cX2_lineTold 49 = .ok (.iload_n 1, 1) := by decide +kernel
theorem dX2_lineTold_50 : decode cX2_lineTold 50 = .ok (.iaload, 1) := by decide +kernel
theorem dX2_lineTold_51 : decode cX2_lineTold 51 = .ok (.iastore, 1) := by decide +kernel
theorem dX2_lineTold_52 : decode cX2_lineTold 52 = .ok (.dup, 1) := by decide +kernel
theorem dX2_lineTold_53 : decode cX2_lineTold 53 = .ok (.iconst 4, 1) := by decide +kernel
theorem dX2_lineTold_54 : decode cX2_lineTold 54 = .ok (.aload_n 0, 1) := by decide +kernel
theorem dX2_lineTold_55 : decode cX2_lineTold 55 = .ok (.getfield 12, 3) := by decide +kernel
theorem dX2_lineTold_58 : decode cX2_lineTold 58 = .ok (.getfield 117, 3) := by decide +kernel
theorem dX2_lineTold_61 : decode cX2_lineTold 61 = .ok (.iload_n 1, 1) := by decide +kernel
theorem dX2_lineTold_62 : decode cX2_lineTold 62 = .ok (.iaload, 1) := by decide +kernel
theorem dX2_lineTold_63 : decode cX2_lineTold 63 = .ok (.iastore, 1) := by decide +kernel
theorem dX2_lineTold_64 : decode cX2_lineTold 64 = .ok (.dup, 1) := by decide +kernel
theorem dX2_lineTold_65 : decode cX2_lineTold 65 = .ok (.iconst 5, 1) := by decide +kernel
theorem dX2_lineTold_66 : decode cX2_lineTold 66 = .ok (.aload_n 0, 1) := by decide +kernel
theorem dX2_lineTold_67 : decode cX2_lineTold 67 = .ok (.getfield 12, 3) := by decide +kernel
theorem dX2_lineTold_70 : decode cX2_lineTold 70 = .ok (.getfield 120, 3) := by decide +kernel
theorem dX2_lineTold_73 : decode cX2_lineTold 73 = .ok (.iload_n 1, 1) := by decide +kernel
theorem dX2_lineTold_74 : decode cX2_lineTold 74 = .ok (.iaload, 1) := by decide +kernel
theorem dX2_lineTold_75 : decode cX2_lineTold 75 = .ok (.iastore, 1) := by decide +kernel
theorem dX2_lineTold_76 : decode cX2_lineTold 76 = .ok (.dup, 1) := by decide +kernel
theorem dX2_lineTold_77 : decode cX2_lineTold 77 = .ok (.bipush 6, 2) := by decide +kernel
theorem dX2_lineTold_79 : decode cX2_lineTold 79 = .ok (.iload_n 1, 1) := by decide +kernel
theorem dX2_lineTold_80 : decode cX2_lineTold 80 = .ok (.aload_n 0, 1) := by decide +kernel
theorem dX2_lineTold_81 : decode cX2_lineTold 81 = .ok (.getfield 12, 3) := by decide +kernel
theorem dX2_lineTold_84 : decode cX2_lineTold 84 = .ok (.getfield 123, 3) := by decide +kernel
theorem dX2_lineTold_87 : decode cX2_lineTold 87 = .ok (.if_icmp .ge 7, 3) := by decide +kernel
theorem dX2_lineTold_90 : decode cX2_lineTold 90 = .ok (.iconst 1, 1) := by decide +kernel
theorem dX2_lineTold_91 : decode cX2_lineTold 91 = .ok (.goto 4, 3) := by decide +kernel
theorem dX2_lineTold_94 : decode cX2_lineTold 94 = .ok (.iconst 0, 1) := by decide +kernel
theorem dX2_lineTold_95 : decode cX2_lineTold 95 = .ok (.iastore, 1) := by decide +kernel
theorem dX2_lineTold_96 : decode cX2_lineTold 96 = .ok (.astore_n 3, 1) := by decide +kernel
theorem dX2_lineTold_97 : decode cX2_lineTold 97 = .ok (.aload_n 3, 1) := by decide +kernel
theorem dX2_lineTold_98 : decode cX2_lineTold 98 = .ok (.iload_n 2, 1) := by decide +kernel
theorem dX2_lineTold_99 : decode cX2_lineTold 99 = .ok (.iaload, 1) := by decide +kernel
theorem dX2_lineTold_100 : decode cX2_lineTold 100 = .ok (.ireturn, 1) := by decide +kernel
set_option maxRecDepth 20000 in
theorem ggX2_line_X2_isIn : GoodIn wsX2_line wsX2_isIn := goodIn_r _ [6] (by decide +kernel) (by decide +kernel)
set_option maxRecDepth 20000 in
theorem gX2_line_X2_isIn : GoodIn wsX2_line (va_wsS RX2 25 yX2_isIn wsX2_isIn) := goodIn_app (goodIn_of _ (by decide +kernel)) ggX2_line_X2_isIn
set_option maxRecDepth 20000 in
theorem ggX2_line_X2_lineTold : GoodIn wsX2_line wsX2_lineTold := goodIn_r _ [10, 11, 2, 16, 17, 18, 19, 20, 21, 22, 23, 24, 25, 26, 27, 28, 29, 30, 31, 32, 33, 34, 35] (by decide +kernel) (by decide +kernel)
set_option maxRecDepth 20000 in
theorem gX2_line_X2_lineTold : GoodIn wsX2_line (wsV RX2 126 RX2 yX2_lineTold wsX2_lineTold) := goodIn_app (goodIn_of _ (by decide +kernel)) ggX2_line_X2_lineTold
set_option maxRecDepth 20000 in
theorem ggX2_line_X2_no : GoodIn wsX2_line wsX2_no := goodIn_r _ [15, 1, 16, 17, 18, 19, 20] (by decide +kernel) (by decide +kernel)
set_option maxRecDepth 20000 in
theorem gX2_line_X2_no : GoodIn wsX2_line (wsV RX2 36 RX2 yX2_no wsX2_no) := goodIn_app (goodIn_of _ (by decide +kernel)) ggX2_line_X2_no
theorem dX2_line_0 : decode cX2_line 0 = .ok (.aload_n 0, 1) := by decide +kernel
theorem dX2_line_1 : decode cX2_line 1 = .ok (.iconst 0, 1) := by decide +kernel
theorem dX2_line_2 : decode cX2_line 2 = .ok (.putfield 21, 3) := by decide +kernel
theorem dX2_line_5 : decode cX2_line 5 = .ok (.iload_n 1, 1) := by decide +kernel
theorem dX2_line_6 : decode cX2_line 6 = .ok (.iconst 0, 1) := by decide +kernel
theorem dX2_line_7 : decode cX2_line 7 = .ok (.aload_n 0, 1) := by decide +kernel
theorem dX2_line_8 : decode cX2_line 8 = .ok (.getfield 12, 3) := by decide +kernel
theorem dX2_line_11 : decode cX2_line 11 = .ok (.getfield 64, 3) := by decide +kernel
theorem dX2_line_14 : decode cX2_line 14 = .ok (.iconst 1, 1) := by decide +kernel
theorem dX2_line_15 : decode cX2_line 15 = .ok (.isub, 1) := by decide +kernel
theorem dX2_line_16 : decode cX2_line 16 = .ok (.invokestatic 25, 3) := by decide +kernel
theorem dX2_line_19 : decode cX2_line 19 = .ok (.ifCond .eq 22, 3) := by decide +kernel
theorem dX2_line_22 : decode cX2_line 22 = .ok (.iload_n 2, 1) := by decide +kernel
theorem dX2_line_23 : decode cX2_line 23 = .ok (.iconst 0, 1) := by decide +kernel
theorem dX2_line_24 : decode cX2_line 24 = .ok (.bipush 6, 2) := by decide +kernel
theorem dX2_line_26 : decode cX2_line 26 = .ok (.invokestatic 25, 3) := by decide +kernel
theorem dX2_line_29 : decode cX2_line 29 = .ok (.ifCond .eq 12, 3) := by decide +kernel
theorem dX2_line_32 : decode cX2_line 32 = .ok (.aload_n 0, 1) := by decide +kernel
theorem dX2_line_33 : decode cX2_line 33 = .ok (.iload_n 1, 1) := by decide +kernel
theorem dX2_line_34 : decode cX2_line 34 = .ok (.iload_n 2, 1) := by decide +kernel
theorem dX2_line_35 : decode cX2_line 35 = .ok (.invokevirtual 126, 3) := by decide +kernel
theorem dX2_line_38 : decode cX2_line 38 = .ok (.goto 8, 3) := by decide +kernel
theorem dX2_line_41 : decode cX2_line 41 = .ok (.aload_n 0, 1) := by decide +kernel
theorem dX2_line_42 : decode cX2_line 42 = .ok (.iconst 1, 1) := by decide +kernel
theorem dX2_line_43 : decode cX2_line 43 = .ok (.invokevirtual 36, 3) := by decide +kernel
theorem dX2_line_46 : decode cX2_line 46 = .ok (.ireturn, 1) := by decide +kernel
set_option maxRecDepth 20000 in
theorem ggX2_counted_X1_are : GoodIn wsX2_counted wsX1_are := goodIn_r _ [8, 9, 10, 11, 12, 7, 13, 14, 15, 16, 43, 44, 45, 46, 47, 48, 49, 50, 51, 52, 53, 54, 55, 56, 57, 38, 39, 40, 41, 42] (by decide +kernel) (by decide +kernel)
set_option maxRecDepth 20000 in
theorem gX2_counted_X1_are : GoodIn wsX2_counted (wsV RX2 129 RX1 yX1_are wsX1_are) := goodIn_app (goodIn_of _ (by decide +kernel)) ggX2_counted_X1_are
set_option maxRecDepth 20000 in
theorem ggX2_counted_X1_room : GoodIn wsX2_counted wsX1_room := goodIn_r _ [20, 14, 9, 10, 11, 12, 7, 13, 15, 16, 21, 22, 23, 24, 25, 26, 27, 28, 29, 30, 31, 32, 33, 43, 44, 45, 46, 47, 48, 49, 50, 51, 52, 53, 54, 55, 56, 57, 38, 39, 40, 41, 42] (by decide +kernel) (by decide +kernel)
set_option maxRecDepth 20000 in
theorem gX2_counted_X1_room : GoodIn wsX2_counted (wsV RX2 32 RX1 yX1_room wsX1_room) := goodIn_app (goodIn_of _ (by decide +kernel)) ggX2_counted_X1_room
set_option maxRecDepth 20000 in
theorem ggX2_counted_X1_sum : GoodIn wsX2_counted wsX1_sum := goodIn_r _ [37] (by decide +kernel) (by decide +kernel)
set_option maxRecDepth 20000 in
theorem gX2_counted_X1_sum : GoodIn wsX2_counted (wsV RX2 132 RX1 yX1_sum wsX1_sum) := goodIn_app (goodIn_of _ (by decide +kernel)) ggX2_counted_X1_sum
theorem dX2_counted_0 : decode cX2_counted 0 = .ok (.iload_n 1, 1) := by decide +kernel
theorem dX2_counted_1 : decode cX2_counted 1 = .ok (.tableswitch 125 0 9 #[55, 63, 71, 76, 76, 76, 76, 87, 95, 110], 55) := by decide +kernel
theorem dX2_counted_56 : decode cX2_counted 56 = .ok (.aload_n 0, 1) := by decide +kernel
theorem dX2_counted_57 : decode cX2_counted 57 = .ok (.getfield 12, 3) := by decide +kernel
theorem dX2_counted_60 : decode cX2_counted 60 = .ok (.getfield 64, 3) := by decide +kernel
theorem dX2_counted_63 : decode cX2_counted 63 = .ok (.ireturn, 1) := by decide +kernel
theorem dX2_counted_64 : decode cX2_counted 64 = .ok (.aload_n 0, 1) := by decide +kernel
theorem dX2_counted_65 : decode cX2_counted 65 = .ok (.getfield 12, 3) := by decide +kernel
theorem dX2_counted_68 : decode cX2_counted 68 = .ok (.getfield 123, 3) := by decide +kernel
theorem dX2_counted_71 : decode cX2_counted 71 = .ok (.ireturn, 1) := by decide +kernel
theorem dX2_counted_72 : decode cX2_counted 72 = .ok (.aload_n 0, 1) := by decide +kernel
theorem dX2_counted_73 : decode cX2_counted 73 = .ok (.getfield 29, 3) := by decide +kernel
theorem dX2_counted_76 : decode cX2_counted 76 = .ok (.ireturn, 1) := by decide +kernel
theorem dX2_counted_77 : decode cX2_counted 77 = .ok (.aload_n 0, 1) := by decide +kernel
theorem dX2_counted_78 : decode cX2_counted 78 = .ok (.getfield 12, 3) := by decide +kernel
theorem dX2_counted_81 : decode cX2_counted 81 = .ok (.iload_n 1, 1) := by decide +kernel
theorem dX2_counted_82 : decode cX2_counted 82 = .ok (.iconst 3, 1) := by decide +kernel
theorem dX2_counted_83 : decode cX2_counted 83 = .ok (.isub, 1) := by decide +kernel
theorem dX2_counted_84 : decode cX2_counted 84 = .ok (.invokevirtual 129, 3) := by decide +kernel
theorem dX2_counted_87 : decode cX2_counted 87 = .ok (.ireturn, 1) := by decide +kernel
theorem dX2_counted_88 : decode cX2_counted 88 = .ok (.aload_n 0, 1) := by decide +kernel
theorem dX2_counted_89 : decode cX2_counted 89 = .ok (.getfield 12, 3) := by decide +kernel
theorem dX2_counted_92 : decode cX2_counted 92 = .ok (.invokevirtual 32, 3) := by decide +kernel
theorem dX2_counted_95 : decode cX2_counted 95 = .ok (.ireturn, 1) := by decide +kernel
theorem dX2_counted_96 : decode cX2_counted 96 = .ok (.aload_n 0, 1) := by decide +kernel
theorem dX2_counted_97 : decode cX2_counted 97 = .ok (.getfield 12, 3) := by decide +kernel
theorem dX2_counted_100 : decode cX2_counted 100 = .ok (.aload_n 0, 1) := by decide +kernel
theorem dX2_counted_101 : decode cX2_counted 101 = .ok (.getfield 12, 3) := by decide +kernel
theorem dX2_counted_104 : decode cX2_counted 104 = .ok (.getfield 57, 3) := by decide +kernel
theorem dX2_counted_107 : decode cX2_counted 107 = .ok (.invokevirtual 132, 3) := by decide +kernel
theorem dX2_counted_110 : decode cX2_counted 110 = .ok (.ireturn, 1) := by decide +kernel
theorem dX2_counted_111 : decode cX2_counted 111 = .ok (.aload_n 0, 1) := by decide +kernel
theorem dX2_counted_112 : decode cX2_counted 112 = .ok (.getfield 12, 3) := by decide +kernel
theorem dX2_counted_115 : decode cX2_counted 115 = .ok (.aload_n 0, 1) := by decide +kernel
theorem dX2_counted_116 : decode cX2_counted 116 = .ok (.getfield 12, 3) := by decide +kernel
theorem dX2_counted_119 : decode cX2_counted 119 = .ok (.getfield 76, 3) := by decide +kernel
theorem dX2_counted_122 : decode cX2_counted 122 = .ok (.invokevirtual 132, 3) := by decide +kernel
theorem dX2_counted_125 : decode cX2_counted 125 = .ok (.ireturn, 1) := by decide +kernel
theorem dX2_counted_126 : decode cX2_counted 126 = .ok (.aload_n 0, 1) := by decide +kernel
theorem dX2_counted_127 : decode cX2_counted 127 = .ok (.getfield 85, 3) := by decide +kernel
theorem dX2_counted_130 : decode cX2_counted 130 = .ok (.ireturn, 1) := by decide +kernel
set_option maxRecDepth 20000 in
theorem ggX2_count_X2_isIn : GoodIn wsX2_count wsX2_isIn := goodIn_r _ [5] (by decide +kernel) (by decide +kernel)
set_option maxRecDepth 20000 in
theorem gX2_count_X2_isIn : GoodIn wsX2_count (va_wsS RX2 25 yX2_isIn wsX2_isIn) := goodIn_app (goodIn_of _ (by decide +kernel)) ggX2_count_X2_isIn
set_option maxRecDepth 20000 in
theorem ggX2_count_X2_counted : GoodIn wsX2_count wsX2_counted := goodIn_r _ [9, 10, 11, 12, 13, 14, 15, 16, 17, 18, 19, 20, 21, 22, 23, 24, 25, 26, 27, 28, 29, 30, 31, 32, 33, 34, 35, 36, 37, 38, 39, 40, 41, 42, 43, 44, 45, 46, 51, 52, 53, 54, 55, 56, 57, 58, 59, 60, 61, 62, 63, 64, 65, 66, 67, 68, 69, 70] (by decide +kernel) (by decide +kernel)
set_option maxRecDepth 20000 in
theorem gX2_count_X2_counted : GoodIn wsX2_count (wsV RX2 136 RX2 yX2_counted wsX2_counted) := goodIn_app (goodIn_of _ (by decide +kernel)) ggX2_count_X2_counted
set_option maxRecDepth 20000 in
theorem ggX2_count_X2_no : GoodIn wsX2_count wsX2_no := goodIn_r _ [50, 1, 51, 52, 53, 54, 55] (by decide +kernel) (by decide +kernel)
set_option maxRecDepth 20000 in
theorem gX2_count_X2_no : GoodIn wsX2_count (wsV RX2 36 RX2 yX2_no wsX2_no) := goodIn_app (goodIn_of _ (by decide +kernel)) ggX2_count_X2_no
theorem dX2_count_0 : decode cX2_count 0 = .ok (.aload_n 0, 1) := by decide +kernel
theorem dX2_count_1 : decode cX2_count 1 = .ok (.iconst 0, 1) := by decide +kernel
theorem dX2_count_2 : decode cX2_count 2 = .ok (.putfield 21, 3) := by decide +kernel
theorem dX2_count_5 : decode cX2_count 5 = .ok (.iload_n 1, 1) := by decide +kernel
theorem dX2_count_6 : decode cX2_count 6 = .ok (.iconst 0, 1) := by decide +kernel
theorem dX2_count_7 : decode cX2_count 7 = .ok (.bipush 10, 2) := by decide +kernel
theorem dX2_count_9 : decode cX2_count 9 = .ok (.invokestatic 25, 3) := by decide +kernel
theorem dX2_count_12 : decode cX2_count 12 = .ok (.ifCond .eq 11, 3) := by decide +kernel
theorem dX2_count_15 : decode cX2_count 15 = .ok (.aload_n 0, 1) := by decide +kernel
theorem dX2_count_16 : decode cX2_count 16 = .ok (.iload_n 1, 1) := by decide +kernel
theorem dX2_count_17 : decode cX2_count 17 = .ok (.invokevirtual 136, 3) := by decide +kernel
theorem dX2_count_20 : decode cX2_count 20 = .ok (.goto 8, 3) := by decide +kernel
theorem dX2_count_23 : decode cX2_count 23 = .ok (.aload_n 0, 1) := by decide +kernel
theorem dX2_count_24 : decode cX2_count 24 = .ok (.iconst 1, 1) := by decide +kernel
theorem dX2_count_25 : decode cX2_count 25 = .ok (.invokevirtual 36, 3) := by decide +kernel
theorem dX2_count_28 : decode cX2_count 28 = .ok (.ireturn, 1) := by decide +kernel
set_option maxRecDepth 20000 in
theorem ggX2_would_X2_isIn : GoodIn wsX2_would wsX2_isIn := goodIn_r _ [8] (by decide +kernel) (by decide +kernel)
set_option maxRecDepth 20000 in
theorem gX2_would_X2_isIn : GoodIn wsX2_would (va_wsS RX2 25 yX2_isIn wsX2_isIn) := goodIn_app (goodIn_of _ (by decide +kernel)) ggX2_would_X2_isIn
set_option maxRecDepth 20000 in
theorem ggX2_would_X2_no : GoodIn wsX2_would wsX2_no := goodIn_r _ [12, 1, 73, 74, 75, 76, 77] (by decide +kernel) (by decide +kernel)
set_option maxRecDepth 20000 in
theorem gX2_would_X2_no : GoodIn wsX2_would (wsV RX2 36 RX2 yX2_no wsX2_no) := goodIn_app (goodIn_of _ (by decide +kernel)) ggX2_would_X2_no
set_option maxRecDepth 20000 in
theorem ggX2_would_X1_become : GoodIn wsX2_would wsX1_become := goodIn_r _ [17, 18, 19, 20, 21, 22, 23, 24, 25, 26, 27, 28, 29, 30, 31, 16, 32, 33, 34, 35, 36, 78, 79, 80, 81, 82, 83, 84, 85, 86, 87, 88, 89, 90, 91, 92] (by decide +kernel) (by decide +kernel)
set_option maxRecDepth 20000 in
theorem gX2_would_X1_become : GoodIn wsX2_would (wsV RX2 139 RX1 yX1_become wsX1_become) := goodIn_app (goodIn_of _ (by decide +kernel)) ggX2_would_X1_become
set_option maxRecDepth 20000 in
theorem ggX2_would_X1_fall : GoodIn wsX2_would wsX1_fall := goodIn_r _ [40, 19, 18, 41, 42, 43, 20, 21, 25, 22, 27, 44, 45, 46, 47, 16, 48, 23, 24, 49, 50, 51, 52, 26, 53, 54, 55, 56, 57, 58, 59, 60, 28, 61, 62, 63, 64, 65, 66, 67, 68, 78, 79, 80, 81, 82, 83, 84, 85, 86, 87, 88, 89, 90, 91, 92, 73, 74, 75, 76, 77] (by decide +kernel) (by decide +kernel)
set_option maxRecDepth 20000 in
theorem gX2_would_X1_fall : GoodIn wsX2_would (wsV RX2 82 RX1 yX1_fall wsX1_fall) := goodIn_app (goodIn_of _ (by decide +kernel)) ggX2_would_X1_fall
set_option maxRecDepth 20000 in
theorem ggX2_would_X1_are : GoodIn wsX2_would wsX1_are := goodIn_r _ [72, 44, 45, 46, 47, 16, 48, 18, 23, 24, 78, 79, 80, 81, 82, 83, 84, 85, 86, 87, 88, 89, 90, 91, 92, 73, 74, 75, 76, 77] (by decide +kernel) (by decide +kernel)
set_option maxRecDepth 20000 in
theorem gX2_would_X1_are : GoodIn wsX2_would (wsV RX2 129 RX1 yX1_are wsX1_are) := goodIn_app (goodIn_of _ (by decide +kernel)) ggX2_would_X1_are
theorem dX2_would_0 : decode cX2_would 0 = .ok (.aload_n 0, 1) := by decide +kernel
theorem dX2_would_1 : decode cX2_would 1 = .ok (.iconst 0, 1) := by decide +kernel
theorem dX2_would_2 : decode cX2_would 2 = .ok (.putfield 21, 3) := by decide +kernel
theorem dX2_would_5 : decode cX2_would 5 = .ok (.iload_n 1, 1) := by decide +kernel
theorem dX2_would_6 : decode cX2_would 6 = .ok (.iconst 0, 1) := by decide +kernel
theorem dX2_would_7 : decode cX2_would 7 = .ok (.iconst 4, 1) := by decide +kernel
theorem dX2_would_8 : decode cX2_would 8 = .ok (.invokestatic 25, 3) := by decide +kernel
theorem dX2_would_11 : decode cX2_would 11 = .ok (.ifCond .ne 9, 3) := by decide +kernel
theorem dX2_would_14 : decode cX2_would 14 = .ok (.aload_n 0, 1) := by decide +kernel
theorem dX2_would_15 : decode cX2_would 15 = .ok (.iconst 1, 1) := by decide +kernel
theorem dX2_would_16 : decode cX2_would 16 = .ok (.invokevirtual 36, 3) := by decide +kernel
theorem dX2_would_19 : decode cX2_would 19 = .ok (.ireturn, 1) := by decide +kernel
theorem dX2_would_20 : decode cX2_would 20 = .ok (.aload_n 0, 1) := by decide +kernel
theorem dX2_would_21 : decode cX2_would 21 = .ok (.getfield 18, 3) := by decide +kernel
theorem dX2_would_24 : decode cX2_would 24 = .ok (.aload_n 0, 1) := by decide +kernel
theorem dX2_would_25 : decode cX2_would 25 = .ok (.getfield 12, 3) := by decide +kernel
theorem dX2_would_28 : decode cX2_would 28 = .ok (.invokevirtual 139, 3) := by decide +kernel
theorem dX2_would_31 : decode cX2_would 31 = .ok (.aload_n 0, 1) := by decide +kernel
theorem dX2_would_32 : decode cX2_would 32 = .ok (.getfield 18, 3) := by decide +kernel
theorem dX2_would_35 : decode cX2_would 35 = .ok (.invokevirtual 82, 3) := by decide +kernel
theorem dX2_would_38 : decode cX2_would 38 = .ok (.iconst 5, 1) := by decide +kernel
theorem dX2_would_39 : decode cX2_would 39 = .ok (.newarray .int, 2) := by decide +kernel
theorem dX2_would_41 : decode cX2_would 41 = .ok (.dup, 1) := by decide +kernel
theorem dX2_would_42 : decode cX2_would 42 = .ok (.iconst 0, 1) := by decide +kernel
theorem dX2_would_43 : decode cX2_would 43 = .ok (.aload_n 0, 1) := by decide +kernel
theorem dX2_would_44 : decode cX2_would 44 = .ok (.getfield 12, 3) := by decide +kernel
theorem dX2_would_47 : decode cX2_would 47 = .ok (.getfield 64, 3) := by decide +kernel
theorem dX2_would_50 : decode cX2_would 50 = .ok (.aload_n 0, 1) := by decide +kernel
theorem dX2_would_51 : decode cX2_would 51 = .ok (.getfield 12, 3) := by decide +kernel
theorem dX2_would_54 : decode cX2_would 54 = .ok (.getfield 123, 3) := by decide +kernel
theorem dX2_would_57 : decode cX2_would 57 = .ok (.isub, 1) := by decide +kernel
theorem dX2_would_58 : decode cX2_would 58 = .ok (.iastore, 1) := by decide +kernel
theorem dX2_would_59 : decode cX2_would 59 = .ok (.dup, 1) := by decide +kernel
theorem dX2_would_60 : decode cX2_would 60 = .ok (.iconst 1, 1) := by decide +kernel
theorem dX2_would_61 : decode cX2_would 61 = .ok (.aload_n 0, 1) := by decide +kernel
theorem dX2_would_62 : decode cX2_would 62 = .ok (.getfield 18, 3) := by decide +kernel
theorem dX2_would_65 : decode cX2_would 65 = .ok (.getfield 88, 3) := by decide +kernel
theorem dX2_would_68 : decode cX2_would 68 = .ok (.iastore, 1) := by decide +kernel
theorem dX2_would_69 : decode cX2_would 69 = .ok (.dup, 1) := by decide +kernel
theorem dX2_would_70 : decode cX2_would 70 = .ok (.iconst 2, 1) := by decide +kernel
theorem dX2_would_71 : decode cX2_would 71 = .ok (.aload_n 0, 1) := by decide +kernel
theorem dX2_would_72 : decode cX2_would 72 = .ok (.getfield 18, 3) := by decide +kernel
theorem dX2_would_75 : decode cX2_would 75 = .ok (.getfield 143, 3) := by decide +kernel
theorem dX2_would_78 : decode cX2_would 78 = .ok (.iastore, 1) := by decide +kernel
theorem dX2_would_79 : decode cX2_would 79 = .ok (.dup, 1) := by decide +kernel
theorem dX2_would_80 : decode cX2_would 80 = .ok (.iconst 3, 1) := by decide +kernel
theorem dX2_would_81 : decode cX2_would 81 = .ok (.aload_n 0, 1) := by decide +kernel
theorem dX2_would_82 : decode cX2_would 82 = .ok (.getfield 18, 3) := by decide +kernel
theorem dX2_would_85 : decode cX2_would 85 = .ok (.getfield 146, 3) := by decide +kernel
theorem dX2_would_88 : decode cX2_would 88 = .ok (.iastore, 1) := by decide +kernel
theorem dX2_would_89 : decode cX2_would 89 = .ok (.dup, 1) := by decide +kernel
theorem dX2_would_90 : decode cX2_would 90 = .ok (.iconst 4, 1) := by decide +kernel
theorem dX2_would_91 : decode cX2_would 91 = .ok (.aload_n 0, 1) := by decide +kernel
theorem dX2_would_92 : decode cX2_would 92 = .ok (.getfield 18, 3) := by decide +kernel
theorem dX2_would_95 : decode cX2_would 95 = .ok (.iconst 3, 1) := by decide +kernel
theorem dX2_would_96 : decode cX2_would 96 = .ok (.invokevirtual 129, 3) := by decide +kernel
theorem dX2_would_99 : decode cX2_would 99 = .ok (.aload_n 0, 1) := by decide +kernel
theorem dX2_would_100 : decode cX2_would 100 = .ok (.getfield 12, 3) := by decide +kernel
theorem dX2_would_103 : decode cX2_would 103 = .ok (.iconst 3, 1) := by decide +kernel
theorem dX2_would_104 : decode cX2_would 104 = .ok (.invokevirtual 129, 3) := by decide +kernel
theorem dX2_would_107 : decode cX2_would 107 = .ok (.isub, 1) := by decide +kernel
theorem dX2_would_108 : decode cX2_would 108 = .ok (.iastore, 1) := by decide +kernel
theorem dX2_would_109 : decode cX2_would 109 = .ok (.astore_n 2, 1) := by decide +kernel
theorem dX2_would_110 : decode cX2_would 110 = .ok (.aload_n 2, 1) := by decide +kernel
theorem dX2_would_111 : decode cX2_would 111 = .ok (.iload_n 1, 1) := by decide +kernel
theorem dX2_would_112 : decode cX2_would 112 = .ok (.iaload, 1) := by decide +kernel
theorem dX2_would_113 : decode cX2_would 113 = .ok (.ireturn, 1) := by decide +kernel
set_option maxRecDepth 20000 in
theorem ggX2_left_X2_isPot : GoodIn wsX2_left wsX2_isPot := goodIn_r _ [7, 8, 9, 6, 10] (by decide +kernel) (by decide +kernel)
set_option maxRecDepth 20000 in
theorem gX2_left_X2_isPot : GoodIn wsX2_left (va_wsS RX2 48 yX2_isPot wsX2_isPot) := goodIn_app (goodIn_of _ (by decide +kernel)) ggX2_left_X2_isPot
set_option maxRecDepth 20000 in
theorem ggX2_left_X2_no : GoodIn wsX2_left wsX2_no := goodIn_r _ [14, 1, 71, 72, 73, 74, 75] (by decide +kernel) (by decide +kernel)
set_option maxRecDepth 20000 in
theorem gX2_left_X2_no : GoodIn wsX2_left (wsV RX2 36 RX2 yX2_no wsX2_no) := goodIn_app (goodIn_of _ (by decide +kernel)) ggX2_left_X2_no
set_option maxRecDepth 20000 in
theorem ggX2_left_X1_become : GoodIn wsX2_left wsX1_become := goodIn_r _ [19, 20, 21, 22, 23, 24, 25, 26, 27, 28, 29, 30, 31, 32, 33, 18, 34, 35, 36, 37, 38, 76, 77, 78, 79, 80, 81, 82, 83, 84, 85, 86, 87, 88, 89, 90] (by decide +kernel) (by decide +kernel)
set_option maxRecDepth 20000 in
theorem gX2_left_X1_become : GoodIn wsX2_left (wsV RX2 139 RX1 yX1_become wsX1_become) := goodIn_app (goodIn_of _ (by decide +kernel)) ggX2_left_X1_become
set_option maxRecDepth 20000 in
theorem ggX2_left_X1_fall : GoodIn wsX2_left wsX1_fall := goodIn_r _ [42, 21, 20, 43, 44, 45, 22, 23, 27, 24, 29, 46, 47, 48, 49, 18, 50, 25, 26, 51, 52, 53, 54, 28, 55, 56, 57, 58, 59, 60, 61, 62, 30, 63, 64, 65, 66, 67, 68, 69, 70, 76, 77, 78, 79, 80, 81, 82, 83, 84, 85, 86, 87, 88, 89, 90, 71, 72, 73, 74, 75] (by decide +kernel) (by decide +kernel)
set_option maxRecDepth 20000 in
theorem gX2_left_X1_fall : GoodIn wsX2_left (wsV RX2 82 RX1 yX1_fall wsX1_fall) := goodIn_app (goodIn_of _ (by decide +kernel)) ggX2_left_X1_fall
theorem dX2_left_0 : decode cX2_left 0 = .ok (.aload_n 0, 1) := by decide +kernel
theorem dX2_left_1 : decode cX2_left 1 = .ok (.iconst 0, 1) := by decide +kernel
theorem dX2_left_2 : decode cX2_left 2 = .ok (.putfield 21, 3) := by decide +kernel
theorem dX2_left_5 : decode cX2_left 5 = .ok (.iload_n 1, 1) := by decide +kernel
theorem dX2_left_6 : decode cX2_left 6 = .ok (.invokestatic 48, 3) := by decide +kernel
theorem dX2_left_9 : decode cX2_left 9 = .ok (.ifCond .ne 9, 3) := by decide +kernel
theorem dX2_left_12 : decode cX2_left 12 = .ok (.aload_n 0, 1) := by decide +kernel
theorem dX2_left_13 : decode cX2_left 13 = .ok (.iconst 1, 1) := by decide +kernel
theorem dX2_left_14 : decode cX2_left 14 = .ok (.invokevirtual 36, 3) := by decide +kernel
theorem dX2_left_17 : decode cX2_left 17 = .ok (.ireturn, 1) := by decide +kernel
theorem dX2_left_18 : decode cX2_left 18 = .ok (.aload_n 0, 1) := by decide +kernel
theorem dX2_left_19 : decode cX2_left 19 = .ok (.getfield 18, 3) := by decide +kernel
theorem dX2_left_22 : decode cX2_left 22 = .ok (.aload_n 0, 1) := by decide +kernel
theorem dX2_left_23 : decode cX2_left 23 = .ok (.getfield 12, 3) := by decide +kernel
theorem dX2_left_26 : decode cX2_left 26 = .ok (.invokevirtual 139, 3) := by decide +kernel
theorem dX2_left_29 : decode cX2_left 29 = .ok (.aload_n 0, 1) := by decide +kernel
theorem dX2_left_30 : decode cX2_left 30 = .ok (.getfield 18, 3) := by decide +kernel
theorem dX2_left_33 : decode cX2_left 33 = .ok (.invokevirtual 82, 3) := by decide +kernel
theorem dX2_left_36 : decode cX2_left 36 = .ok (.aload_n 0, 1) := by decide +kernel
theorem dX2_left_37 : decode cX2_left 37 = .ok (.getfield 18, 3) := by decide +kernel
theorem dX2_left_40 : decode cX2_left 40 = .ok (.getfield 57, 3) := by decide +kernel
theorem dX2_left_43 : decode cX2_left 43 = .ok (.iload_n 1, 1) := by decide +kernel
theorem dX2_left_44 : decode cX2_left 44 = .ok (.iaload, 1) := by decide +kernel
theorem dX2_left_45 : decode cX2_left 45 = .ok (.ireturn, 1) := by decide +kernel
set_option maxRecDepth 20000 in
theorem ggX2_mean_X1_sum : GoodIn wsX2_mean wsX1_sum := goodIn_r _ [8] (by decide +kernel) (by decide +kernel)
set_option maxRecDepth 20000 in
theorem gX2_mean_X1_sum : GoodIn wsX2_mean (wsV RX2 132 RX1 yX1_sum wsX1_sum) := goodIn_app (goodIn_of _ (by decide +kernel)) ggX2_mean_X1_sum
theorem dX2_mean_0 : decode cX2_mean 0 = .ok (.aload_n 0, 1) := by decide +kernel
theorem dX2_mean_1 : decode cX2_mean 1 = .ok (.iconst 0, 1) := by decide +kernel
theorem dX2_mean_2 : decode cX2_mean 2 = .ok (.putfield 21, 3) := by decide +kernel
theorem dX2_mean_5 : decode cX2_mean 5 = .ok (.aload_n 0, 1) := by decide +kernel
theorem dX2_mean_6 : decode cX2_mean 6 = .ok (.getfield 12, 3) := by decide +kernel
theorem dX2_mean_9 : decode cX2_mean 9 = .ok (.aload_n 0, 1) := by decide +kernel
theorem dX2_mean_10 : decode cX2_mean 10 = .ok (.getfield 12, 3) := by decide +kernel
theorem dX2_mean_13 : decode cX2_mean 13 = .ok (.getfield 57, 3) := by decide +kernel
theorem dX2_mean_16 : decode cX2_mean 16 = .ok (.invokevirtual 132, 3) := by decide +kernel
theorem dX2_mean_19 : decode cX2_mean 19 = .ok (.i2d, 1) := by decide +kernel
theorem dX2_mean_20 : decode cX2_mean 20 = .ok (.ldc2_w 149, 3) := by decide +kernel
theorem dX2_mean_23 : decode cX2_mean 23 = .ok (.ddiv, 1) := by decide +kernel
theorem dX2_mean_24 : decode cX2_mean 24 = .ok (.dreturn, 1) := by decide +kernel
set_option maxRecDepth 20000 in
theorem ggX2_digest_X2_counted : GoodIn wsX2_digest wsX2_counted := goodIn_r _ [10, 5, 4, 11, 12, 13, 14, 15, 16, 17, 18, 19, 20, 21, 22, 23, 24, 25, 26, 27, 28, 29, 30, 31, 32, 33, 34, 35, 36, 37, 38, 39, 40, 41, 42, 43, 44, 45, 75, 76, 77, 78, 79, 80, 81, 82, 83, 84, 85, 86, 87, 88, 89, 90, 91, 92, 93, 94] (by decide +kernel) (by decide +kernel)
set_option maxRecDepth 20000 in
theorem gX2_digest_X2_counted : GoodIn wsX2_digest (wsV RX2 136 RX2 yX2_counted wsX2_counted) := goodIn_app (goodIn_of _ (by decide +kernel)) ggX2_digest_X2_counted
set_option maxRecDepth 20000 in
theorem ggX2_digest_X2_potTold : GoodIn wsX2_digest wsX2_potTold := goodIn_r _ [49, 50, 5, 51, 52, 53, 15, 54, 17, 55, 56, 57, 58, 22, 23, 24, 59, 18, 19, 20, 21, 60, 61, 62, 63, 75, 76, 77, 78, 79, 80, 81, 82, 83, 84, 85, 86, 87, 88, 89, 90, 91, 92, 93, 94] (by decide +kernel) (by decide +kernel)
set_option maxRecDepth 20000 in
theorem gX2_digest_X2_potTold : GoodIn wsX2_digest (wsV RX2 91 RX2 yX2_potTold wsX2_potTold) := goodIn_app (goodIn_of _ (by decide +kernel)) ggX2_digest_X2_potTold
set_option maxRecDepth 20000 in
theorem ggX2_digest_X2_dishTold : GoodIn wsX2_digest wsX2_dishTold := goodIn_r _ [67, 5, 50, 68, 56, 57, 15, 58, 22, 23, 24, 59, 18, 19, 20, 21, 69, 70, 30, 31, 32, 33, 34, 35, 36, 37, 38, 39, 40, 41, 75, 76, 77, 78, 79, 80, 81, 82, 83, 84, 85, 86, 87, 88, 89, 90, 91, 92, 93, 94] (by decide +kernel) (by decide +kernel)
set_option maxRecDepth 20000 in
theorem gX2_digest_X2_dishTold : GoodIn wsX2_digest (wsV RX2 105 RX2 yX2_dishTold wsX2_dishTold) := goodIn_app (goodIn_of _ (by decide +kernel)) ggX2_digest_X2_dishTold
set_option maxRecDepth 20000 in
theorem ggX2_digest_X2_lineTold : GoodIn wsX2_digest wsX2_lineTold := goodIn_r _ [74, 50, 5, 75, 76, 77, 78, 79, 80, 81, 82, 83, 84, 85, 86, 87, 88, 89, 90, 91, 92, 93, 94] (by decide +kernel) (by decide +kernel)
set_option maxRecDepth 20000 in
theorem gX2_digest_X2_lineTold : GoodIn wsX2_digest (wsV RX2 126 RX2 yX2_lineTold wsX2_lineTold) := goodIn_app (goodIn_of _ (by decide +kernel)) ggX2_digest_X2_lineTold
theorem dX2_digest_0 : decode cX2_digest 0 = .ok (.aload_n 0, 1) := by decide +kernel
theorem dX2_digest_1 : decode cX2_digest 1 = .ok (.iconst 0, 1) := by decide +kernel
theorem dX2_digest_2 : decode cX2_digest 2 = .ok (.putfield 21, 3) := by decide +kernel
theorem dX2_digest_5 : decode cX2_digest 5 = .ok (.ldc2_w 151, 3) := by decide +kernel
theorem dX2_digest_8 : decode cX2_digest 8 = .ok (.lstore_n 1, 1) := by decide +kernel
theorem dX2_digest_9 : decode cX2_digest 9 = .ok (.iconst 0, 1) := by decide +kernel
theorem dX2_digest_10 : decode cX2_digest 10 = .ok (.istore_n 3, 1) := by decide +kernel
theorem dX2_digest_11 : decode cX2_digest 11 = .ok (.iload_n 3, 1) := by decide +kernel
theorem dX2_digest_12 : decode cX2_digest 12 = .ok (.bipush 11, 2) := by decide +kernel
theorem dX2_digest_14 : decode cX2_digest 14 = .ok (.if_icmp .ge 22, 3) := by decide +kernel
theorem dX2_digest_17 : decode cX2_digest 17 = .ok (.lload_n 1, 1) := by decide +kernel
theorem dX2_digest_18 : decode cX2_digest 18 = .ok (.ldc2_w 153, 3) := by decide +kernel
theorem dX2_digest_21 : decode cX2_digest 21 = .ok (.lmul, 1) := by decide +kernel
theorem dX2_digest_22 : decode cX2_digest 22 = .ok (.aload_n 0, 1) := by decide +kernel
theorem dX2_digest_23 : decode cX2_digest 23 = .ok (.iload_n 3, 1) := by decide +kernel
theorem dX2_digest_24 : decode cX2_digest 24 = .ok (.invokevirtual 136, 3) := by decide +kernel
theorem dX2_digest_27 : decode cX2_digest 27 = .ok (.i2l, 1) := by decide +kernel
theorem dX2_digest_28 : decode cX2_digest 28 = .ok (.ladd, 1) := by decide +kernel
theorem dX2_digest_29 : decode cX2_digest 29 = .ok (.lstore_n 1, 1) := by decide +kernel
theorem dX2_digest_30 : decode cX2_digest 30 = .ok (.iinc 3 1, 3) := by decide +kernel
theorem dX2_digest_33 : decode cX2_digest 33 = .ok (.goto (-22), 3) := by decide +kernel
theorem dX2_digest_36 : decode cX2_digest 36 = .ok (.iconst 0, 1) := by decide +kernel
theorem dX2_digest_37 : decode cX2_digest 37 = .ok (.istore_n 3, 1) := by decide +kernel
theorem dX2_digest_38 : decode cX2_digest 38 = .ok (.iload_n 3, 1) := by decide +kernel
theorem dX2_digest_39 : decode cX2_digest 39 = .ok (.bipush 8, 2) := by decide +kernel
theorem dX2_digest_41 : decode cX2_digest 41 = .ok (.if_icmp .ge 39, 3) := by decide +kernel
theorem dX2_digest_44 : decode cX2_digest 44 = .ok (.iconst 0, 1) := by decide +kernel
theorem dX2_digest_45 : decode cX2_digest 45 = .ok (.istore 4, 2) := by decide +kernel
theorem dX2_digest_47 : decode cX2_digest 47 = .ok (.iload 4, 2) := by decide +kernel
theorem dX2_digest_49 : decode cX2_digest 49 = .ok (.iconst 5, 1) := by decide +kernel
theorem dX2_digest_50 : decode cX2_digest 50 = .ok (.if_icmp .ge 24, 3) := by decide +kernel
theorem dX2_digest_53 : decode cX2_digest 53 = .ok (.lload_n 1, 1) := by decide +kernel
theorem dX2_digest_54 : decode cX2_digest 54 = .ok (.ldc2_w 153, 3) := by decide +kernel
theorem dX2_digest_57 : decode cX2_digest 57 = .ok (.lmul, 1) := by decide +kernel
theorem dX2_digest_58 : decode cX2_digest 58 = .ok (.aload_n 0, 1) := by decide +kernel
theorem dX2_digest_59 : decode cX2_digest 59 = .ok (.iload_n 3, 1) := by decide +kernel
theorem dX2_digest_60 : decode cX2_digest 60 = .ok (.iload 4, 2) := by decide +kernel
theorem dX2_digest_62 : decode cX2_digest 62 = .ok (.invokevirtual 91, 3) := by decide +kernel
theorem dX2_digest_65 : decode cX2_digest 65 = .ok (.i2l, 1) := by decide +kernel
theorem dX2_digest_66 : decode cX2_digest 66 = .ok (.ladd, 1) := by decide +kernel
theorem dX2_digest_67 : decode cX2_digest 67 = .ok (.lstore_n 1, 1) := by decide +kernel
theorem dX2_digest_68 : decode cX2_digest 68 = .ok (.iinc 4 1, 3) := by decide +kernel
theorem dX2_digest_71 : decode cX2_digest 71 = .ok (.goto (-24), 3) := by decide +kernel
theorem dX2_digest_74 : decode cX2_digest 74 = .ok (.iinc 3 1, 3) := by decide +kernel
theorem dX2_digest_77 : decode cX2_digest 77 = .ok (.goto (-39), 3) := by decide +kernel
theorem dX2_digest_80 : decode cX2_digest 80 = .ok (.iconst 0, 1) := by decide +kernel
theorem dX2_digest_81 : decode cX2_digest 81 = .ok (.istore_n 3, 1) := by decide +kernel
theorem dX2_digest_82 : decode cX2_digest 82 = .ok (.iload_n 3, 1) := by decide +kernel
theorem dX2_digest_83 : decode cX2_digest 83 = .ok (.aload_n 0, 1) := by decide +kernel
theorem dX2_digest_84 : decode cX2_digest 84 = .ok (.getfield 29, 3) := by decide +kernel
theorem dX2_digest_87 : decode cX2_digest 87 = .ok (.if_icmp .ge 39, 3) := by decide +kernel
theorem dX2_digest_90 : decode cX2_digest 90 = .ok (.iconst 0, 1) := by decide +kernel
theorem dX2_digest_91 : decode cX2_digest 91 = .ok (.istore 4, 2) := by decide +kernel
theorem dX2_digest_93 : decode cX2_digest 93 = .ok (.iload 4, 2) := by decide +kernel
theorem dX2_digest_95 : decode cX2_digest 95 = .ok (.iconst 5, 1) := by decide +kernel
theorem dX2_digest_96 : decode cX2_digest 96 = .ok (.if_icmp .ge 24, 3) := by decide +kernel
theorem dX2_digest_99 : decode cX2_digest 99 = .ok (.lload_n 1, 1) := by decide +kernel
theorem dX2_digest_100 : decode cX2_digest 100 = .ok (.ldc2_w 153, 3) := by decide +kernel
theorem dX2_digest_103 : decode cX2_digest 103 = .ok (.lmul, 1) := by decide +kernel
theorem dX2_digest_104 : decode cX2_digest 104 = .ok (.aload_n 0, 1) := by decide +kernel
theorem dX2_digest_105 : decode cX2_digest 105 = .ok (.iload_n 3, 1) := by decide +kernel
theorem dX2_digest_106 : decode cX2_digest 106 = .ok (.iload 4, 2) := by decide +kernel
theorem dX2_digest_108 : decode cX2_digest 108 = .ok (.invokevirtual 105, 3) := by decide +kernel
theorem dX2_digest_111 : decode cX2_digest 111 = .ok (.i2l, 1) := by decide +kernel
theorem dX2_digest_112 : decode cX2_digest 112 = .ok (.ladd, 1) := by decide +kernel
theorem dX2_digest_113 : decode cX2_digest 113 = .ok (.lstore_n 1, 1) := by decide +kernel
theorem dX2_digest_114 : decode cX2_digest 114 = .ok (.iinc 4 1, 3) := by decide +kernel
theorem dX2_digest_117 : decode cX2_digest 117 = .ok (.goto (-24), 3) := by decide +kernel
theorem dX2_digest_120 : decode cX2_digest 120 = .ok (.iinc 3 1, 3) := by decide +kernel
theorem dX2_digest_123 : decode cX2_digest 123 = .ok (.goto (-41), 3) := by decide +kernel
theorem dX2_digest_126 : decode cX2_digest 126 = .ok (.iconst 0, 1) := by decide +kernel
theorem dX2_digest_127 : decode cX2_digest 127 = .ok (.istore_n 3, 1) := by decide +kernel
theorem dX2_digest_128 : decode cX2_digest 128 = .ok (.iload_n 3, 1) := by decide +kernel
theorem dX2_digest_129 : decode cX2_digest 129 = .ok (.aload_n 0, 1) := by decide +kernel
theorem dX2_digest_130 : decode cX2_digest 130 = .ok (.getfield 12, 3) := by decide +kernel
theorem dX2_digest_133 : decode cX2_digest 133 = .ok (.getfield 64, 3) := by decide +kernel
theorem dX2_digest_136 : decode cX2_digest 136 = .ok (.if_icmp .ge 40, 3) := by decide +kernel
theorem dX2_digest_139 : decode cX2_digest 139 = .ok (.iconst 0, 1) := by decide +kernel
theorem dX2_digest_140 : decode cX2_digest 140 = .ok (.istore 4, 2) := by decide +kernel
theorem dX2_digest_142 : decode cX2_digest 142 = .ok (.iload 4, 2) := by decide +kernel
theorem dX2_digest_144 : decode cX2_digest 144 = .ok (.bipush 7, 2) := by decide +kernel
theorem dX2_digest_146 : decode cX2_digest 146 = .ok (.if_icmp .ge 24, 3) := by decide +kernel
theorem dX2_digest_149 : decode cX2_digest 149 = .ok (.lload_n 1, 1) := by decide +kernel
theorem dX2_digest_150 : decode cX2_digest 150 = .ok (.ldc2_w 153, 3) := by decide +kernel
theorem dX2_digest_153 : decode cX2_digest 153 = .ok (.lmul, 1) := by decide +kernel
theorem dX2_digest_154 : decode cX2_digest 154 = .ok (.aload_n 0, 1) := by decide +kernel
theorem dX2_digest_155 : decode cX2_digest 155 = .ok (.iload_n 3, 1) := by decide +kernel
theorem dX2_digest_156 : decode cX2_digest 156 = .ok (.iload 4, 2) := by decide +kernel
theorem dX2_digest_158 : decode cX2_digest 158 = .ok (.invokevirtual 126, 3) := by decide +kernel
theorem dX2_digest_161 : decode cX2_digest 161 = .ok (.i2l, 1) := by decide +kernel
theorem dX2_digest_162 : decode cX2_digest 162 = .ok (.ladd, 1) := by decide +kernel
theorem dX2_digest_163 : decode cX2_digest 163 = .ok (.lstore_n 1, 1) := by decide +kernel
theorem dX2_digest_164 : decode cX2_digest 164 = .ok (.iinc 4 1, 3) := by decide +kernel
theorem dX2_digest_167 : decode cX2_digest 167 = .ok (.goto (-25), 3) := by decide +kernel
theorem dX2_digest_170 : decode cX2_digest 170 = .ok (.iinc 3 1, 3) := by decide +kernel
theorem dX2_digest_173 : decode cX2_digest 173 = .ok (.goto (-45), 3) := by decide +kernel
theorem dX2_digest_176 : decode cX2_digest 176 = .ok (.lload_n 1, 1) := by decide +kernel
theorem dX2_digest_177 : decode cX2_digest 177 = .ok (.lreturn, 1) := by decide +kernel
theorem dJ9_max_7cf53_0 : decode cJ9_max_7cf53 0 = .ok (.iload_n 0, 1) := by decide +kernel
theorem dJ9_max_7cf53_1 : decode cJ9_max_7cf53 1 = .ok (.iload_n 1, 1) := by decide +kernel
theorem dJ9_max_7cf53_2 : decode cJ9_max_7cf53 2 = .ok (.if_icmp .lt 7, 3) := by decide +kernel
theorem dJ9_max_7cf53_5 : decode cJ9_max_7cf53 5 = .ok (.iload_n 0, 1) := by decide +kernel
theorem dJ9_max_7cf53_6 : decode cJ9_max_7cf53 6 = .ok (.goto 4, 3) := by decide +kernel
theorem dJ9_max_7cf53_9 : decode cJ9_max_7cf53 9 = .ok (.iload_n 1, 1) := by decide +kernel
theorem dJ9_max_7cf53_10 : decode cJ9_max_7cf53 10 = .ok (.ireturn, 1) := by decide +kernel
theorem dJ7_fill_53178_0 : decode cJ7_fill_53178 0 = .ok (.iconst 0, 1) := by decide +kernel
theorem dJ7_fill_53178_1 : decode cJ7_fill_53178 1 = .ok (.istore_n 2, 1) := by decide +kernel
theorem dJ7_fill_53178_2 : decode cJ7_fill_53178 2 = .ok (.aload_n 0, 1) := by decide +kernel
theorem dJ7_fill_53178_3 : decode cJ7_fill_53178 3 = .ok (.arraylength, 1) := by decide +kernel
theorem dJ7_fill_53178_4 : decode cJ7_fill_53178 4 = .ok (.istore_n 3, 1) := by decide +kernel
theorem dJ7_fill_53178_5 : decode cJ7_fill_53178 5 = .ok (.iload_n 2, 1) := by decide +kernel
theorem dJ7_fill_53178_6 : decode cJ7_fill_53178 6 = .ok (.iload_n 3, 1) := by decide +kernel
theorem dJ7_fill_53178_7 : decode cJ7_fill_53178 7 = .ok (.if_icmp .ge 13, 3) := by decide +kernel
theorem dJ7_fill_53178_10 : decode cJ7_fill_53178 10 = .ok (.aload_n 0, 1) := by decide +kernel
theorem dJ7_fill_53178_11 : decode cJ7_fill_53178 11 = .ok (.iload_n 2, 1) := by decide +kernel
theorem dJ7_fill_53178_12 : decode cJ7_fill_53178 12 = .ok (.iload_n 1, 1) := by decide +kernel
theorem dJ7_fill_53178_13 : decode cJ7_fill_53178 13 = .ok (.iastore, 1) := by decide +kernel
theorem dJ7_fill_53178_14 : decode cJ7_fill_53178 14 = .ok (.iinc 2 1, 3) := by decide +kernel
theorem dJ7_fill_53178_17 : decode cJ7_fill_53178 17 = .ok (.goto (-12), 3) := by decide +kernel
theorem dJ7_fill_53178_20 : decode cJ7_fill_53178 20 = .ok (.return_, 1) := by decide +kernel
set_option maxRecDepth 20000 in
theorem ggL_begin_X0_begin : GoodIn wsL_begin wsX0_begin := goodIn_ca (goodIn_r _ [6, 7, 8, 9, 10, 11, 12, 13, 5, 14, 15, 16, 17, 18, 19, 20, 21, 22, 23, 24, 25, 26, 27, 28, 29, 30, 31, 32, 33, 34, 35, 36, 37, 38, 39, 40, 41, 42, 43, 44, 45, 46, 47, 48, 49, 50, 51, 52, 53, 54, 55, 56, 57, 58, 59, 60, 61, 62] (by decide +kernel) (by decide +kernel)) (goodIn_sub (fun _ h => List.mem_cons_of_mem _ (List.mem_append_right _ h)) (by decide +kernel))
set_option maxRecDepth 20000 in
theorem gL_begin_X0_begin : GoodIn wsL_begin (wsV RL 7 RX0 yX0_begin wsX0_begin) := goodIn_app (goodIn_of _ (by decide +kernel)) ggL_begin_X0_begin
theorem dL_begin_0 : decode cL_begin 0 = .ok (.aload_n 1, 1) := by decide +kernel
theorem dL_begin_1 : decode cL_begin 1 = .ok (.iconst 0, 1) := by decide +kernel
theorem dL_begin_2 : decode cL_begin 2 = .ok (.aload_n 0, 1) := by decide +kernel
theorem dL_begin_3 : decode cL_begin 3 = .ok (.invokevirtual 7, 3) := by decide +kernel
theorem dL_begin_6 : decode cL_begin 6 = .ok (.i2l, 1) := by decide +kernel
theorem dL_begin_7 : decode cL_begin 7 = .ok (.lastore, 1) := by decide +kernel
theorem dL_begin_8 : decode cL_begin 8 = .ok (.goto 6, 3) := by decide +kernel
theorem dL_begin_11 : decode cL_begin 11 = .ok (.astore_n 2, 1) := by decide +kernel
theorem dL_begin_12 : decode cL_begin 12 = .ok (.iconst 1, 1) := by decide +kernel
theorem dL_begin_13 : decode cL_begin 13 = .ok (.ireturn, 1) := by decide +kernel
theorem dL_begin_14 : decode cL_begin 14 = .ok (.iconst 0, 1) := by decide +kernel
theorem dL_begin_15 : decode cL_begin 15 = .ok (.ireturn, 1) := by decide +kernel
set_option maxRecDepth 20000 in
theorem ggL_cook_X0_cook : GoodIn wsL_cook wsX0_cook := goodIn_ca (goodIn_ca (goodIn_ca (goodIn_r _ [8, 9, 10, 11, 12, 13, 14, 15, 16, 17, 18, 7, 19, 20, 21, 22, 23, 24, 25, 26, 27, 28, 29, 30, 31, 32, 33, 34, 35, 36, 37, 38, 39, 40, 41, 42, 43, 44, 45, 46, 47, 48, 49, 50, 51, 52, 53, 54, 55, 56, 57, 58, 59, 60, 61, 62, 63, 64, 65, 66, 67, 68, 69, 70, 71, 72, 73, 74, 75, 76, 77, 78, 79, 80, 81, 82, 83, 84] (by decide +kernel) (by decide +kernel)) (goodIn_sub (fun _ h => List.mem_cons_of_mem _ (List.mem_append_left _ (List.mem_append_left _ (List.mem_append_right _ h)))) (by decide +kernel))) (goodIn_sub (fun _ h => List.mem_cons_of_mem _ (List.mem_append_left _ (List.mem_append_right _ h))) (by decide +kernel))) (goodIn_sub (fun _ h => List.mem_cons_of_mem _ (List.mem_append_right _ h)) (by decide +kernel))
set_option maxRecDepth 20000 in
theorem gL_cook_X0_cook : GoodIn wsL_cook (wsV RL 15 RX0 yX0_cook wsX0_cook) := goodIn_app (goodIn_of _ (by decide +kernel)) ggL_cook_X0_cook
theorem dL_cook_0 : decode cL_cook 0 = .ok (.aload 4, 2) := by decide +kernel
theorem dL_cook_2 : decode cL_cook 2 = .ok (.iconst 0, 1) := by decide +kernel
theorem dL_cook_3 : decode cL_cook 3 = .ok (.aload_n 0, 1) := by decide +kernel
theorem dL_cook_4 : decode cL_cook 4 = .ok (.iload_n 1, 1) := by decide +kernel
theorem dL_cook_5 : decode cL_cook 5 = .ok (.iload_n 2, 1) := by decide +kernel
theorem dL_cook_6 : decode cL_cook 6 = .ok (.iload_n 3, 1) := by decide +kernel
theorem dL_cook_7 : decode cL_cook 7 = .ok (.invokevirtual 15, 3) := by decide +kernel
theorem dL_cook_10 : decode cL_cook 10 = .ok (.i2l, 1) := by decide +kernel
theorem dL_cook_11 : decode cL_cook 11 = .ok (.lastore, 1) := by decide +kernel
theorem dL_cook_12 : decode cL_cook 12 = .ok (.goto 15, 3) := by decide +kernel
theorem dL_cook_15 : decode cL_cook 15 = .ok (.astore 5, 2) := by decide +kernel
theorem dL_cook_17 : decode cL_cook 17 = .ok (.iconst 1, 1) := by decide +kernel
theorem dL_cook_18 : decode cL_cook 18 = .ok (.ireturn, 1) := by decide +kernel
theorem dL_cook_19 : decode cL_cook 19 = .ok (.astore 5, 2) := by decide +kernel
theorem dL_cook_21 : decode cL_cook 21 = .ok (.iconst 2, 1) := by decide +kernel
theorem dL_cook_22 : decode cL_cook 22 = .ok (.ireturn, 1) := by decide +kernel
theorem dL_cook_23 : decode cL_cook 23 = .ok (.astore 5, 2) := by decide +kernel
theorem dL_cook_25 : decode cL_cook 25 = .ok (.iconst 3, 1) := by decide +kernel
theorem dL_cook_26 : decode cL_cook 26 = .ok (.ireturn, 1) := by decide +kernel
theorem dL_cook_27 : decode cL_cook 27 = .ok (.iconst 0, 1) := by decide +kernel
theorem dL_cook_28 : decode cL_cook 28 = .ok (.ireturn, 1) := by decide +kernel
set_option maxRecDepth 20000 in
theorem ggL_finish_X0_finish : GoodIn wsL_finish wsX0_finish := goodIn_ca (goodIn_ca (goodIn_r _ [7, 8, 9, 10, 11, 12, 13, 14, 15, 16, 6, 17, 18, 19, 20, 21, 22, 23, 24, 25, 26, 27, 28, 29, 30, 31, 32, 33, 34, 35, 36, 37, 38, 39, 40, 41, 42, 43, 44, 45, 46, 47, 48, 49, 50, 51, 52, 53, 54, 55, 56, 57, 58, 59, 60, 61, 62, 63, 64, 65, 66] (by decide +kernel) (by decide +kernel)) (goodIn_sub (fun _ h => List.mem_cons_of_mem _ (List.mem_append_left _ (List.mem_append_right _ h))) (by decide +kernel))) (goodIn_sub (fun _ h => List.mem_cons_of_mem _ (List.mem_append_right _ h)) (by decide +kernel))
set_option maxRecDepth 20000 in
theorem gL_finish_X0_finish : GoodIn wsL_finish (wsV RL 23 RX0 yX0_finish wsX0_finish) := goodIn_app (goodIn_of _ (by decide +kernel)) ggL_finish_X0_finish
theorem dL_finish_0 : decode cL_finish 0 = .ok (.aload_n 2, 1) := by decide +kernel
theorem dL_finish_1 : decode cL_finish 1 = .ok (.iconst 0, 1) := by decide +kernel
theorem dL_finish_2 : decode cL_finish 2 = .ok (.aload_n 0, 1) := by decide +kernel
theorem dL_finish_3 : decode cL_finish 3 = .ok (.iload_n 1, 1) := by decide +kernel
theorem dL_finish_4 : decode cL_finish 4 = .ok (.invokevirtual 23, 3) := by decide +kernel
theorem dL_finish_7 : decode cL_finish 7 = .ok (.i2l, 1) := by decide +kernel
theorem dL_finish_8 : decode cL_finish 8 = .ok (.lastore, 1) := by decide +kernel
theorem dL_finish_9 : decode cL_finish 9 = .ok (.goto 9, 3) := by decide +kernel
theorem dL_finish_12 : decode cL_finish 12 = .ok (.astore_n 3, 1) := by decide +kernel
theorem dL_finish_13 : decode cL_finish 13 = .ok (.iconst 1, 1) := by decide +kernel
theorem dL_finish_14 : decode cL_finish 14 = .ok (.ireturn, 1) := by decide +kernel
theorem dL_finish_15 : decode cL_finish 15 = .ok (.astore_n 3, 1) := by decide +kernel
theorem dL_finish_16 : decode cL_finish 16 = .ok (.iconst 2, 1) := by decide +kernel
theorem dL_finish_17 : decode cL_finish 17 = .ok (.ireturn, 1) := by decide +kernel
theorem dL_finish_18 : decode cL_finish 18 = .ok (.iconst 0, 1) := by decide +kernel
theorem dL_finish_19 : decode cL_finish 19 = .ok (.ireturn, 1) := by decide +kernel
set_option maxRecDepth 20000 in
theorem ggL_drop_X0_drop : GoodIn wsL_drop wsX0_drop := goodIn_ca (goodIn_ca (goodIn_r _ [7, 8, 9, 10, 11, 12, 13, 14, 6, 15, 16, 17, 18, 19, 20, 21, 22, 23, 24, 25, 26, 27, 28, 29, 30, 31, 32, 33, 34, 35, 36, 37, 38, 39, 40, 41, 42, 43, 44, 45, 46, 47, 48, 49, 50, 51, 52, 53, 54, 55, 56, 57, 58, 59, 60, 61, 62, 63, 64, 65, 66, 67, 68, 69, 70, 71, 72, 73, 74] (by decide +kernel) (by decide +kernel)) (goodIn_sub (fun _ h => List.mem_cons_of_mem _ (List.mem_append_left _ (List.mem_append_right _ h))) (by decide +kernel))) (goodIn_sub (fun _ h => List.mem_cons_of_mem _ (List.mem_append_right _ h)) (by decide +kernel))
set_option maxRecDepth 20000 in
theorem gL_drop_X0_drop : GoodIn wsL_drop (wsV RL 27 RX0 yX0_drop wsX0_drop) := goodIn_app (goodIn_of _ (by decide +kernel)) ggL_drop_X0_drop
theorem dL_drop_0 : decode cL_drop 0 = .ok (.aload_n 2, 1) := by decide +kernel
theorem dL_drop_1 : decode cL_drop 1 = .ok (.iconst 0, 1) := by decide +kernel
theorem dL_drop_2 : decode cL_drop 2 = .ok (.aload_n 0, 1) := by decide +kernel
theorem dL_drop_3 : decode cL_drop 3 = .ok (.iload_n 1, 1) := by decide +kernel
theorem dL_drop_4 : decode cL_drop 4 = .ok (.invokevirtual 27, 3) := by decide +kernel
theorem dL_drop_7 : decode cL_drop 7 = .ok (.i2l, 1) := by decide +kernel
theorem dL_drop_8 : decode cL_drop 8 = .ok (.lastore, 1) := by decide +kernel
theorem dL_drop_9 : decode cL_drop 9 = .ok (.goto 9, 3) := by decide +kernel
theorem dL_drop_12 : decode cL_drop 12 = .ok (.astore_n 3, 1) := by decide +kernel
theorem dL_drop_13 : decode cL_drop 13 = .ok (.iconst 1, 1) := by decide +kernel
theorem dL_drop_14 : decode cL_drop 14 = .ok (.ireturn, 1) := by decide +kernel
theorem dL_drop_15 : decode cL_drop 15 = .ok (.astore_n 3, 1) := by decide +kernel
theorem dL_drop_16 : decode cL_drop 16 = .ok (.iconst 2, 1) := by decide +kernel
theorem dL_drop_17 : decode cL_drop 17 = .ok (.ireturn, 1) := by decide +kernel
end
section
theorem dL_drop_18 : decode cL_drop 18 = .ok (.iconst 0, 1) := by decide +kernel
theorem dL_drop_19 : decode cL_drop 19 = .ok (.ireturn, 1) := by decide +kernel
set_option maxRecDepth 20000 in
theorem ggL_shelve_X0_shelve : GoodIn wsL_shelve wsX0_shelve := goodIn_ca (goodIn_r _ [6, 7, 8, 9, 10, 11, 12, 13, 5, 14, 15, 16, 17, 18, 19, 20, 21, 22, 23, 24, 25, 26, 27, 28, 29, 30, 31, 32, 33, 34, 35, 36, 37, 38, 39, 40, 41, 42, 43, 44, 45, 46, 47, 48, 49, 50, 51, 52, 53] (by decide +kernel) (by decide +kernel)) (goodIn_sub (fun _ h => List.mem_cons_of_mem _ (List.mem_append_right _ h)) (by decide +kernel))
set_option maxRecDepth 20000 in
theorem gL_shelve_X0_shelve : GoodIn wsL_shelve (wsV RL 30 RX0 yX0_shelve wsX0_shelve) := goodIn_app (goodIn_of _ (by decide +kernel)) ggL_shelve_X0_shelve
theorem dL_shelve_0 : decode cL_shelve 0 = .ok (.aload_n 2, 1) := by decide +kernel
theorem dL_shelve_1 : decode cL_shelve 1 = .ok (.iconst 0, 1) := by decide +kernel
theorem dL_shelve_2 : decode cL_shelve 2 = .ok (.aload_n 0, 1) := by decide +kernel
theorem dL_shelve_3 : decode cL_shelve 3 = .ok (.iload_n 1, 1) := by decide +kernel
theorem dL_shelve_4 : decode cL_shelve 4 = .ok (.invokevirtual 30, 3) := by decide +kernel
theorem dL_shelve_7 : decode cL_shelve 7 = .ok (.i2l, 1) := by decide +kernel
theorem dL_shelve_8 : decode cL_shelve 8 = .ok (.lastore, 1) := by decide +kernel
theorem dL_shelve_9 : decode cL_shelve 9 = .ok (.goto 6, 3) := by decide +kernel
theorem dL_shelve_12 : decode cL_shelve 12 = .ok (.astore_n 3, 1) := by decide +kernel
theorem dL_shelve_13 : decode cL_shelve 13 = .ok (.iconst 1, 1) := by decide +kernel
theorem dL_shelve_14 : decode cL_shelve 14 = .ok (.ireturn, 1) := by decide +kernel
theorem dL_shelve_15 : decode cL_shelve 15 = .ok (.iconst 0, 1) := by decide +kernel
theorem dL_shelve_16 : decode cL_shelve 16 = .ok (.ireturn, 1) := by decide +kernel
set_option maxRecDepth 20000 in
theorem ggL_pot_X0_pot : GoodIn wsL_pot wsX0_pot := goodIn_ca (goodIn_r _ [6, 7, 8, 9, 10, 5, 11, 12, 13, 14, 15, 16, 17, 18, 19, 20, 21, 22, 23, 24, 25, 26, 27, 28, 29, 30, 31, 32, 33, 34, 35, 36, 37, 38, 39, 40, 41, 42, 43, 44, 45, 46, 47, 48, 49, 50, 51, 52, 53, 54, 55, 56] (by decide +kernel) (by decide +kernel)) (goodIn_sub (fun _ h => List.mem_cons_of_mem _ (List.mem_append_right _ h)) (by decide +kernel))
set_option maxRecDepth 20000 in
theorem gL_pot_X0_pot : GoodIn wsL_pot (wsV RL 33 RX0 yX0_pot wsX0_pot) := goodIn_app (goodIn_of _ (by decide +kernel)) ggL_pot_X0_pot
theorem dL_pot_0 : decode cL_pot 0 = .ok (.aload_n 3, 1) := by decide +kernel
theorem dL_pot_1 : decode cL_pot 1 = .ok (.iconst 0, 1) := by decide +kernel
theorem dL_pot_2 : decode cL_pot 2 = .ok (.aload_n 0, 1) := by decide +kernel
theorem dL_pot_3 : decode cL_pot 3 = .ok (.iload_n 1, 1) := by decide +kernel
theorem dL_pot_4 : decode cL_pot 4 = .ok (.iload_n 2, 1) := by decide +kernel
theorem dL_pot_5 : decode cL_pot 5 = .ok (.invokevirtual 33, 3) := by decide +kernel
theorem dL_pot_8 : decode cL_pot 8 = .ok (.i2l, 1) := by decide +kernel
theorem dL_pot_9 : decode cL_pot 9 = .ok (.lastore, 1) := by decide +kernel
theorem dL_pot_10 : decode cL_pot 10 = .ok (.goto 7, 3) := by decide +kernel
theorem dL_pot_13 : decode cL_pot 13 = .ok (.astore 4, 2) := by decide +kernel
theorem dL_pot_15 : decode cL_pot 15 = .ok (.iconst 1, 1) := by decide +kernel
theorem dL_pot_16 : decode cL_pot 16 = .ok (.ireturn, 1) := by decide +kernel
theorem dL_pot_17 : decode cL_pot 17 = .ok (.iconst 0, 1) := by decide +kernel
theorem dL_pot_18 : decode cL_pot 18 = .ok (.ireturn, 1) := by decide +kernel
set_option maxRecDepth 20000 in
theorem ggL_dish_X0_dish : GoodIn wsL_dish wsX0_dish := goodIn_ca (goodIn_r _ [6, 7, 8, 9, 10, 11, 5, 12, 13, 14, 15, 16, 17, 18, 19, 20, 21, 22, 23, 24, 25, 26, 27, 28, 29, 30, 31, 32, 33, 34, 35, 36, 37, 38, 39, 40, 41, 42, 43, 44, 45, 46, 47, 48, 49, 50, 51, 52, 53, 54, 55, 56, 57, 58, 59, 60, 61, 62, 63, 64, 65, 66, 67, 68, 69, 70, 71, 72] (by decide +kernel) (by decide +kernel)) (goodIn_sub (fun _ h => List.mem_cons_of_mem _ (List.mem_append_right _ h)) (by decide +kernel))
set_option maxRecDepth 20000 in
theorem gL_dish_X0_dish : GoodIn wsL_dish (wsV RL 37 RX0 yX0_dish wsX0_dish) := goodIn_app (goodIn_of _ (by decide +kernel)) ggL_dish_X0_dish
theorem dL_dish_0 : decode cL_dish 0 = .ok (.aload_n 3, 1) := by decide +kernel
theorem dL_dish_1 : decode cL_dish 1 = .ok (.iconst 0, 1) := by decide +kernel
theorem dL_dish_2 : decode cL_dish 2 = .ok (.aload_n 0, 1) := by decide +kernel
theorem dL_dish_3 : decode cL_dish 3 = .ok (.iload_n 1, 1) := by decide +kernel
theorem dL_dish_4 : decode cL_dish 4 = .ok (.iload_n 2, 1) := by decide +kernel
theorem dL_dish_5 : decode cL_dish 5 = .ok (.invokevirtual 37, 3) := by decide +kernel
theorem dL_dish_8 : decode cL_dish 8 = .ok (.i2l, 1) := by decide +kernel
theorem dL_dish_9 : decode cL_dish 9 = .ok (.lastore, 1) := by decide +kernel
theorem dL_dish_10 : decode cL_dish 10 = .ok (.goto 7, 3) := by decide +kernel
theorem dL_dish_13 : decode cL_dish 13 = .ok (.astore 4, 2) := by decide +kernel
theorem dL_dish_15 : decode cL_dish 15 = .ok (.iconst 1, 1) := by decide +kernel
theorem dL_dish_16 : decode cL_dish 16 = .ok (.ireturn, 1) := by decide +kernel
theorem dL_dish_17 : decode cL_dish 17 = .ok (.iconst 0, 1) := by decide +kernel
theorem dL_dish_18 : decode cL_dish 18 = .ok (.ireturn, 1) := by decide +kernel
set_option maxRecDepth 20000 in
theorem ggL_line_X0_line : GoodIn wsL_line wsX0_line := goodIn_ca (goodIn_r _ [6, 7, 8, 9, 10, 11, 5, 12, 13, 14, 15, 16, 17, 18, 19, 20, 21, 22, 23, 24, 25, 26, 27, 28, 29, 30, 31, 32, 33, 34, 35, 36, 37, 38, 39, 40, 41] (by decide +kernel) (by decide +kernel)) (goodIn_sub (fun _ h => List.mem_cons_of_mem _ (List.mem_append_right _ h)) (by decide +kernel))
set_option maxRecDepth 20000 in
theorem gL_line_X0_line : GoodIn wsL_line (wsV RL 40 RX0 yX0_line wsX0_line) := goodIn_app (goodIn_of _ (by decide +kernel)) ggL_line_X0_line
theorem dL_line_0 : decode cL_line 0 = .ok (.aload_n 3, 1) := by decide +kernel
theorem dL_line_1 : decode cL_line 1 = .ok (.iconst 0, 1) := by decide +kernel
theorem dL_line_2 : decode cL_line 2 = .ok (.aload_n 0, 1) := by decide +kernel
theorem dL_line_3 : decode cL_line 3 = .ok (.iload_n 1, 1) := by decide +kernel
theorem dL_line_4 : decode cL_line 4 = .ok (.iload_n 2, 1) := by decide +kernel
theorem dL_line_5 : decode cL_line 5 = .ok (.invokevirtual 40, 3) := by decide +kernel
theorem dL_line_8 : decode cL_line 8 = .ok (.i2l, 1) := by decide +kernel
theorem dL_line_9 : decode cL_line 9 = .ok (.lastore, 1) := by decide +kernel
theorem dL_line_10 : decode cL_line 10 = .ok (.goto 7, 3) := by decide +kernel
theorem dL_line_13 : decode cL_line 13 = .ok (.astore 4, 2) := by decide +kernel
theorem dL_line_15 : decode cL_line 15 = .ok (.iconst 1, 1) := by decide +kernel
theorem dL_line_16 : decode cL_line 16 = .ok (.ireturn, 1) := by decide +kernel
theorem dL_line_17 : decode cL_line 17 = .ok (.iconst 0, 1) := by decide +kernel
theorem dL_line_18 : decode cL_line 18 = .ok (.ireturn, 1) := by decide +kernel
set_option maxRecDepth 20000 in
theorem ggL_count_X0_count : GoodIn wsL_count wsX0_count := goodIn_ca (goodIn_r _ [6, 7, 8, 9, 10, 5, 11, 12, 13, 14, 15, 16, 17, 18, 19, 20, 21, 22, 23, 24, 25, 26, 27, 28, 29, 30, 31, 32, 33, 34, 35, 36, 37, 38, 39, 40, 41, 42, 43, 44, 45, 46, 47, 48, 49, 50, 51, 52, 53, 54, 55, 56, 57, 58, 59, 60, 61, 62, 63, 64, 65, 66] (by decide +kernel) (by decide +kernel)) (goodIn_sub (fun _ h => List.mem_cons_of_mem _ (List.mem_append_right _ h)) (by decide +kernel))
set_option maxRecDepth 20000 in
theorem gL_count_X0_count : GoodIn wsL_count (wsV RL 43 RX0 yX0_count wsX0_count) := goodIn_app (goodIn_of _ (by decide +kernel)) ggL_count_X0_count
theorem dL_count_0 : decode cL_count 0 = .ok (.aload_n 2, 1) := by decide +kernel
theorem dL_count_1 : decode cL_count 1 = .ok (.iconst 0, 1) := by decide +kernel
theorem dL_count_2 : decode cL_count 2 = .ok (.aload_n 0, 1) := by decide +kernel
theorem dL_count_3 : decode cL_count 3 = .ok (.iload_n 1, 1) := by decide +kernel
theorem dL_count_4 : decode cL_count 4 = .ok (.invokevirtual 43, 3) := by decide +kernel
theorem dL_count_7 : decode cL_count 7 = .ok (.i2l, 1) := by decide +kernel
theorem dL_count_8 : decode cL_count 8 = .ok (.lastore, 1) := by decide +kernel
theorem dL_count_9 : decode cL_count 9 = .ok (.goto 6, 3) := by decide +kernel
theorem dL_count_12 : decode cL_count 12 = .ok (.astore_n 3, 1) := by decide +kernel
theorem dL_count_13 : decode cL_count 13 = .ok (.iconst 1, 1) := by decide +kernel
theorem dL_count_14 : decode cL_count 14 = .ok (.ireturn, 1) := by decide +kernel
theorem dL_count_15 : decode cL_count 15 = .ok (.iconst 0, 1) := by decide +kernel
theorem dL_count_16 : decode cL_count 16 = .ok (.ireturn, 1) := by decide +kernel
set_option maxRecDepth 20000 in
theorem ggL_would_X0_would : GoodIn wsL_would wsX0_would := goodIn_ca (goodIn_r _ [6, 7, 8, 9, 10, 11, 12, 5, 13, 14, 15, 16, 17, 18, 19, 20, 21, 22, 23, 24, 25, 26, 27, 28, 29, 30, 31, 32, 33, 34, 35, 36, 37, 38, 39, 40, 41, 42, 43, 44, 45, 46, 47, 48, 49, 50, 51, 52, 53, 54, 55, 56, 57, 58, 59, 60, 61, 62, 63, 64, 65, 66, 67, 68, 69, 70, 71, 72, 73] (by decide +kernel) (by decide +kernel)) (goodIn_sub (fun _ h => List.mem_cons_of_mem _ (List.mem_append_right _ h)) (by decide +kernel))
set_option maxRecDepth 20000 in
theorem gL_would_X0_would : GoodIn wsL_would (wsV RL 46 RX0 yX0_would wsX0_would) := goodIn_app (goodIn_of _ (by decide +kernel)) ggL_would_X0_would
theorem dL_would_0 : decode cL_would 0 = .ok (.aload_n 2, 1) := by decide +kernel
theorem dL_would_1 : decode cL_would 1 = .ok (.iconst 0, 1) := by decide +kernel
theorem dL_would_2 : decode cL_would 2 = .ok (.aload_n 0, 1) := by decide +kernel
theorem dL_would_3 : decode cL_would 3 = .ok (.iload_n 1, 1) := by decide +kernel
theorem dL_would_4 : decode cL_would 4 = .ok (.invokevirtual 46, 3) := by decide +kernel
theorem dL_would_7 : decode cL_would 7 = .ok (.i2l, 1) := by decide +kernel
theorem dL_would_8 : decode cL_would 8 = .ok (.lastore, 1) := by decide +kernel
theorem dL_would_9 : decode cL_would 9 = .ok (.goto 6, 3) := by decide +kernel
theorem dL_would_12 : decode cL_would 12 = .ok (.astore_n 3, 1) := by decide +kernel
theorem dL_would_13 : decode cL_would 13 = .ok (.iconst 1, 1) := by decide +kernel
theorem dL_would_14 : decode cL_would 14 = .ok (.ireturn, 1) := by decide +kernel
theorem dL_would_15 : decode cL_would 15 = .ok (.iconst 0, 1) := by decide +kernel
theorem dL_would_16 : decode cL_would 16 = .ok (.ireturn, 1) := by decide +kernel
set_option maxRecDepth 20000 in
theorem ggL_left_X0_left : GoodIn wsL_left wsX0_left := goodIn_ca (goodIn_r _ [6, 7, 8, 9, 10, 11, 12, 13, 14, 15, 5, 16, 17, 18, 19, 20, 21, 22, 23, 24, 25, 26, 27, 28, 29, 30, 31, 32, 33, 34, 35, 36, 37, 38, 39, 40, 41, 42, 43, 44, 45, 46, 47, 48, 49, 50, 51, 52, 53, 54, 55, 56, 57, 58, 59, 60, 61] (by decide +kernel) (by decide +kernel)) (goodIn_sub (fun _ h => List.mem_cons_of_mem _ (List.mem_append_right _ h)) (by decide +kernel))
set_option maxRecDepth 20000 in
theorem gL_left_X0_left : GoodIn wsL_left (wsV RL 49 RX0 yX0_left wsX0_left) := goodIn_app (goodIn_of _ (by decide +kernel)) ggL_left_X0_left
theorem dL_left_0 : decode cL_left 0 = .ok (.aload_n 2, 1) := by decide +kernel
theorem dL_left_1 : decode cL_left 1 = .ok (.iconst 0, 1) := by decide +kernel
theorem dL_left_2 : decode cL_left 2 = .ok (.aload_n 0, 1) := by decide +kernel
theorem dL_left_3 : decode cL_left 3 = .ok (.iload_n 1, 1) := by decide +kernel
theorem dL_left_4 : decode cL_left 4 = .ok (.invokevirtual 49, 3) := by decide +kernel
theorem dL_left_7 : decode cL_left 7 = .ok (.i2l, 1) := by decide +kernel
theorem dL_left_8 : decode cL_left 8 = .ok (.lastore, 1) := by decide +kernel
theorem dL_left_9 : decode cL_left 9 = .ok (.goto 6, 3) := by decide +kernel
theorem dL_left_12 : decode cL_left 12 = .ok (.astore_n 3, 1) := by decide +kernel
theorem dL_left_13 : decode cL_left 13 = .ok (.iconst 1, 1) := by decide +kernel
theorem dL_left_14 : decode cL_left 14 = .ok (.ireturn, 1) := by decide +kernel
theorem dL_left_15 : decode cL_left 15 = .ok (.iconst 0, 1) := by decide +kernel
theorem dL_left_16 : decode cL_left 16 = .ok (.ireturn, 1) := by decide +kernel
set_option maxRecDepth 20000 in
theorem ggL_law_X0_init : GoodIn wsL_law wsX0_init := goodIn_r _ [9, 10, 11, 12, 13, 14, 15, 16, 17, 18, 19, 20, 21, 22, 23, 24, 25, 26, 27, 28, 485, 486, 487, 488, 489, 490, 491, 492, 493, 494, 495, 496, 497, 498, 499] (by decide +kernel) (by decide +kernel)
set_option maxRecDepth 20000 in
theorem gL_law_X0_init : GoodIn wsL_law (wsX0_init) := ggL_law_X0_init
set_option maxRecDepth 20000 in
theorem ggL_law_X2_init : GoodIn wsL_law wsX2_init := goodIn_r _ [31, 32, 11, 12, 33, 34, 35, 36, 37, 38, 39, 40, 41, 42, 13, 43, 44, 45, 46, 47, 48, 49, 50, 51, 505, 506, 507, 508, 509, 510, 511, 512, 513, 514, 515, 516, 517, 518, 519, 500, 501, 502, 503, 504] (by decide +kernel) (by decide +kernel)
set_option maxRecDepth 20000 in
theorem gL_law_X2_init : GoodIn wsL_law (wsX2_init) := ggL_law_X2_init
set_option maxRecDepth 20000 in
theorem ggL_law_L_begin : GoodIn wsL_law wsL_begin := goodIn_ca (goodIn_r _ [55, 56, 57, 58, 59, 2, 60, 61, 62, 63, 17, 64, 65, 66, 67, 68, 69, 70, 71, 72, 73, 74, 75, 76, 77, 78, 79, 80, 81, 82, 83, 84, 85, 86, 18, 19, 24, 87, 88, 89, 90, 91, 92, 93, 20, 21, 22, 23, 485, 486, 487, 488, 489, 490, 491, 492, 493, 494, 495, 496, 497, 498, 499] (by decide +kernel) (by decide +kernel)) (goodIn_sub (fun _ h => List.mem_append_left _ (List.mem_append_left _ (List.mem_append_right _ h))) (by decide +kernel))
set_option maxRecDepth 20000 in
theorem gL_law_L_begin : GoodIn wsL_law (va_wsS RL 56 yL_begin wsL_begin) := goodIn_app (goodIn_of _ (by decide +kernel)) ggL_law_L_begin
set_option maxRecDepth 20000 in
theorem ggL_law_X2_begin : GoodIn wsL_law wsX2_begin := goodIn_r _ [97, 98, 99, 36, 100, 101, 102, 35, 103, 104, 41, 105, 106, 107, 108, 46, 47, 109, 110, 111, 112, 113, 114, 115, 116, 117, 118, 119, 120, 51, 121, 122, 123, 5, 124, 125, 126, 127, 128, 48, 49, 50, 500, 501, 502, 503, 504, 505, 506, 507, 508, 509, 510, 511, 512, 513, 514, 515, 516, 517, 518, 519] (by decide +kernel) (by decide +kernel)
set_option maxRecDepth 20000 in
theorem gL_law_X2_begin : GoodIn wsL_law (wsV RL 61 RX2 yX2_begin wsX2_begin) := goodIn_app (goodIn_of _ (by decide +kernel)) ggL_law_X2_begin
set_option maxRecDepth 20000 in
theorem ggL_law_X2_thrown : GoodIn wsL_law wsX2_thrown := goodIn_r _ [132, 98, 500, 501, 502, 503, 504] (by decide +kernel) (by decide +kernel)
set_option maxRecDepth 20000 in
theorem gL_law_X2_thrown : GoodIn wsL_law (wsV RL 62 RX2 yX2_thrown wsX2_thrown) := goodIn_app (goodIn_of _ (by decide +kernel)) ggL_law_X2_thrown
set_option maxRecDepth 20000 in
theorem ggL_law_L_cook : GoodIn wsL_law wsL_cook := goodIn_ca (goodIn_ca (goodIn_ca (goodIn_r _ [135, 136, 137, 56, 138, 139, 140, 2, 141, 142, 143, 144, 145, 61, 62, 14, 146, 147, 148, 149, 63, 76, 77, 78, 150, 151, 152, 69, 70, 71, 72, 17, 73, 74, 75, 153, 154, 155, 156, 68, 18, 19, 20, 64, 65, 66, 67, 79, 80, 81, 82, 83, 84, 85, 86, 24, 157, 158, 159, 160, 21, 22, 90, 91, 92, 93, 23, 87, 88, 89, 485, 486, 487, 488, 489, 490, 491, 492, 493, 494, 495, 496, 497, 498, 499] (by decide +kernel) (by decide +kernel)) (goodIn_sub (fun _ h => List.mem_append_left _ (List.mem_append_right _ h)) (by decide +kernel))) (goodIn_sub (fun _ h => List.mem_append_right _ h) (by decide +kernel))) (goodIn_sub (fun _ h => List.mem_append_left _ (List.mem_append_left _ (List.mem_append_right _ h))) (by decide +kernel))
set_option maxRecDepth 20000 in
theorem gL_law_L_cook : GoodIn wsL_law (va_wsS RL 65 yL_cook wsL_cook) := goodIn_app (goodIn_of _ (by decide +kernel)) ggL_law_L_cook
set_option maxRecDepth 20000 in
theorem ggL_law_X2_cook : GoodIn wsL_law wsX2_cook := goodIn_r _ [164, 98, 36, 165, 166, 167, 5, 168, 99, 169, 170, 171, 172, 173, 174, 121, 122, 123, 124, 175, 176, 177, 35, 178, 41, 179, 180, 181, 182, 104, 46, 47, 48, 105, 106, 107, 108, 183, 100, 101, 102, 103, 109, 110, 111, 112, 113, 114, 115, 116, 117, 118, 119, 120, 51, 184, 185, 186, 187, 49, 43, 50, 188, 126, 127, 128, 500, 501, 502, 503, 504, 505, 506, 507, 508, 509, 510, 511, 512, 513, 514, 515, 516, 517, 518, 519] (by decide +kernel) (by decide +kernel)
set_option maxRecDepth 20000 in
theorem gL_law_X2_cook : GoodIn wsL_law (wsV RL 68 RX2 yX2_cook wsX2_cook) := goodIn_app (goodIn_of _ (by decide +kernel)) ggL_law_X2_cook
set_option maxRecDepth 20000 in
theorem ggL_law_L_finish : GoodIn wsL_law wsL_finish := goodIn_ca (goodIn_ca (goodIn_r _ [191, 136, 56, 192, 193, 194, 2, 195, 142, 143, 61, 62, 17, 68, 146, 147, 148, 149, 63, 76, 77, 78, 69, 70, 71, 72, 73, 74, 75, 90, 91, 92, 93, 18, 19, 20, 21, 22, 23, 24, 87, 88, 89, 196, 197, 198, 199, 200, 201, 202, 203, 204, 485, 486, 487, 488, 489, 490, 491, 492, 493, 494, 495, 496, 497, 498, 499] (by decide +kernel) (by decide +kernel)) (goodIn_sub (fun _ h => List.mem_append_left _ (List.mem_append_right _ h)) (by decide +kernel))) (goodIn_sub (fun _ h => List.mem_append_left _ (List.mem_append_left _ (List.mem_append_right _ h))) (by decide +kernel))
set_option maxRecDepth 20000 in
theorem gL_law_L_finish : GoodIn wsL_law (va_wsS RL 69 yL_finish wsL_finish) := goodIn_app (goodIn_of _ (by decide +kernel)) ggL_law_L_finish
set_option maxRecDepth 20000 in
theorem ggL_law_X2_finish : GoodIn wsL_law wsX2_finish := goodIn_r _ [208, 98, 36, 165, 166, 167, 5, 168, 99, 169, 170, 171, 121, 122, 123, 124, 183, 106, 107, 35, 108, 104, 46, 47, 125, 126, 127, 128, 48, 49, 50, 51, 209, 210, 211, 212, 213, 214, 202, 203, 204, 500, 501, 502, 503, 504, 505, 506, 507, 508, 509, 510, 511, 512, 513, 514, 515, 516, 517, 518, 519] (by decide +kernel) (by decide +kernel)
set_option maxRecDepth 20000 in
theorem gL_law_X2_finish : GoodIn wsL_law (wsV RL 72 RX2 yX2_finish wsX2_finish) := goodIn_app (goodIn_of _ (by decide +kernel)) ggL_law_X2_finish
set_option maxRecDepth 20000 in
theorem ggL_law_L_drop : GoodIn wsL_law wsL_drop := goodIn_ca (goodIn_ca (goodIn_r _ [217, 136, 56, 218, 219, 220, 2, 221, 142, 143, 61, 62, 146, 147, 148, 149, 63, 76, 77, 78, 69, 70, 71, 72, 17, 73, 74, 75, 222, 223, 224, 225, 68, 83, 84, 85, 86, 18, 19, 24, 226, 227, 228, 229, 20, 21, 23, 157, 158, 159, 160, 14, 22, 90, 91, 92, 93, 87, 88, 89, 485, 486, 487, 488, 489, 490, 491, 492, 493, 494, 495, 496, 497, 498, 499] (by decide +kernel) (by decide +kernel)) (goodIn_sub (fun _ h => List.mem_append_left _ (List.mem_append_right _ h)) (by decide +kernel))) (goodIn_sub (fun _ h => List.mem_append_left _ (List.mem_append_left _ (List.mem_append_right _ h))) (by decide +kernel))
set_option maxRecDepth 20000 in
theorem gL_law_L_drop : GoodIn wsL_law (va_wsS RL 73 yL_drop wsL_drop) := goodIn_app (goodIn_of _ (by decide +kernel)) ggL_law_L_drop
set_option maxRecDepth 20000 in
theorem ggL_law_X2_drop : GoodIn wsL_law wsX2_drop := goodIn_r _ [233, 98, 36, 165, 166, 167, 5, 168, 99, 169, 170, 171, 121, 122, 123, 124, 183, 106, 107, 35, 108, 104, 46, 47, 234, 235, 236, 237, 48, 49, 113, 114, 115, 116, 117, 118, 119, 120, 51, 238, 185, 186, 187, 43, 50, 188, 126, 127, 128, 500, 501, 502, 503, 504, 505, 506, 507, 508, 509, 510, 511, 512, 513, 514, 515, 516, 517, 518, 519] (by decide +kernel) (by decide +kernel)
set_option maxRecDepth 20000 in
theorem gL_law_X2_drop : GoodIn wsL_law (wsV RL 75 RX2 yX2_drop wsX2_drop) := goodIn_app (goodIn_of _ (by decide +kernel)) ggL_law_X2_drop
set_option maxRecDepth 20000 in
theorem ggL_law_L_shelve : GoodIn wsL_law wsL_shelve := goodIn_ca (goodIn_r _ [241, 136, 242, 243, 244, 2, 245, 142, 143, 15, 14, 16, 150, 151, 152, 76, 77, 78, 246, 247, 248, 249, 68, 20, 73, 74, 75, 196, 197, 198, 199, 200, 201, 202, 203, 204, 87, 88, 89, 485, 486, 487, 488, 489, 490, 491, 492, 493, 494, 495, 496, 497, 498, 499] (by decide +kernel) (by decide +kernel)) (goodIn_sub (fun _ h => List.mem_append_left _ (List.mem_append_right _ h)) (by decide +kernel))
set_option maxRecDepth 20000 in
theorem gL_law_L_shelve : GoodIn wsL_law (va_wsS RL 76 yL_shelve wsL_shelve) := goodIn_app (goodIn_of _ (by decide +kernel)) ggL_law_L_shelve
set_option maxRecDepth 20000 in
theorem ggL_law_X2_shelve : GoodIn wsL_law wsX2_shelve := goodIn_r _ [253, 98, 36, 172, 173, 5, 174, 169, 170, 171, 121, 122, 123, 124, 254, 255, 256, 35, 257, 104, 48, 209, 210, 211, 212, 213, 214, 202, 203, 204, 500, 501, 502, 503, 504, 505, 506, 507, 508, 509, 510, 511, 512, 513, 514, 515, 516, 517, 518, 519] (by decide +kernel) (by decide +kernel)
set_option maxRecDepth 20000 in
theorem gL_law_X2_shelve : GoodIn wsL_law (wsV RL 78 RX2 yX2_shelve wsX2_shelve) := goodIn_app (goodIn_of _ (by decide +kernel)) ggL_law_X2_shelve
set_option maxRecDepth 20000 in
theorem ggL_law_X0_blow : GoodIn wsL_law wsX0_blow := goodIn_r _ [261, 68, 196, 197, 198, 2, 199, 200, 201, 202, 203, 204, 485, 486, 487, 488, 489, 490, 491, 492, 493, 494, 495, 496, 497, 498, 499] (by decide +kernel) (by decide +kernel)
set_option maxRecDepth 20000 in
theorem gL_law_X0_blow : GoodIn wsL_law (wsV RL 79 RX0 yX0_blow wsX0_blow) := goodIn_app (goodIn_of _ (by decide +kernel)) ggL_law_X0_blow
set_option maxRecDepth 20000 in
theorem ggL_law_X2_blow : GoodIn wsL_law wsX2_blow := goodIn_r _ [265, 98, 36, 209, 210, 211, 35, 212, 213, 214, 202, 203, 204, 500, 501, 502, 503, 504, 505, 506, 507, 508, 509, 510, 511, 512, 513, 514, 515, 516, 517, 518, 519] (by decide +kernel) (by decide +kernel)
set_option maxRecDepth 20000 in
theorem gL_law_X2_blow : GoodIn wsL_law (wsV RL 82 RX2 yX2_blow wsX2_blow) := goodIn_app (goodIn_of _ (by decide +kernel)) ggL_law_X2_blow
set_option maxRecDepth 20000 in
theorem ggL_law_X0_fall : GoodIn wsL_law wsX0_fall := goodIn_r _ [269, 15, 14, 270, 271, 272, 273, 63, 274, 275, 276, 277, 2, 278, 200, 68, 24, 17, 73, 74, 75, 76, 77, 78, 87, 88, 89, 279, 280, 281, 282, 18, 19, 283, 284, 285, 286, 287, 288, 289, 20, 22, 290, 291, 292, 293, 16, 69, 70, 71, 72, 222, 223, 224, 225, 83, 84, 85, 86, 226, 227, 228, 229, 21, 23, 157, 158, 159, 160, 90, 91, 92, 93, 485, 486, 487, 488, 489, 490, 491, 492, 493, 494, 495, 496, 497, 498, 499] (by decide +kernel) (by decide +kernel)
set_option maxRecDepth 20000 in
theorem gL_law_X0_fall : GoodIn wsL_law (wsV RL 83 RX0 yX0_fall wsX0_fall) := goodIn_app (goodIn_of _ (by decide +kernel)) ggL_law_X0_fall
set_option maxRecDepth 20000 in
theorem ggL_law_X2_fall : GoodIn wsL_law wsX2_fall := goodIn_r _ [297, 98, 36, 298, 299, 300, 301, 35, 302, 213, 104, 303, 304, 305, 43, 44, 48, 45, 50, 41, 105, 106, 107, 108, 46, 47, 306, 235, 236, 237, 49, 113, 114, 115, 116, 117, 118, 119, 120, 51, 238, 185, 186, 187, 188, 126, 127, 128, 500, 501, 502, 503, 504, 505, 506, 507, 508, 509, 510, 511, 512, 513, 514, 515, 516, 517, 518, 519] (by decide +kernel) (by decide +kernel)
set_option maxRecDepth 20000 in
theorem gL_law_X2_fall : GoodIn wsL_law (wsV RL 86 RX2 yX2_fall wsX2_fall) := goodIn_app (goodIn_of _ (by decide +kernel)) ggL_law_X2_fall
set_option maxRecDepth 20000 in
theorem ggL_law_L_pot : GoodIn wsL_law wsL_pot := goodIn_ca (goodIn_r _ [309, 136, 310, 311, 312, 2, 313, 142, 143, 150, 151, 152, 76, 77, 78, 314, 315, 316, 317, 14, 15, 16, 73, 74, 75, 153, 154, 155, 156, 68, 18, 19, 20, 69, 70, 71, 72, 17, 246, 247, 248, 249, 485, 486, 487, 488, 489, 490, 491, 492, 493, 494, 495, 496, 497, 498, 499] (by decide +kernel) (by decide +kernel)) (goodIn_sub (fun _ h => List.mem_append_left _ (List.mem_append_right _ h)) (by decide +kernel))
set_option maxRecDepth 20000 in
theorem gL_law_L_pot : GoodIn wsL_law (va_wsS RL 87 yL_pot wsL_pot) := goodIn_app (goodIn_of _ (by decide +kernel)) ggL_law_L_pot
set_option maxRecDepth 20000 in
theorem ggL_law_X2_pot : GoodIn wsL_law wsX2_pot := goodIn_r _ [321, 98, 172, 173, 5, 174, 169, 170, 171, 322, 323, 324, 325, 13, 36, 175, 176, 177, 35, 178, 41, 179, 180, 181, 182, 104, 46, 47, 48, 105, 106, 107, 108, 254, 255, 256, 257, 121, 122, 123, 124, 500, 501, 502, 503, 504, 505, 506, 507, 508, 509, 510, 511, 512, 513, 514, 515, 516, 517, 518, 519] (by decide +kernel) (by decide +kernel)
set_option maxRecDepth 20000 in
theorem gL_law_X2_pot : GoodIn wsL_law (wsV RL 90 RX2 yX2_pot wsX2_pot) := goodIn_app (goodIn_of _ (by decide +kernel)) ggL_law_X2_pot
set_option maxRecDepth 20000 in
theorem ggL_law_L_dish : GoodIn wsL_law wsL_dish := goodIn_ca (goodIn_r _ [328, 136, 329, 330, 331, 2, 332, 142, 143, 146, 147, 148, 149, 63, 76, 77, 78, 333, 334, 335, 336, 17, 68, 73, 74, 75, 337, 338, 339, 340, 18, 79, 80, 81, 82, 83, 84, 85, 86, 19, 24, 341, 342, 343, 344, 153, 154, 155, 156, 20, 69, 70, 71, 72, 345, 346, 347, 348, 485, 486, 487, 488, 489, 490, 491, 492, 493, 494, 495, 496, 497, 498, 499] (by decide +kernel) (by decide +kernel)) (goodIn_sub (fun _ h => List.mem_append_left _ (List.mem_append_right _ h)) (by decide +kernel))
set_option maxRecDepth 20000 in
theorem gL_law_L_dish : GoodIn wsL_law (va_wsS RL 91 yL_dish wsL_dish) := goodIn_app (goodIn_of _ (by decide +kernel)) ggL_law_L_dish
set_option maxRecDepth 20000 in
theorem ggL_law_X2_dish : GoodIn wsL_law wsX2_dish := goodIn_r _ [352, 98, 165, 166, 167, 5, 168, 99, 169, 170, 171, 353, 354, 355, 356, 36, 13, 357, 180, 181, 35, 182, 104, 46, 47, 48, 105, 106, 107, 108, 183, 358, 110, 111, 112, 113, 114, 115, 116, 117, 118, 119, 120, 51, 121, 122, 123, 124, 500, 501, 502, 503, 504, 505, 506, 507, 508, 509, 510, 511, 512, 513, 514, 515, 516, 517, 518, 519] (by decide +kernel) (by decide +kernel)
set_option maxRecDepth 20000 in
theorem gL_law_X2_dish : GoodIn wsL_law (wsV RL 93 RX2 yX2_dish wsX2_dish) := goodIn_app (goodIn_of _ (by decide +kernel)) ggL_law_X2_dish
set_option maxRecDepth 20000 in
theorem ggL_law_L_line : GoodIn wsL_law wsL_line := goodIn_ca (goodIn_r _ [361, 136, 362, 363, 364, 2, 365, 142, 143, 68, 76, 77, 78, 366, 367, 368, 369, 18, 19, 20, 21, 22, 23, 200, 73, 74, 75, 485, 486, 487, 488, 489, 490, 491, 492, 493, 494, 495, 496, 497, 498, 499] (by decide +kernel) (by decide +kernel)) (goodIn_sub (fun _ h => List.mem_append_left _ (List.mem_append_right _ h)) (by decide +kernel))
set_option maxRecDepth 20000 in
theorem gL_law_L_line : GoodIn wsL_law (va_wsS RL 94 yL_line wsL_line) := goodIn_app (goodIn_of _ (by decide +kernel)) ggL_law_L_line
set_option maxRecDepth 20000 in
theorem ggL_law_X2_line : GoodIn wsL_law wsX2_line := goodIn_r _ [373, 98, 36, 169, 170, 5, 171, 374, 375, 376, 377, 13, 121, 122, 123, 124, 500, 501, 502, 503, 504, 505, 506, 507, 508, 509, 510, 511, 512, 513, 514, 515, 516, 517, 518, 519] (by decide +kernel) (by decide +kernel)
set_option maxRecDepth 20000 in
theorem gL_law_X2_line : GoodIn wsL_law (wsV RL 96 RX2 yX2_line wsX2_line) := goodIn_app (goodIn_of _ (by decide +kernel)) ggL_law_X2_line
set_option maxRecDepth 20000 in
theorem ggL_law_L_count : GoodIn wsL_law wsL_count := goodIn_ca (goodIn_r _ [380, 136, 381, 382, 383, 2, 384, 142, 143, 76, 77, 78, 385, 386, 387, 388, 68, 200, 63, 14, 15, 274, 389, 390, 391, 392, 17, 73, 74, 75, 64, 65, 66, 67, 69, 70, 71, 72, 79, 80, 81, 82, 83, 84, 85, 86, 18, 19, 24, 393, 394, 395, 485, 486, 487, 488, 489, 490, 491, 492, 493, 494, 495, 496, 497, 498, 499] (by decide +kernel) (by decide +kernel)) (goodIn_sub (fun _ h => List.mem_append_left _ (List.mem_append_right _ h)) (by decide +kernel))
set_option maxRecDepth 20000 in
theorem gL_law_L_count : GoodIn wsL_law (va_wsS RL 97 yL_count wsL_count) := goodIn_app (goodIn_of _ (by decide +kernel)) ggL_law_L_count
set_option maxRecDepth 20000 in
theorem ggL_law_X2_count : GoodIn wsL_law wsX2_count := goodIn_r _ [399, 98, 169, 170, 5, 171, 400, 401, 402, 403, 36, 99, 298, 404, 405, 406, 35, 407, 41, 105, 106, 107, 108, 104, 46, 47, 100, 101, 102, 103, 109, 110, 111, 112, 113, 114, 115, 116, 117, 118, 119, 120, 51, 408, 409, 410, 411, 121, 122, 123, 124, 500, 501, 502, 503, 504, 505, 506, 507, 508, 509, 510, 511, 512, 513, 514, 515, 516, 517, 518, 519] (by decide +kernel) (by decide +kernel)
set_option maxRecDepth 20000 in
theorem gL_law_X2_count : GoodIn wsL_law (wsV RL 99 RX2 yX2_count wsX2_count) := goodIn_app (goodIn_of _ (by decide +kernel)) ggL_law_X2_count
set_option maxRecDepth 20000 in
theorem ggL_law_L_would : GoodIn wsL_law wsL_would := goodIn_ca (goodIn_r _ [414, 136, 415, 416, 417, 2, 418, 142, 143, 68, 200, 76, 77, 78, 419, 420, 421, 422, 290, 291, 292, 293, 20, 16, 73, 74, 75, 423, 424, 425, 426, 63, 279, 280, 281, 282, 18, 19, 283, 284, 285, 79, 80, 81, 82, 83, 84, 85, 86, 24, 427, 428, 429, 430, 431, 432, 433, 434, 17, 485, 486, 487, 488, 489, 490, 491, 492, 493, 494, 495, 496, 497, 498, 499] (by decide +kernel) (by decide +kernel)) (goodIn_sub (fun _ h => List.mem_append_left _ (List.mem_append_right _ h)) (by decide +kernel))
set_option maxRecDepth 20000 in
theorem gL_law_L_would : GoodIn wsL_law (va_wsS RL 100 yL_would wsL_would) := goodIn_app (goodIn_of _ (by decide +kernel)) ggL_law_L_would
set_option maxRecDepth 20000 in
theorem ggL_law_X2_would : GoodIn wsL_law wsX2_would := goodIn_r _ [438, 98, 37, 36, 13, 169, 170, 5, 171, 121, 122, 123, 124, 439, 440, 441, 35, 442, 104, 213, 43, 44, 45, 46, 47, 48, 49, 50, 51, 443, 444, 445, 446, 447, 271, 272, 273, 299, 300, 301, 302, 303, 304, 305, 41, 105, 106, 107, 108, 306, 235, 236, 237, 113, 114, 115, 116, 117, 118, 119, 120, 238, 185, 186, 187, 188, 126, 127, 128, 404, 405, 406, 407, 500, 501, 502, 503, 504, 505, 506, 507, 508, 509, 510, 511, 512, 513, 514, 515, 516, 517, 518, 519] (by decide +kernel) (by decide +kernel)
set_option maxRecDepth 20000 in
theorem gL_law_X2_would : GoodIn wsL_law (wsV RL 102 RX2 yX2_would wsX2_would) := goodIn_app (goodIn_of _ (by decide +kernel)) ggL_law_X2_would
set_option maxRecDepth 20000 in
theorem ggL_law_L_left : GoodIn wsL_law wsL_left := goodIn_ca (goodIn_r _ [450, 136, 451, 452, 453, 2, 454, 142, 143, 15, 200, 20, 22, 63, 150, 151, 152, 76, 77, 78, 73, 74, 75, 290, 291, 292, 293, 16, 279, 280, 281, 282, 18, 19, 283, 284, 285, 455, 456, 457, 458, 21, 83, 84, 85, 86, 24, 485, 486, 487, 488, 489, 490, 491, 492, 493, 494, 495, 496, 497, 498, 499] (by decide +kernel) (by decide +kernel)) (goodIn_sub (fun _ h => List.mem_append_left _ (List.mem_append_right _ h)) (by decide +kernel))
set_option maxRecDepth 20000 in
theorem gL_law_L_left : GoodIn wsL_law (va_wsS RL 103 yL_left wsL_left) := goodIn_app (goodIn_of _ (by decide +kernel)) ggL_law_L_left
set_option maxRecDepth 20000 in
theorem ggL_law_X2_left : GoodIn wsL_law wsX2_left := goodIn_r _ [462, 98, 37, 36, 172, 173, 5, 174, 169, 170, 171, 121, 122, 123, 124, 439, 440, 441, 35, 442, 104, 213, 43, 44, 45, 46, 47, 48, 49, 50, 51, 443, 444, 445, 446, 447, 271, 272, 273, 299, 300, 301, 302, 303, 304, 305, 41, 105, 106, 107, 108, 306, 235, 236, 237, 113, 114, 115, 116, 117, 118, 119, 120, 238, 185, 186, 187, 188, 126, 127, 128, 500, 501, 502, 503, 504, 505, 506, 507, 508, 509, 510, 511, 512, 513, 514, 515, 516, 517, 518, 519] (by decide +kernel) (by decide +kernel)
set_option maxRecDepth 20000 in
theorem gL_law_X2_left : GoodIn wsL_law (wsV RL 105 RX2 yX2_left wsX2_left) := goodIn_app (goodIn_of _ (by decide +kernel)) ggL_law_X2_left
set_option maxRecDepth 20000 in
theorem ggL_law_X0_mean : GoodIn wsL_law wsX0_mean := goodIn_r _ [466, 14, 467, 393, 394, 2, 395, 485, 486, 487, 488, 489, 490, 491, 492, 493, 494, 495, 496, 497, 498, 499] (by decide +kernel) (by decide +kernel)
set_option maxRecDepth 20000 in
theorem gL_law_X0_mean : GoodIn wsL_law (wsV RL 106 RX0 yX0_mean wsX0_mean) := goodIn_app (goodIn_of _ (by decide +kernel)) ggL_law_X0_mean
set_option maxRecDepth 20000 in
theorem ggL_law_X2_mean : GoodIn wsL_law wsX2_mean := goodIn_r _ [471, 98, 36, 472, 408, 409, 410, 35, 411, 500, 501, 502, 503, 504, 505, 506, 507, 508, 509, 510, 511, 512, 513, 514, 515, 516, 517, 518, 519] (by decide +kernel) (by decide +kernel)
set_option maxRecDepth 20000 in
theorem gL_law_X2_mean : GoodIn wsL_law (wsV RL 110 RX2 yX2_mean wsX2_mean) := goodIn_app (goodIn_of _ (by decide +kernel)) ggL_law_X2_mean
set_option maxRecDepth 20000 in
theorem ggL_law_X0_digest : GoodIn wsL_law wsX0_digest := goodIn_r _ [476, 477, 478, 63, 68, 385, 386, 387, 2, 388, 200, 14, 15, 274, 389, 390, 391, 392, 17, 73, 74, 75, 76, 77, 78, 64, 65, 66, 67, 69, 70, 71, 72, 79, 80, 81, 82, 83, 84, 85, 86, 18, 19, 24, 393, 394, 395, 314, 315, 316, 317, 16, 153, 154, 155, 156, 20, 246, 247, 248, 249, 333, 334, 335, 336, 337, 338, 339, 340, 341, 342, 343, 344, 345, 346, 347, 348, 366, 367, 368, 369, 21, 22, 23, 485, 486, 487, 488, 489, 490, 491, 492, 493, 494, 495, 496, 497, 498, 499] (by decide +kernel) (by decide +kernel)
set_option maxRecDepth 20000 in
theorem gL_law_X0_digest : GoodIn wsL_law (wsV RL 111 RX0 yX0_digest wsX0_digest) := goodIn_app (goodIn_of _ (by decide +kernel)) ggL_law_X0_digest
set_option maxRecDepth 20000 in
theorem ggL_law_X2_digest : GoodIn wsL_law wsX2_digest := goodIn_r _ [482, 98, 483, 484, 99, 36, 400, 401, 402, 5, 403, 298, 404, 405, 406, 35, 407, 41, 105, 106, 107, 108, 104, 46, 47, 100, 101, 102, 103, 109, 110, 111, 112, 113, 114, 115, 116, 117, 118, 119, 120, 51, 408, 409, 410, 411, 322, 323, 324, 325, 13, 175, 176, 177, 178, 179, 180, 181, 182, 48, 254, 255, 256, 257, 353, 354, 355, 356, 357, 183, 358, 374, 375, 376, 377, 500, 501, 502, 503, 504, 505, 506, 507, 508, 509, 510, 511, 512, 513, 514, 515, 516, 517, 518, 519] (by decide +kernel) (by decide +kernel)
set_option maxRecDepth 20000 in
theorem gL_law_X2_digest : GoodIn wsL_law (wsV RL 115 RX2 yX2_digest wsX2_digest) := goodIn_app (goodIn_of _ (by decide +kernel)) ggL_law_X2_digest
theorem dL_law_0 : decode cL_law 0 = .ok (.new 8, 3) := by decide +kernel
theorem dL_law_3 : decode cL_law 3 = .ok (.dup, 1) := by decide +kernel
theorem dL_law_4 : decode cL_law 4 = .ok (.invokespecial 52, 3) := by decide +kernel
theorem dL_law_7 : decode cL_law 7 = .ok (.astore_n 1, 1) := by decide +kernel
theorem dL_law_8 : decode cL_law 8 = .ok (.new 53, 3) := by decide +kernel
theorem dL_law_11 : decode cL_law 11 = .ok (.dup, 1) := by decide +kernel
theorem dL_law_12 : decode cL_law 12 = .ok (.invokespecial 55, 3) := by decide +kernel
theorem dL_law_15 : decode cL_law 15 = .ok (.astore_n 2, 1) := by decide +kernel
theorem dL_law_16 : decode cL_law 16 = .ok (.iconst 1, 1) := by decide +kernel
theorem dL_law_17 : decode cL_law 17 = .ok (.newarray .long, 2) := by decide +kernel
theorem dL_law_19 : decode cL_law 19 = .ok (.astore_n 3, 1) := by decide +kernel
theorem dL_law_20 : decode cL_law 20 = .ok (.iconst 0, 1) := by decide +kernel
theorem dL_law_21 : decode cL_law 21 = .ok (.istore 4, 2) := by decide +kernel
theorem dL_law_23 : decode cL_law 23 = .ok (.iload 4, 2) := by decide +kernel
theorem dL_law_25 : decode cL_law 25 = .ok (.aload_n 0, 1) := by decide +kernel
theorem dL_law_26 : decode cL_law 26 = .ok (.arraylength, 1) := by decide +kernel
theorem dL_law_27 : decode cL_law 27 = .ok (.iconst 4, 1) := by decide +kernel
theorem dL_law_28 : decode cL_law 28 = .ok (.isub, 1) := by decide +kernel
theorem dL_law_29 : decode cL_law 29 = .ok (.if_icmp .gt 834, 3) := by decide +kernel
theorem dL_law_32 : decode cL_law 32 = .ok (.aload_n 0, 1) := by decide +kernel
theorem dL_law_33 : decode cL_law 33 = .ok (.iload 4, 2) := by decide +kernel
theorem dL_law_35 : decode cL_law 35 = .ok (.iaload, 1) := by decide +kernel
theorem dL_law_36 : decode cL_law 36 = .ok (.bipush 15, 2) := by decide +kernel
theorem dL_law_38 : decode cL_law 38 = .ok (.iand, 1) := by decide +kernel
theorem dL_law_39 : decode cL_law 39 = .ok (.tableswitch 818 0 14 #[73, 117, 197, 253, 309, 365, 378, 391, 459, 527, 595, 651, 707, 763, 804], 73) := by decide +kernel
theorem dL_law_112 : decode cL_law 112 = .ok (.aload_n 1, 1) := by decide +kernel
theorem dL_law_113 : decode cL_law 113 = .ok (.aload_n 3, 1) := by decide +kernel
theorem dL_law_114 : decode cL_law 114 = .ok (.invokestatic 56, 3) := by decide +kernel
theorem dL_law_117 : decode cL_law 117 = .ok (.istore 5, 2) := by decide +kernel
theorem dL_law_119 : decode cL_law 119 = .ok (.aload_n 2, 1) := by decide +kernel
theorem dL_law_120 : decode cL_law 120 = .ok (.invokevirtual 61, 3) := by decide +kernel
theorem dL_law_123 : decode cL_law 123 = .ok (.istore 6, 2) := by decide +kernel
theorem dL_law_125 : decode cL_law 125 = .ok (.aload_n 2, 1) := by decide +kernel
theorem dL_law_126 : decode cL_law 126 = .ok (.invokevirtual 62, 3) := by decide +kernel
theorem dL_law_129 : decode cL_law 129 = .ok (.iload 5, 2) := by decide +kernel
theorem dL_law_131 : decode cL_law 131 = .ok (.if_icmp .eq 5, 3) := by decide +kernel
theorem dL_law_134 : decode cL_law 134 = .ok (.iconst 0, 1) := by decide +kernel
theorem dL_law_135 : decode cL_law 135 = .ok (.ireturn, 1) := by decide +kernel
theorem dL_law_136 : decode cL_law 136 = .ok (.iload 5, 2) := by decide +kernel
theorem dL_law_138 : decode cL_law 138 = .ok (.ifCond .ne 15, 3) := by decide +kernel
theorem dL_law_141 : decode cL_law 141 = .ok (.aload_n 3, 1) := by decide +kernel
theorem dL_law_142 : decode cL_law 142 = .ok (.iconst 0, 1) := by decide +kernel
theorem dL_law_143 : decode cL_law 143 = .ok (.laload, 1) := by decide +kernel
theorem dL_law_144 : decode cL_law 144 = .ok (.iload 6, 2) := by decide +kernel
theorem dL_law_146 : decode cL_law 146 = .ok (.i2l, 1) := by decide +kernel
theorem dL_law_147 : decode cL_law 147 = .ok (.lcmp, 1) := by decide +kernel
theorem dL_law_148 : decode cL_law 148 = .ok (.ifCond .eq 5, 3) := by decide +kernel
theorem dL_law_151 : decode cL_law 151 = .ok (.iconst 0, 1) := by decide +kernel
theorem dL_law_152 : decode cL_law 152 = .ok (.ireturn, 1) := by decide +kernel
theorem dL_law_153 : decode cL_law 153 = .ok (.goto 704, 3) := by decide +kernel
theorem dL_law_156 : decode cL_law 156 = .ok (.aload_n 1, 1) := by decide +kernel
theorem dL_law_157 : decode cL_law 157 = .ok (.aload_n 0, 1) := by decide +kernel
theorem dL_law_158 : decode cL_law 158 = .ok (.iload 4, 2) := by decide +kernel
theorem dL_law_160 : decode cL_law 160 = .ok (.iconst 1, 1) := by decide +kernel
theorem dL_law_161 : decode cL_law 161 = .ok (.iadd, 1) := by decide +kernel
theorem dL_law_162 : decode cL_law 162 = .ok (.iaload, 1) := by decide +kernel
theorem dL_law_163 : decode cL_law 163 = .ok (.aload_n 0, 1) := by decide +kernel
theorem dL_law_164 : decode cL_law 164 = .ok (.iload 4, 2) := by decide +kernel
theorem dL_law_166 : decode cL_law 166 = .ok (.iconst 2, 1) := by decide +kernel
theorem dL_law_167 : decode cL_law 167 = .ok (.iadd, 1) := by decide +kernel
theorem dL_law_168 : decode cL_law 168 = .ok (.iaload, 1) := by decide +kernel
theorem dL_law_169 : decode cL_law 169 = .ok (.aload_n 0, 1) := by decide +kernel
theorem dL_law_170 : decode cL_law 170 = .ok (.iload 4, 2) := by decide +kernel
theorem dL_law_172 : decode cL_law 172 = .ok (.iconst 3, 1) := by decide +kernel
theorem dL_law_173 : decode cL_law 173 = .ok (.iadd, 1) := by decide +kernel
theorem dL_law_174 : decode cL_law 174 = .ok (.iaload, 1) := by decide +kernel
theorem dL_law_175 : decode cL_law 175 = .ok (.aload_n 3, 1) := by decide +kernel
theorem dL_law_176 : decode cL_law 176 = .ok (.invokestatic 65, 3) := by decide +kernel
theorem dL_law_179 : decode cL_law 179 = .ok (.istore 5, 2) := by decide +kernel
theorem dL_law_181 : decode cL_law 181 = .ok (.aload_n 2, 1) := by decide +kernel
theorem dL_law_182 : decode cL_law 182 = .ok (.aload_n 0, 1) := by decide +kernel
theorem dL_law_183 : decode cL_law 183 = .ok (.iload 4, 2) := by decide +kernel
theorem dL_law_185 : decode cL_law 185 = .ok (.iconst 1, 1) := by decide +kernel
theorem dL_law_186 : decode cL_law 186 = .ok (.iadd, 1) := by decide +kernel
theorem dL_law_187 : decode cL_law 187 = .ok (.iaload, 1) := by decide +kernel
theorem dL_law_188 : decode cL_law 188 = .ok (.aload_n 0, 1) := by decide +kernel
theorem dL_law_189 : decode cL_law 189 = .ok (.iload 4, 2) := by decide +kernel
theorem dL_law_191 : decode cL_law 191 = .ok (.iconst 2, 1) := by decide +kernel
theorem dL_law_192 : decode cL_law 192 = .ok (.iadd, 1) := by decide +kernel
theorem dL_law_193 : decode cL_law 193 = .ok (.iaload, 1) := by decide +kernel
theorem dL_law_194 : decode cL_law 194 = .ok (.aload_n 0, 1) := by decide +kernel
theorem dL_law_195 : decode cL_law 195 = .ok (.iload 4, 2) := by decide +kernel
theorem dL_law_197 : decode cL_law 197 = .ok (.iconst 3, 1) := by decide +kernel
theorem dL_law_198 : decode cL_law 198 = .ok (.iadd, 1) := by decide +kernel
theorem dL_law_199 : decode cL_law 199 = .ok (.iaload, 1) := by decide +kernel
theorem dL_law_200 : decode cL_law 200 = .ok (.invokevirtual 68, 3) := by decide +kernel
theorem dL_law_203 : decode cL_law 203 = .ok (.istore 6, 2) := by decide +kernel
theorem dL_law_205 : decode cL_law 205 = .ok (.aload_n 2, 1) := by decide +kernel
theorem dL_law_206 : decode cL_law 206 = .ok (.invokevirtual 62, 3) := by decide +kernel
theorem dL_law_209 : decode cL_law 209 = .ok (.iload 5, 2) := by decide +kernel
theorem dL_law_211 : decode cL_law 211 = .ok (.if_icmp .eq 5, 3) := by decide +kernel
theorem dL_law_214 : decode cL_law 214 = .ok (.iconst 0, 1) := by decide +kernel
theorem dL_law_215 : decode cL_law 215 = .ok (.ireturn, 1) := by decide +kernel
theorem dL_law_216 : decode cL_law 216 = .ok (.iload 5, 2) := by decide +kernel
theorem dL_law_218 : decode cL_law 218 = .ok (.ifCond .ne 15, 3) := by decide +kernel
theorem dL_law_221 : decode cL_law 221 = .ok (.aload_n 3, 1) := by decide +kernel
theorem dL_law_222 : decode cL_law 222 = .ok (.iconst 0, 1) := by decide +kernel
theorem dL_law_223 : decode cL_law 223 = .ok (.laload, 1) := by decide +kernel
theorem dL_law_224 : decode cL_law 224 = .ok (.iload 6, 2) := by decide +kernel
theorem dL_law_226 : decode cL_law 226 = .ok (.i2l, 1) := by decide +kernel
theorem dL_law_227 : decode cL_law 227 = .ok (.lcmp, 1) := by decide +kernel
theorem dL_law_228 : decode cL_law 228 = .ok (.ifCond .eq 5, 3) := by decide +kernel
theorem dL_law_231 : decode cL_law 231 = .ok (.iconst 0, 1) := by decide +kernel
theorem dL_law_232 : decode cL_law 232 = .ok (.ireturn, 1) := by decide +kernel
theorem dL_law_233 : decode cL_law 233 = .ok (.goto 624, 3) := by decide +kernel
theorem dL_law_236 : decode cL_law 236 = .ok (.aload_n 1, 1) := by decide +kernel
theorem dL_law_237 : decode cL_law 237 = .ok (.aload_n 0, 1) := by decide +kernel
theorem dL_law_238 : decode cL_law 238 = .ok (.iload 4, 2) := by decide +kernel
theorem dL_law_240 : decode cL_law 240 = .ok (.iconst 1, 1) := by decide +kernel
theorem dL_law_241 : decode cL_law 241 = .ok (.iadd, 1) := by decide +kernel
theorem dL_law_242 : decode cL_law 242 = .ok (.iaload, 1) := by decide +kernel
theorem dL_law_243 : decode cL_law 243 = .ok (.aload_n 3, 1) := by decide +kernel
theorem dL_law_244 : decode cL_law 244 = .ok (.invokestatic 69, 3) := by decide +kernel
theorem dL_law_247 : decode cL_law 247 = .ok (.istore 5, 2) := by decide +kernel
theorem dL_law_249 : decode cL_law 249 = .ok (.aload_n 2, 1) := by decide +kernel
theorem dL_law_250 : decode cL_law 250 = .ok (.aload_n 0, 1) := by decide +kernel
theorem dL_law_251 : decode cL_law 251 = .ok (.iload 4, 2) := by decide +kernel
theorem dL_law_253 : decode cL_law 253 = .ok (.iconst 1, 1) := by decide +kernel
theorem dL_law_254 : decode cL_law 254 = .ok (.iadd, 1) := by decide +kernel
theorem dL_law_255 : decode cL_law 255 = .ok (.iaload, 1) := by decide +kernel
theorem dL_law_256 : decode cL_law 256 = .ok (.invokevirtual 72, 3) := by decide +kernel
theorem dL_law_259 : decode cL_law 259 = .ok (.istore 6, 2) := by decide +kernel
theorem dL_law_261 : decode cL_law 261 = .ok (.aload_n 2, 1) := by decide +kernel
theorem dL_law_262 : decode cL_law 262 = .ok (.invokevirtual 62, 3) := by decide +kernel
theorem dL_law_265 : decode cL_law 265 = .ok (.iload 5, 2) := by decide +kernel
theorem dL_law_267 : decode cL_law 267 = .ok (.if_icmp .eq 5, 3) := by decide +kernel
theorem dL_law_270 : decode cL_law 270 = .ok (.iconst 0, 1) := by decide +kernel
theorem dL_law_271 : decode cL_law 271 = .ok (.ireturn, 1) := by decide +kernel
theorem dL_law_272 : decode cL_law 272 = .ok (.iload 5, 2) := by decide +kernel
theorem dL_law_274 : decode cL_law 274 = .ok (.ifCond .ne 15, 3) := by decide +kernel
theorem dL_law_277 : decode cL_law 277 = .ok (.aload_n 3, 1) := by decide +kernel
theorem dL_law_278 : decode cL_law 278 = .ok (.iconst 0, 1) := by decide +kernel
theorem dL_law_279 : decode cL_law 279 = .ok (.laload, 1) := by decide +kernel
theorem dL_law_280 : decode cL_law 280 = .ok (.iload 6, 2) := by decide +kernel
theorem dL_law_282 : decode cL_law 282 = .ok (.i2l, 1) := by decide +kernel
theorem dL_law_283 : decode cL_law 283 = .ok (.lcmp, 1) := by decide +kernel
theorem dL_law_284 : decode cL_law 284 = .ok (.ifCond .eq 5, 3) := by decide +kernel
theorem dL_law_287 : decode cL_law 287 = .ok (.iconst 0, 1) := by decide +kernel
theorem dL_law_288 : decode cL_law 288 = .ok (.ireturn, 1) := by decide +kernel
theorem dL_law_289 : decode cL_law 289 = .ok (.goto 568, 3) := by decide +kernel
theorem dL_law_292 : decode cL_law 292 = .ok (.aload_n 1, 1) := by decide +kernel
theorem dL_law_293 : decode cL_law 293 = .ok (.aload_n 0, 1) := by decide +kernel
theorem dL_law_294 : decode cL_law 294 = .ok (.iload 4, 2) := by decide +kernel
theorem dL_law_296 : decode cL_law 296 = .ok (.iconst 1, 1) := by decide +kernel
theorem dL_law_297 : decode cL_law 297 = .ok (.iadd, 1) := by decide +kernel
theorem dL_law_298 : decode cL_law 298 = .ok (.iaload, 1) := by decide +kernel
theorem dL_law_299 : decode cL_law 299 = .ok (.aload_n 3, 1) := by decide +kernel
theorem dL_law_300 : decode cL_law 300 = .ok (.invokestatic 73, 3) := by decide +kernel
theorem dL_law_303 : decode cL_law 303 = .ok (.istore 5, 2) := by decide +kernel
theorem dL_law_305 : decode cL_law 305 = .ok (.aload_n 2, 1) := by decide +kernel
theorem dL_law_306 : decode cL_law 306 = .ok (.aload_n 0, 1) := by decide +kernel
theorem dL_law_307 : decode cL_law 307 = .ok (.iload 4, 2) := by decide +kernel
theorem dL_law_309 : decode cL_law 309 = .ok (.iconst 1, 1) := by decide +kernel
theorem dL_law_310 : decode cL_law 310 = .ok (.iadd, 1) := by decide +kernel
theorem dL_law_311 : decode cL_law 311 = .ok (.iaload, 1) := by decide +kernel
theorem dL_law_312 : decode cL_law 312 = .ok (.invokevirtual 75, 3) := by decide +kernel
theorem dL_law_315 : decode cL_law 315 = .ok (.istore 6, 2) := by decide +kernel
theorem dL_law_317 : decode cL_law 317 = .ok (.aload_n 2, 1) := by decide +kernel
theorem dL_law_318 : decode cL_law 318 = .ok (.invokevirtual 62, 3) := by decide +kernel
theorem dL_law_321 : decode cL_law 321 = .ok (.iload 5, 2) := by decide +kernel
theorem dL_law_323 : decode cL_law 323 = .ok (.if_icmp .eq 5, 3) := by decide +kernel
theorem dL_law_326 : decode cL_law 326 = .ok (.iconst 0, 1) := by decide +kernel
theorem dL_law_327 : decode cL_law 327 = .ok (.ireturn, 1) := by decide +kernel
theorem dL_law_328 : decode cL_law 328 = .ok (.iload 5, 2) := by decide +kernel
theorem dL_law_330 : decode cL_law 330 = .ok (.ifCond .ne 15, 3) := by decide +kernel
theorem dL_law_333 : decode cL_law 333 = .ok (.aload_n 3, 1) := by decide +kernel
theorem dL_law_334 : decode cL_law 334 = .ok (.iconst 0, 1) := by decide +kernel
theorem dL_law_335 : decode cL_law 335 = .ok (.laload, 1) := by decide +kernel
theorem dL_law_336 : decode cL_law 336 = .ok (.iload 6, 2) := by decide +kernel
theorem dL_law_338 : decode cL_law 338 = .ok (.i2l, 1) := by decide +kernel
theorem dL_law_339 : decode cL_law 339 = .ok (.lcmp, 1) := by decide +kernel
theorem dL_law_340 : decode cL_law 340 = .ok (.ifCond .eq 5, 3) := by decide +kernel
theorem dL_law_343 : decode cL_law 343 = .ok (.iconst 0, 1) := by decide +kernel
theorem dL_law_344 : decode cL_law 344 = .ok (.ireturn, 1) := by decide +kernel
theorem dL_law_345 : decode cL_law 345 = .ok (.goto 512, 3) := by decide +kernel
theorem dL_law_348 : decode cL_law 348 = .ok (.aload_n 1, 1) := by decide +kernel
theorem dL_law_349 : decode cL_law 349 = .ok (.aload_n 0, 1) := by decide +kernel
theorem dL_law_350 : decode cL_law 350 = .ok (.iload 4, 2) := by decide +kernel
theorem dL_law_352 : decode cL_law 352 = .ok (.iconst 1, 1) := by decide +kernel
theorem dL_law_353 : decode cL_law 353 = .ok (.iadd, 1) := by decide +kernel
theorem dL_law_354 : decode cL_law 354 = .ok (.iaload, 1) := by decide +kernel
theorem dL_law_355 : decode cL_law 355 = .ok (.aload_n 3, 1) := by decide +kernel
theorem dL_law_356 : decode cL_law 356 = .ok (.invokestatic 76, 3) := by decide +kernel
theorem dL_law_359 : decode cL_law 359 = .ok (.istore 5, 2) := by decide +kernel
theorem dL_law_361 : decode cL_law 361 = .ok (.aload_n 2, 1) := by decide +kernel
theorem dL_law_362 : decode cL_law 362 = .ok (.aload_n 0, 1) := by decide +kernel
theorem dL_law_363 : decode cL_law 363 = .ok (.iload 4, 2) := by decide +kernel
theorem dL_law_365 : decode cL_law 365 = .ok (.iconst 1, 1) := by decide +kernel
theorem dL_law_366 : decode cL_law 366 = .ok (.iadd, 1) := by decide +kernel
theorem dL_law_367 : decode cL_law 367 = .ok (.iaload, 1) := by decide +kernel
theorem dL_law_368 : decode cL_law 368 = .ok (.invokevirtual 78, 3) := by decide +kernel
theorem dL_law_371 : decode cL_law 371 = .ok (.istore 6, 2) := by decide +kernel
theorem dL_law_373 : decode cL_law 373 = .ok (.aload_n 2, 1) := by decide +kernel
theorem dL_law_374 : decode cL_law 374 = .ok (.invokevirtual 62, 3) := by decide +kernel
theorem dL_law_377 : decode cL_law 377 = .ok (.iload 5, 2) := by decide +kernel
theorem dL_law_379 : decode cL_law 379 = .ok (.if_icmp .eq 5, 3) := by decide +kernel
theorem dL_law_382 : decode cL_law 382 = .ok (.iconst 0, 1) := by decide +kernel
theorem dL_law_383 : decode cL_law 383 = .ok (.ireturn, 1) := by decide +kernel
theorem dL_law_384 : decode cL_law 384 = .ok (.iload 5, 2) := by decide +kernel
theorem dL_law_386 : decode cL_law 386 = .ok (.ifCond .ne 15, 3) := by decide +kernel
theorem dL_law_389 : decode cL_law 389 = .ok (.aload_n 3, 1) := by decide +kernel
theorem dL_law_390 : decode cL_law 390 = .ok (.iconst 0, 1) := by decide +kernel
theorem dL_law_391 : decode cL_law 391 = .ok (.laload, 1) := by decide +kernel
theorem dL_law_392 : decode cL_law 392 = .ok (.iload 6, 2) := by decide +kernel
theorem dL_law_394 : decode cL_law 394 = .ok (.i2l, 1) := by decide +kernel
theorem dL_law_395 : decode cL_law 395 = .ok (.lcmp, 1) := by decide +kernel
theorem dL_law_396 : decode cL_law 396 = .ok (.ifCond .eq 5, 3) := by decide +kernel
theorem dL_law_399 : decode cL_law 399 = .ok (.iconst 0, 1) := by decide +kernel
theorem dL_law_400 : decode cL_law 400 = .ok (.ireturn, 1) := by decide +kernel
theorem dL_law_401 : decode cL_law 401 = .ok (.goto 456, 3) := by decide +kernel
theorem dL_law_404 : decode cL_law 404 = .ok (.aload_n 1, 1) := by decide +kernel
theorem dL_law_405 : decode cL_law 405 = .ok (.invokevirtual 79, 3) := by decide +kernel
theorem dL_law_408 : decode cL_law 408 = .ok (.aload_n 2, 1) := by decide +kernel
theorem dL_law_409 : decode cL_law 409 = .ok (.invokevirtual 82, 3) := by decide +kernel
theorem dL_law_412 : decode cL_law 412 = .ok (.if_icmp .eq 445, 3) := by decide +kernel
theorem dL_law_415 : decode cL_law 415 = .ok (.iconst 0, 1) := by decide +kernel
theorem dL_law_416 : decode cL_law 416 = .ok (.ireturn, 1) := by decide +kernel
theorem dL_law_417 : decode cL_law 417 = .ok (.aload_n 1, 1) := by decide +kernel
theorem dL_law_418 : decode cL_law 418 = .ok (.invokevirtual 83, 3) := by decide +kernel
theorem dL_law_421 : decode cL_law 421 = .ok (.aload_n 2, 1) := by decide +kernel
theorem dL_law_422 : decode cL_law 422 = .ok (.invokevirtual 86, 3) := by decide +kernel
theorem dL_law_425 : decode cL_law 425 = .ok (.if_icmp .eq 432, 3) := by decide +kernel
theorem dL_law_428 : decode cL_law 428 = .ok (.iconst 0, 1) := by decide +kernel
theorem dL_law_429 : decode cL_law 429 = .ok (.ireturn, 1) := by decide +kernel
theorem dL_law_430 : decode cL_law 430 = .ok (.aload_n 1, 1) := by decide +kernel
theorem dL_law_431 : decode cL_law 431 = .ok (.aload_n 0, 1) := by decide +kernel
theorem dL_law_432 : decode cL_law 432 = .ok (.iload 4, 2) := by decide +kernel
theorem dL_law_434 : decode cL_law 434 = .ok (.iconst 1, 1) := by decide +kernel
theorem dL_law_435 : decode cL_law 435 = .ok (.iadd, 1) := by decide +kernel
theorem dL_law_436 : decode cL_law 436 = .ok (.iaload, 1) := by decide +kernel
theorem dL_law_437 : decode cL_law 437 = .ok (.aload_n 0, 1) := by decide +kernel
theorem dL_law_438 : decode cL_law 438 = .ok (.iload 4, 2) := by decide +kernel
theorem dL_law_440 : decode cL_law 440 = .ok (.iconst 2, 1) := by decide +kernel
theorem dL_law_441 : decode cL_law 441 = .ok (.iadd, 1) := by decide +kernel
theorem dL_law_442 : decode cL_law 442 = .ok (.iaload, 1) := by decide +kernel
theorem dL_law_443 : decode cL_law 443 = .ok (.aload_n 3, 1) := by decide +kernel
theorem dL_law_444 : decode cL_law 444 = .ok (.invokestatic 87, 3) := by decide +kernel
theorem dL_law_447 : decode cL_law 447 = .ok (.istore 5, 2) := by decide +kernel
theorem dL_law_449 : decode cL_law 449 = .ok (.aload_n 2, 1) := by decide +kernel
theorem dL_law_450 : decode cL_law 450 = .ok (.aload_n 0, 1) := by decide +kernel
theorem dL_law_451 : decode cL_law 451 = .ok (.iload 4, 2) := by decide +kernel
theorem dL_law_453 : decode cL_law 453 = .ok (.iconst 1, 1) := by decide +kernel
theorem dL_law_454 : decode cL_law 454 = .ok (.iadd, 1) := by decide +kernel
theorem dL_law_455 : decode cL_law 455 = .ok (.iaload, 1) := by decide +kernel
theorem dL_law_456 : decode cL_law 456 = .ok (.aload_n 0, 1) := by decide +kernel
theorem dL_law_457 : decode cL_law 457 = .ok (.iload 4, 2) := by decide +kernel
theorem dL_law_459 : decode cL_law 459 = .ok (.iconst 2, 1) := by decide +kernel
theorem dL_law_460 : decode cL_law 460 = .ok (.iadd, 1) := by decide +kernel
theorem dL_law_461 : decode cL_law 461 = .ok (.iaload, 1) := by decide +kernel
theorem dL_law_462 : decode cL_law 462 = .ok (.invokevirtual 90, 3) := by decide +kernel
theorem dL_law_465 : decode cL_law 465 = .ok (.istore 6, 2) := by decide +kernel
theorem dL_law_467 : decode cL_law 467 = .ok (.aload_n 2, 1) := by decide +kernel
theorem dL_law_468 : decode cL_law 468 = .ok (.invokevirtual 62, 3) := by decide +kernel
theorem dL_law_471 : decode cL_law 471 = .ok (.iload 5, 2) := by decide +kernel
theorem dL_law_473 : decode cL_law 473 = .ok (.if_icmp .eq 5, 3) := by decide +kernel
theorem dL_law_476 : decode cL_law 476 = .ok (.iconst 0, 1) := by decide +kernel
theorem dL_law_477 : decode cL_law 477 = .ok (.ireturn, 1) := by decide +kernel
theorem dL_law_478 : decode cL_law 478 = .ok (.iload 5, 2) := by decide +kernel
theorem dL_law_480 : decode cL_law 480 = .ok (.ifCond .ne 15, 3) := by decide +kernel
theorem dL_law_483 : decode cL_law 483 = .ok (.aload_n 3, 1) := by decide +kernel
theorem dL_law_484 : decode cL_law 484 = .ok (.iconst 0, 1) := by decide +kernel
theorem dL_law_485 : decode cL_law 485 = .ok (.laload, 1) := by decide +kernel
theorem dL_law_486 : decode cL_law 486 = .ok (.iload 6, 2) := by decide +kernel
theorem dL_law_488 : decode cL_law 488 = .ok (.i2l, 1) := by decide +kernel
theorem dL_law_489 : decode cL_law 489 = .ok (.lcmp, 1) := by decide +kernel
theorem dL_law_490 : decode cL_law 490 = .ok (.ifCond .eq 5, 3) := by decide +kernel
theorem dL_law_493 : decode cL_law 493 = .ok (.iconst 0, 1) := by decide +kernel
theorem dL_law_494 : decode cL_law 494 = .ok (.ireturn, 1) := by decide +kernel
theorem dL_law_495 : decode cL_law 495 = .ok (.goto 362, 3) := by decide +kernel
theorem dL_law_498 : decode cL_law 498 = .ok (.aload_n 1, 1) := by decide +kernel
theorem dL_law_499 : decode cL_law 499 = .ok (.aload_n 0, 1) := by decide +kernel
theorem dL_law_500 : decode cL_law 500 = .ok (.iload 4, 2) := by decide +kernel
theorem dL_law_502 : decode cL_law 502 = .ok (.iconst 1, 1) := by decide +kernel
theorem dL_law_503 : decode cL_law 503 = .ok (.iadd, 1) := by decide +kernel
theorem dL_law_504 : decode cL_law 504 = .ok (.iaload, 1) := by decide +kernel
theorem dL_law_505 : decode cL_law 505 = .ok (.aload_n 0, 1) := by decide +kernel
theorem dL_law_506 : decode cL_law 506 = .ok (.iload 4, 2) := by decide +kernel
theorem dL_law_508 : decode cL_law 508 = .ok (.iconst 2, 1) := by decide +kernel
theorem dL_law_509 : decode cL_law 509 = .ok (.iadd, 1) := by decide +kernel
theorem dL_law_510 : decode cL_law 510 = .ok (.iaload, 1) := by decide +kernel
theorem dL_law_511 : decode cL_law 511 = .ok (.aload_n 3, 1) := by decide +kernel
theorem dL_law_512 : decode cL_law 512 = .ok (.invokestatic 91, 3) := by decide +kernel
theorem dL_law_515 : decode cL_law 515 = .ok (.istore 5, 2) := by decide +kernel
theorem dL_law_517 : decode cL_law 517 = .ok (.aload_n 2, 1) := by decide +kernel
theorem dL_law_518 : decode cL_law 518 = .ok (.aload_n 0, 1) := by decide +kernel
theorem dL_law_519 : decode cL_law 519 = .ok (.iload 4, 2) := by decide +kernel
theorem dL_law_521 : decode cL_law 521 = .ok (.iconst 1, 1) := by decide +kernel
theorem dL_law_522 : decode cL_law 522 = .ok (.iadd, 1) := by decide +kernel
theorem dL_law_523 : decode cL_law 523 = .ok (.iaload, 1) := by decide +kernel
theorem dL_law_524 : decode cL_law 524 = .ok (.aload_n 0, 1) := by decide +kernel
theorem dL_law_525 : decode cL_law 525 = .ok (.iload 4, 2) := by decide +kernel
theorem dL_law_527 : decode cL_law 527 = .ok (.iconst 2, 1) := by decide +kernel
theorem dL_law_528 : decode cL_law 528 = .ok (.iadd, 1) := by decide +kernel
theorem dL_law_529 : decode cL_law 529 = .ok (.iaload, 1) := by decide +kernel
theorem dL_law_530 : decode cL_law 530 = .ok (.invokevirtual 93, 3) := by decide +kernel
theorem dL_law_533 : decode cL_law 533 = .ok (.istore 6, 2) := by decide +kernel
theorem dL_law_535 : decode cL_law 535 = .ok (.aload_n 2, 1) := by decide +kernel
theorem dL_law_536 : decode cL_law 536 = .ok (.invokevirtual 62, 3) := by decide +kernel
theorem dL_law_539 : decode cL_law 539 = .ok (.iload 5, 2) := by decide +kernel
theorem dL_law_541 : decode cL_law 541 = .ok (.if_icmp .eq 5, 3) := by decide +kernel
theorem dL_law_544 : decode cL_law 544 = .ok (.iconst 0, 1) := by decide +kernel
theorem dL_law_545 : decode cL_law 545 = .ok (.ireturn, 1) := by decide +kernel
theorem dL_law_546 : decode cL_law 546 = .ok (.iload 5, 2) := by decide +kernel
theorem dL_law_548 : decode cL_law 548 = .ok (.ifCond .ne 15, 3) := by decide +kernel
theorem dL_law_551 : decode cL_law 551 = .ok (.aload_n 3, 1) := by decide +kernel
theorem dL_law_552 : decode cL_law 552 = .ok (.iconst 0, 1) := by decide +kernel
theorem dL_law_553 : decode cL_law 553 = .ok (.laload, 1) := by decide +kernel
theorem dL_law_554 : decode cL_law 554 = .ok (.iload 6, 2) := by decide +kernel
theorem dL_law_556 : decode cL_law 556 = .ok (.i2l, 1) := by decide +kernel
theorem dL_law_557 : decode cL_law 557 = .ok (.lcmp, 1) := by decide +kernel
theorem dL_law_558 : decode cL_law 558 = .ok (.ifCond .eq 5, 3) := by decide +kernel
theorem dL_law_561 : decode cL_law 561 = .ok (.iconst 0, 1) := by decide +kernel
theorem dL_law_562 : decode cL_law 562 = .ok (.ireturn, 1) := by decide +kernel
theorem dL_law_563 : decode cL_law 563 = .ok (.goto 294, 3) := by decide +kernel
theorem dL_law_566 : decode cL_law 566 = .ok (.aload_n 1, 1) := by decide +kernel
theorem dL_law_567 : decode cL_law 567 = .ok (.aload_n 0, 1) := by decide +kernel
theorem dL_law_568 : decode cL_law 568 = .ok (.iload 4, 2) := by decide +kernel
theorem dL_law_570 : decode cL_law 570 = .ok (.iconst 1, 1) := by decide +kernel
theorem dL_law_571 : decode cL_law 571 = .ok (.iadd, 1) := by decide +kernel
theorem dL_law_572 : decode cL_law 572 = .ok (.iaload, 1) := by decide +kernel
theorem dL_law_573 : decode cL_law 573 = .ok (.aload_n 0, 1) := by decide +kernel
theorem dL_law_574 : decode cL_law 574 = .ok (.iload 4, 2) := by decide +kernel
theorem dL_law_576 : decode cL_law 576 = .ok (.iconst 2, 1) := by decide +kernel
theorem dL_law_577 : decode cL_law 577 = .ok (.iadd, 1) := by decide +kernel
theorem dL_law_578 : decode cL_law 578 = .ok (.iaload, 1) := by decide +kernel
theorem dL_law_579 : decode cL_law 579 = .ok (.aload_n 3, 1) := by decide +kernel
theorem dL_law_580 : decode cL_law 580 = .ok (.invokestatic 94, 3) := by decide +kernel
theorem dL_law_583 : decode cL_law 583 = .ok (.istore 5, 2) := by decide +kernel
theorem dL_law_585 : decode cL_law 585 = .ok (.aload_n 2, 1) := by decide +kernel
theorem dL_law_586 : decode cL_law 586 = .ok (.aload_n 0, 1) := by decide +kernel
theorem dL_law_587 : decode cL_law 587 = .ok (.iload 4, 2) := by decide +kernel
theorem dL_law_589 : decode cL_law 589 = .ok (.iconst 1, 1) := by decide +kernel
theorem dL_law_590 : decode cL_law 590 = .ok (.iadd, 1) := by decide +kernel
theorem dL_law_591 : decode cL_law 591 = .ok (.iaload, 1) := by decide +kernel
theorem dL_law_592 : decode cL_law 592 = .ok (.aload_n 0, 1) := by decide +kernel
theorem dL_law_593 : decode cL_law 593 = .ok (.iload 4, 2) := by decide +kernel
theorem dL_law_595 : decode cL_law 595 = .ok (.iconst 2, 1) := by decide +kernel
theorem dL_law_596 : decode cL_law 596 = .ok (.iadd, 1) := by decide +kernel
theorem dL_law_597 : decode cL_law 597 = .ok (.iaload, 1) := by decide +kernel
theorem dL_law_598 : decode cL_law 598 = .ok (.invokevirtual 96, 3) := by decide +kernel
theorem dL_law_601 : decode cL_law 601 = .ok (.istore 6, 2) := by decide +kernel
theorem dL_law_603 : decode cL_law 603 = .ok (.aload_n 2, 1) := by decide +kernel
theorem dL_law_604 : decode cL_law 604 = .ok (.invokevirtual 62, 3) := by decide +kernel
theorem dL_law_607 : decode cL_law 607 = .ok (.iload 5, 2) := by decide +kernel
theorem dL_law_609 : decode cL_law 609 = .ok (.if_icmp .eq 5, 3) := by decide +kernel
theorem dL_law_612 : decode cL_law 612 = .ok (.iconst 0, 1) := by decide +kernel
theorem dL_law_613 : decode cL_law 613 = .ok (.ireturn, 1) := by decide +kernel
theorem dL_law_614 : decode cL_law 614 = .ok (.iload 5, 2) := by decide +kernel
theorem dL_law_616 : decode cL_law 616 = .ok (.ifCond .ne 15, 3) := by decide +kernel
theorem dL_law_619 : decode cL_law 619 = .ok (.aload_n 3, 1) := by decide +kernel
theorem dL_law_620 : decode cL_law 620 = .ok (.iconst 0, 1) := by decide +kernel
theorem dL_law_621 : decode cL_law 621 = .ok (.laload, 1) := by decide +kernel
theorem dL_law_622 : decode cL_law 622 = .ok (.iload 6, 2) := by decide +kernel
theorem dL_law_624 : decode cL_law 624 = .ok (.i2l, 1) := by decide +kernel
theorem dL_law_625 : decode cL_law 625 = .ok (.lcmp, 1) := by decide +kernel
theorem dL_law_626 : decode cL_law 626 = .ok (.ifCond .eq 5, 3) := by decide +kernel
theorem dL_law_629 : decode cL_law 629 = .ok (.iconst 0, 1) := by decide +kernel
theorem dL_law_630 : decode cL_law 630 = .ok (.ireturn, 1) := by decide +kernel
theorem dL_law_631 : decode cL_law 631 = .ok (.goto 226, 3) := by decide +kernel
theorem dL_law_634 : decode cL_law 634 = .ok (.aload_n 1, 1) := by decide +kernel
theorem dL_law_635 : decode cL_law 635 = .ok (.aload_n 0, 1) := by decide +kernel
theorem dL_law_636 : decode cL_law 636 = .ok (.iload 4, 2) := by decide +kernel
theorem dL_law_638 : decode cL_law 638 = .ok (.iconst 1, 1) := by decide +kernel
theorem dL_law_639 : decode cL_law 639 = .ok (.iadd, 1) := by decide +kernel
theorem dL_law_640 : decode cL_law 640 = .ok (.iaload, 1) := by decide +kernel
theorem dL_law_641 : decode cL_law 641 = .ok (.aload_n 3, 1) := by decide +kernel
theorem dL_law_642 : decode cL_law 642 = .ok (.invokestatic 97, 3) := by decide +kernel
theorem dL_law_645 : decode cL_law 645 = .ok (.istore 5, 2) := by decide +kernel
theorem dL_law_647 : decode cL_law 647 = .ok (.aload_n 2, 1) := by decide +kernel
theorem dL_law_648 : decode cL_law 648 = .ok (.aload_n 0, 1) := by decide +kernel
theorem dL_law_649 : decode cL_law 649 = .ok (.iload 4, 2) := by decide +kernel
theorem dL_law_651 : decode cL_law 651 = .ok (.iconst 1, 1) := by decide +kernel
theorem dL_law_652 : decode cL_law 652 = .ok (.iadd, 1) := by decide +kernel
theorem dL_law_653 : decode cL_law 653 = .ok (.iaload, 1) := by decide +kernel
theorem dL_law_654 : decode cL_law 654 = .ok (.invokevirtual 99, 3) := by decide +kernel
theorem dL_law_657 : decode cL_law 657 = .ok (.istore 6, 2) := by decide +kernel
theorem dL_law_659 : decode cL_law 659 = .ok (.aload_n 2, 1) := by decide +kernel
theorem dL_law_660 : decode cL_law 660 = .ok (.invokevirtual 62, 3) := by decide +kernel
theorem dL_law_663 : decode cL_law 663 = .ok (.iload 5, 2) := by decide +kernel
theorem dL_law_665 : decode cL_law 665 = .ok (.if_icmp .eq 5, 3) := by decide +kernel
theorem dL_law_668 : decode cL_law 668 = .ok (.iconst 0, 1) := by decide +kernel
theorem dL_law_669 : decode cL_law 669 = .ok (.ireturn, 1) := by decide +kernel
theorem dL_law_670 : decode cL_law 670 = .ok (.iload 5, 2) := by decide +kernel
theorem dL_law_672 : decode cL_law 672 = .ok (.ifCond .ne 15, 3) := by decide +kernel
theorem dL_law_675 : decode cL_law 675 = .ok (.aload_n 3, 1) := by decide +kernel
theorem dL_law_676 : decode cL_law 676 = .ok (.iconst 0, 1) := by decide +kernel
theorem dL_law_677 : decode cL_law 677 = .ok (.laload, 1) := by decide +kernel
theorem dL_law_678 : decode cL_law 678 = .ok (.iload 6, 2) := by decide +kernel
theorem dL_law_680 : decode cL_law 680 = .ok (.i2l, 1) := by decide +kernel
theorem dL_law_681 : decode cL_law 681 = .ok (.lcmp, 1) := by decide +kernel
theorem dL_law_682 : decode cL_law 682 = .ok (.ifCond .eq 5, 3) := by decide +kernel
theorem dL_law_685 : decode cL_law 685 = .ok (.iconst 0, 1) := by decide +kernel
theorem dL_law_686 : decode cL_law 686 = .ok (.ireturn, 1) := by decide +kernel
theorem dL_law_687 : decode cL_law 687 = .ok (.goto 170, 3) := by decide +kernel
theorem dL_law_690 : decode cL_law 690 = .ok (.aload_n 1, 1) := by decide +kernel
theorem dL_law_691 : decode cL_law 691 = .ok (.aload_n 0, 1) := by decide +kernel
theorem dL_law_692 : decode cL_law 692 = .ok (.iload 4, 2) := by decide +kernel
theorem dL_law_694 : decode cL_law 694 = .ok (.iconst 1, 1) := by decide +kernel
theorem dL_law_695 : decode cL_law 695 = .ok (.iadd, 1) := by decide +kernel
theorem dL_law_696 : decode cL_law 696 = .ok (.iaload, 1) := by decide +kernel
theorem dL_law_697 : decode cL_law 697 = .ok (.aload_n 3, 1) := by decide +kernel
theorem dL_law_698 : decode cL_law 698 = .ok (.invokestatic 100, 3) := by decide +kernel
theorem dL_law_701 : decode cL_law 701 = .ok (.istore 5, 2) := by decide +kernel
theorem dL_law_703 : decode cL_law 703 = .ok (.aload_n 2, 1) := by decide +kernel
theorem dL_law_704 : decode cL_law 704 = .ok (.aload_n 0, 1) := by decide +kernel
theorem dL_law_705 : decode cL_law 705 = .ok (.iload 4, 2) := by decide +kernel
theorem dL_law_707 : decode cL_law 707 = .ok (.iconst 1, 1) := by decide +kernel
theorem dL_law_708 : decode cL_law 708 = .ok (.iadd, 1) := by decide +kernel
theorem dL_law_709 : decode cL_law 709 = .ok (.iaload, 1) := by decide +kernel
theorem dL_law_710 : decode cL_law 710 = .ok (.invokevirtual 102, 3) := by decide +kernel
theorem dL_law_713 : decode cL_law 713 = .ok (.istore 6, 2) := by decide +kernel
theorem dL_law_715 : decode cL_law 715 = .ok (.aload_n 2, 1) := by decide +kernel
theorem dL_law_716 : decode cL_law 716 = .ok (.invokevirtual 62, 3) := by decide +kernel
theorem dL_law_719 : decode cL_law 719 = .ok (.iload 5, 2) := by decide +kernel
theorem dL_law_721 : decode cL_law 721 = .ok (.if_icmp .eq 5, 3) := by decide +kernel
theorem dL_law_724 : decode cL_law 724 = .ok (.iconst 0, 1) := by decide +kernel
theorem dL_law_725 : decode cL_law 725 = .ok (.ireturn, 1) := by decide +kernel
theorem dL_law_726 : decode cL_law 726 = .ok (.iload 5, 2) := by decide +kernel
theorem dL_law_728 : decode cL_law 728 = .ok (.ifCond .ne 15, 3) := by decide +kernel
theorem dL_law_731 : decode cL_law 731 = .ok (.aload_n 3, 1) := by decide +kernel
theorem dL_law_732 : decode cL_law 732 = .ok (.iconst 0, 1) := by decide +kernel
theorem dL_law_733 : decode cL_law 733 = .ok (.laload, 1) := by decide +kernel
theorem dL_law_734 : decode cL_law 734 = .ok (.iload 6, 2) := by decide +kernel
theorem dL_law_736 : decode cL_law 736 = .ok (.i2l, 1) := by decide +kernel
theorem dL_law_737 : decode cL_law 737 = .ok (.lcmp, 1) := by decide +kernel
theorem dL_law_738 : decode cL_law 738 = .ok (.ifCond .eq 5, 3) := by decide +kernel
theorem dL_law_741 : decode cL_law 741 = .ok (.iconst 0, 1) := by decide +kernel
theorem dL_law_742 : decode cL_law 742 = .ok (.ireturn, 1) := by decide +kernel
theorem dL_law_743 : decode cL_law 743 = .ok (.goto 114, 3) := by decide +kernel
theorem dL_law_746 : decode cL_law 746 = .ok (.aload_n 1, 1) := by decide +kernel
theorem dL_law_747 : decode cL_law 747 = .ok (.aload_n 0, 1) := by decide +kernel
theorem dL_law_748 : decode cL_law 748 = .ok (.iload 4, 2) := by decide +kernel
theorem dL_law_750 : decode cL_law 750 = .ok (.iconst 1, 1) := by decide +kernel
theorem dL_law_751 : decode cL_law 751 = .ok (.iadd, 1) := by decide +kernel
theorem dL_law_752 : decode cL_law 752 = .ok (.iaload, 1) := by decide +kernel
theorem dL_law_753 : decode cL_law 753 = .ok (.aload_n 3, 1) := by decide +kernel
theorem dL_law_754 : decode cL_law 754 = .ok (.invokestatic 103, 3) := by decide +kernel
theorem dL_law_757 : decode cL_law 757 = .ok (.istore 5, 2) := by decide +kernel
theorem dL_law_759 : decode cL_law 759 = .ok (.aload_n 2, 1) := by decide +kernel
theorem dL_law_760 : decode cL_law 760 = .ok (.aload_n 0, 1) := by decide +kernel
theorem dL_law_761 : decode cL_law 761 = .ok (.iload 4, 2) := by decide +kernel
theorem dL_law_763 : decode cL_law 763 = .ok (.iconst 1, 1) := by decide +kernel
theorem dL_law_764 : decode cL_law 764 = .ok (.iadd, 1) := by decide +kernel
theorem dL_law_765 : decode cL_law 765 = .ok (.iaload, 1) := by decide +kernel
theorem dL_law_766 : decode cL_law 766 = .ok (.invokevirtual 105, 3) := by decide +kernel
theorem dL_law_769 : decode cL_law 769 = .ok (.istore 6, 2) := by decide +kernel
theorem dL_law_771 : decode cL_law 771 = .ok (.aload_n 2, 1) := by decide +kernel
theorem dL_law_772 : decode cL_law 772 = .ok (.invokevirtual 62, 3) := by decide +kernel
theorem dL_law_775 : decode cL_law 775 = .ok (.iload 5, 2) := by decide +kernel
theorem dL_law_777 : decode cL_law 777 = .ok (.if_icmp .eq 5, 3) := by decide +kernel
theorem dL_law_780 : decode cL_law 780 = .ok (.iconst 0, 1) := by decide +kernel
theorem dL_law_781 : decode cL_law 781 = .ok (.ireturn, 1) := by decide +kernel
theorem dL_law_782 : decode cL_law 782 = .ok (.iload 5, 2) := by decide +kernel
theorem dL_law_784 : decode cL_law 784 = .ok (.ifCond .ne 15, 3) := by decide +kernel
theorem dL_law_787 : decode cL_law 787 = .ok (.aload_n 3, 1) := by decide +kernel
theorem dL_law_788 : decode cL_law 788 = .ok (.iconst 0, 1) := by decide +kernel
theorem dL_law_789 : decode cL_law 789 = .ok (.laload, 1) := by decide +kernel
theorem dL_law_790 : decode cL_law 790 = .ok (.iload 6, 2) := by decide +kernel
theorem dL_law_792 : decode cL_law 792 = .ok (.i2l, 1) := by decide +kernel
theorem dL_law_793 : decode cL_law 793 = .ok (.lcmp, 1) := by decide +kernel
theorem dL_law_794 : decode cL_law 794 = .ok (.ifCond .eq 5, 3) := by decide +kernel
theorem dL_law_797 : decode cL_law 797 = .ok (.iconst 0, 1) := by decide +kernel
theorem dL_law_798 : decode cL_law 798 = .ok (.ireturn, 1) := by decide +kernel
theorem dL_law_799 : decode cL_law 799 = .ok (.goto 58, 3) := by decide +kernel
theorem dL_law_802 : decode cL_law 802 = .ok (.aload_n 1, 1) := by decide +kernel
theorem dL_law_803 : decode cL_law 803 = .ok (.invokevirtual 106, 3) := by decide +kernel
theorem dL_law_806 : decode cL_law 806 = .ok (.dstore 5, 2) := by decide +kernel
theorem dL_law_808 : decode cL_law 808 = .ok (.aload_n 2, 1) := by decide +kernel
theorem dL_law_809 : decode cL_law 809 = .ok (.invokevirtual 110, 3) := by decide +kernel
theorem dL_law_812 : decode cL_law 812 = .ok (.dstore 7, 2) := by decide +kernel
theorem dL_law_814 : decode cL_law 814 = .ok (.dload 5, 2) := by decide +kernel
theorem dL_law_816 : decode cL_law 816 = .ok (.dload 7, 2) := by decide +kernel
theorem dL_law_818 : decode cL_law 818 = .ok (.dcmp .l, 1) := by decide +kernel
theorem dL_law_819 : decode cL_law 819 = .ok (.ifCond .eq 21, 3) := by decide +kernel
theorem dL_law_822 : decode cL_law 822 = .ok (.dload 5, 2) := by decide +kernel
theorem dL_law_824 : decode cL_law 824 = .ok (.dload 5, 2) := by decide +kernel
theorem dL_law_826 : decode cL_law 826 = .ok (.dcmp .l, 1) := by decide +kernel
theorem dL_law_827 : decode cL_law 827 = .ok (.ifCond .eq 11, 3) := by decide +kernel
theorem dL_law_830 : decode cL_law 830 = .ok (.dload 7, 2) := by decide +kernel
theorem dL_law_832 : decode cL_law 832 = .ok (.dload 7, 2) := by decide +kernel
theorem dL_law_834 : decode cL_law 834 = .ok (.dcmp .l, 1) := by decide +kernel
theorem dL_law_835 : decode cL_law 835 = .ok (.ifCond .ne 5, 3) := by decide +kernel
theorem dL_law_838 : decode cL_law 838 = .ok (.iconst 0, 1) := by decide +kernel
theorem dL_law_839 : decode cL_law 839 = .ok (.ireturn, 1) := by decide +kernel
theorem dL_law_840 : decode cL_law 840 = .ok (.goto 17, 3) := by decide +kernel
theorem dL_law_843 : decode cL_law 843 = .ok (.aload_n 1, 1) := by decide +kernel
theorem dL_law_844 : decode cL_law 844 = .ok (.invokevirtual 111, 3) := by decide +kernel
theorem dL_law_847 : decode cL_law 847 = .ok (.aload_n 2, 1) := by decide +kernel
theorem dL_law_848 : decode cL_law 848 = .ok (.invokevirtual 115, 3) := by decide +kernel
theorem dL_law_851 : decode cL_law 851 = .ok (.lcmp, 1) := by decide +kernel
theorem dL_law_852 : decode cL_law 852 = .ok (.ifCond .eq 5, 3) := by decide +kernel
theorem dL_law_855 : decode cL_law 855 = .ok (.iconst 0, 1) := by decide +kernel
theorem dL_law_856 : decode cL_law 856 = .ok (.ireturn, 1) := by decide +kernel
theorem dL_law_857 : decode cL_law 857 = .ok (.iinc 4 4, 3) := by decide +kernel
theorem dL_law_860 : decode cL_law 860 = .ok (.goto (-837), 3) := by decide +kernel
theorem dL_law_863 : decode cL_law 863 = .ok (.iconst 1, 1) := by decide +kernel
theorem dL_law_864 : decode cL_law 864 = .ok (.ireturn, 1) := by decide +kernel
abbrev vwCl : List vw_C := [(RX0, TX0, 15), (RX1, TX1, 15), (RX2, TX2, 5)]
end
