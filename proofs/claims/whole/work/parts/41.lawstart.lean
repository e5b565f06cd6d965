section LWF
theorem arr_known {s : State} {args : Array Value} {ty : FieldType} (h : (Cond.arrayClass ty).before args s = true) : ∃ cA, ArrOfT s cA ty ∧ s.vm.findClass ("[" ++ ty.toString) = some cA := by
  obtain ⟨c, k, comp, h1, h2, h3⟩ := Cond.arrayClass_spec h
  exact ⟨c, fun n z => ⟨fun k h => (by cases h), k, h2, comp, h3⟩, h1⟩
theorem xStr_of {args : Array Value} {s : State} {k : Nat} {tx : String} (h1 : (Cond.stringRef RX0 k tx).before args s = true) (h2 : (Cond.exactly (.string RX0 k) "java/lang/String").before args s = true) : xStr k tx s := by
  obtain ⟨a, _, _, _, ht, _⟩ := Cond.exactly_spec h2
  exact ⟨a, vk_R.of h1 ht⟩
set_option maxHeartbeats 4000000 in
set_option maxRecDepth 100000 in
theorem start_ctx {p : Program} {s : State} {m : MethodId} {meth : Method} {c : Code} (l : Launch) (hflags : l.flags = flags0) {b L : Nat} {xs : Nat → Int32} (C0 : lw_At p s m meth c b L xs) : ∃ (D : va_G) (cy ly : ClassId), LCtx p l s m meth c b L xs D cy ly := by
  obtain ⟨hx, hb, hr, hml, hown, hts0, hX, hbl, hlocks, hgv⟩ := id C0
  have hfl : l.stackTraces = false := by show (!l.flags.contains Jvm.noTraceFlag) = false; rw [hflags]; decide +kernel
  have hn := flat_of_before _ hgv
  obtain ⟨c0, i0, hKn0⟩ := u_known (C := RX0) (T := TX0) (N := 15) (n := 15) hts0 inX0 (hts0 (.instantiable RX0 15) (by decide +kernel))
  obtain ⟨c1, i1, hKn1⟩ := u_known (C := RX1) (T := TX1) (N := 15) (n := 15) hts0 inX1 (hts0 (.instantiable RX1 15) (by decide +kernel))
  obtain ⟨c2, i2, hKn2⟩ := u_known (C := RX2) (T := TX2) (N := 5) (n := 5) hts0 inX2 (hts0 (.instantiable RX2 5) (by decide +kernel))
  obtain ⟨dC, dI, hKc⟩ : ∃ (dC : Nat → ClassId) (dI : Nat → Nat → Nat), ∀ (k : Nat) (q : vw_C), vwCl[k]? = some q → u_Kn s q.1 q.2.1 q.2.2 (dC k) (dI k) := by
    refine ⟨fun k => if k = 0 then c0 else if k = 1 then c1 else c2, fun k => if k = 0 then i0 else if k = 1 then i1 else i2, ?_⟩
    intro k q hq
    match k, hq with
    | 0, hq => cases hq; exact hKn0
    | 1, hq => cases hq; exact hKn1
    | 2, hq => cases hq; exact hKn2
    | k + 3, hq => simp [vwCl] at hq
  obtain ⟨cy, hy1, hy2⟩ := arr_known (hts0 (.arrayClass .int) (by decide +kernel))
  obtain ⟨ly, hz1, hz2⟩ := arr_known (hts0 (.arrayClass .long) (by decide +kernel))
  refine ⟨(dC, dI), cy, ly, hfl, C0, ⟨⟨hKc, fun k q hq => ?_⟩, ?_⟩, ⟨?_, ?_, ?_⟩, ?_⟩
  · match k, hq with
    | 0, hq => cases hq; exact ⟨hy1, hy2⟩
    | 1, hq => cases hq; exact ⟨hz1, hz2⟩
    | k + 2, hq => simp at hq
  · exact ⟨va_Nw.of rfl (hts0 ((.fieldLinkNest RX2 64 RX1 "lines" "I" RX2)) (by decide +kernel)), va_Nw.of rfl (hts0 ((.fieldLinkNest RX2 123 RX1 "dry" "I" RX2)) (by decide +kernel)), va_Nw.of rfl (hts0 ((.fieldLinkNest RX2 57 RX1 "stove" "[I" RX2)) (by decide +kernel)), va_Nw.of rfl (hts0 ((.fieldLinkNest RX2 76 RX1 "shelf" "[I" RX2)) (by decide +kernel)), va_Nw.of rfl (hts0 ((.fieldLinkNest RX2 79 RX1 "stamp" "[I" RX2)) (by decide +kernel)), va_Nw.of rfl (hts0 ((.fieldLinkNest RX2 95 RX1 "dish" "[I" RX2)) (by decide +kernel)), va_Nw.of rfl (hts0 ((.fieldLinkNest RX2 108 RX1 "kind" "[I" RX2)) (by decide +kernel)), va_Nw.of rfl (hts0 ((.fieldLinkNest RX2 111 RX1 "pot" "[I" RX2)) (by decide +kernel)), va_Nw.of rfl (hts0 ((.fieldLinkNest RX2 114 RX1 "ahead" "[I" RX2)) (by decide +kernel)), va_Nw.of rfl (hts0 ((.fieldLinkNest RX2 117 RX1 "behind" "[I" RX2)) (by decide +kernel)), va_Nw.of rfl (hts0 ((.fieldLinkNest RX2 120 RX1 "takes" "[I" RX2)) (by decide +kernel)), va_Nw.of rfl (hts0 ((.fieldLinkNest RX2 88 RX1 "anew" "I" RX2)) (by decide +kernel)), va_Nw.of rfl (hts0 ((.fieldLinkNest RX2 146 RX1 "first" "I" RX2)) (by decide +kernel)), va_Nw.of rfl (hts0 ((.fieldLinkNest RX2 143 RX1 "back" "I" RX2)) (by decide +kernel)), va_Nw.of rfl (hts0 ((.fieldLinkNest RX1 68 RX2 "dishes" "I" RX2)) (by decide +kernel))⟩
  · exact vx_Zqof (hts0 (.laysStatic Bundle.tN "UNASSIGNED_STACK" Bundle.steD) (by decide +kernel)) (hts0 (.initialized Bundle.tN) (by decide +kernel)) (hn (.isRef (.static Bundle.tN "UNASSIGNED_STACK" Bundle.steD)) (by decide +kernel)) (fun a ha => Nat.not_le.mpr ha)
  · exact vx_Zqof (hts0 (.laysStatic Bundle.tN "SUPPRESSED_SENTINEL" Bundle.listD) (by decide +kernel)) (hts0 (.initialized Bundle.tN) (by decide +kernel)) (hn (.isRef (.static Bundle.tN "SUPPRESSED_SENTINEL" Bundle.listD)) (by decide +kernel)) (fun a ha => Nat.not_le.mpr ha)
  · exact ⟨va_Nw.of rfl (hts0 (.castable xISE xISE) (by decide +kernel)), va_Nw.of rfl (hts0 (.castable xIAE xIAE) (by decide +kernel)), va_Nw.of rfl (hts0 (.castable xIOB xIOB) (by decide +kernel)), xStr_of (hts0 (.stringRef RX0 55 "there were 20 dishes") (by decide +kernel)) (hn (.exactly (.string RX0 55) "java/lang/String") (by decide +kernel)), xStr_of (hts0 (.stringRef RX0 64 "no room for the line") (by decide +kernel)) (hn (.exactly (.string RX0 64) "java/lang/String") (by decide +kernel)), xStr_of (hts0 (.stringRef RX0 83 "no such dish or pot") (by decide +kernel)) (hn (.exactly (.string RX0 83) "java/lang/String") (by decide +kernel)), xStr_of (hts0 (.stringRef RX0 88 "spoons are 0 to 999") (by decide +kernel)) (hn (.exactly (.string RX0 88) "java/lang/String") (by decide +kernel)), xStr_of (hts0 (.stringRef RX0 94 "the dish is not open") (by decide +kernel)) (hn (.exactly (.string RX0 94) "java/lang/String") (by decide +kernel)), xStr_of (hts0 (.stringRef RX0 100 "another dish holds the pot") (by decide +kernel)) (hn (.exactly (.string RX0 100) "java/lang/String") (by decide +kernel)), xStr_of (hts0 (.stringRef RX0 110 "no such dish") (by decide +kernel)) (hn (.exactly (.string RX0 110) "java/lang/String") (by decide +kernel)), xStr_of (hts0 (.stringRef RX0 121 "no such pot") (by decide +kernel)) (hn (.exactly (.string RX0 121) "java/lang/String") (by decide +kernel)), xStr_of (hts0 (.stringRef RX0 145 "no such pot or answer") (by decide +kernel)) (hn (.exactly (.string RX0 145) "java/lang/String") (by decide +kernel)), xStr_of (hts0 (.stringRef RX0 151 "no such dish or answer") (by decide +kernel)) (hn (.exactly (.string RX0 151) "java/lang/String") (by decide +kernel)), xStr_of (hts0 (.stringRef RX0 156 "no such line or answer") (by decide +kernel)) (hn (.exactly (.string RX0 156) "java/lang/String") (by decide +kernel)), xStr_of (hts0 (.stringRef RX0 161 "no such answer") (by decide +kernel)) (hn (.exactly (.string RX0 161) "java/lang/String") (by decide +kernel)), va_Nw.of rfl (hts0 (.declares (Bundle.initS "java/lang/RuntimeException")) (by decide +kernel)), va_Nw.of rfl (hts0 (.declares (Bundle.initS "java/lang/Exception")) (by decide +kernel)), va_Nw.of rfl (hts0 (.declares (Bundle.initS Bundle.tN)) (by decide +kernel))⟩
  · exact ⟨va_Nc.of (hn (.not (.castable xIAE xIOB)) (by decide +kernel)), va_Nc.of (hn (.not (.castable xISE xIOB)) (by decide +kernel)), va_Nc.of (hn (.not (.castable xISE xIAE)) (by decide +kernel))⟩
set_option maxHeartbeats 4000000 in
set_option maxRecDepth 100000 in
theorem whole_start {p : Program} {e : Env} {s : State} {m : MethodId} {below : List Frame} {meth : Method} {c : Code} (l : Launch) (hflags : l.flags = flags0) {b L : Nat} {xs : Nat → Int32} (hL : L ≤ 2048) (C0 : lw_At p s m meth c b L xs) : W p l e room_1 s m #[Value.ref b] below meth c s.heap [] 0 0 (lw_Z below #[Value.ref b] s) (entryFrame m ([Value.ref b] : List Value).toArray 9) := by
  obtain ⟨D, cy, ly, hc⟩ := start_ctx l hflags C0
  obtain ⟨hfl, -, hKL, hXp, hNc⟩ := id hc
  obtain ⟨hx, hb, hr, hml, hown, hts0, hX, hbl, hlocks, hgv⟩ := id C0
  have hts : ∀ w ∈ wsL_law, w.before #[Value.ref b] s = true := fun w h9 => hts0 w (wsL_law_in w h9)
  have hown : s.vm.findClass RL = some m.cls := hown
  have hK := hKL.kk
  have hA : ∀ q9 : Nat, s.heap.size ≤ q9 → lwA s q9 := fun _ h9 => h9
  have hS : va_S (lwA s) s.heap s.heap [] := va_S.rf
  have hP : va_P D vwCl [] s.heap := fun k q h9 => by simp at h9
  have hD : va_D (lwA s) [] := ⟨fun i j p9 q h9 => by simp at h9, fun k q h9 => by simp at h9⟩
  have hl := lv_entry ([.ref b]) (n := 9) (Nat.le_of_ble_eq_true rfl)
  rw [lg_entry_eq]
  generalize (lg_sl ([.ref b]) ++ List.replicate (9 - (lg_sl ([.ref b])).length) Slot.unset).toArray = ls at hl ⊢
  have hl : lv_has ls 9 [(0, .ref b)] := hl
  refine va_new (ci := 0) (fs := [.null, .null, .null, .null, .int 0, .null, .null, .null, .null, .null, .null, .null, .int 0, .int 0, .int 0]) (C := RX0) (T := TX0) (N := 15) hx hb hts0 inX0 tyX0 tyX0_ok hown (hts0 (.classLink RL 8 RX0) (by decide +kernel)) (hts0 (.instantiable RX0 15) (by decide +kernel)) (hts0 (.initialized RX0) (by decide +kernel)) hK.1 hP hD hS hA rfl (fun j hj => by rcases (show j = 0 ∨ j = 1 ∨ j = 2 ∨ j = 3 ∨ j = 4 ∨ j = 5 ∨ j = 6 ∨ j = 7 ∨ j = 8 ∨ j = 9 ∨ j = 10 ∨ j = 11 ∨ j = 12 ∨ j = 13 ∨ j = 14 by omega) with rfl | rfl | rfl | rfl | rfl | rfl | rfl | rfl | rfl | rfl | rfl | rfl | rfl | rfl | rfl <;> rfl) (Nat.le_of_ble_eq_true rfl) (Nat.le_of_ble_eq_true rfl) dL_law_0 (fun h H hP hD hS => ?_)
  refine lv_dup hx hb dL_law_3 rfl ?_
  have hP : va_P D vwCl [(h, .inr (0, [.null, .null, .null, .null, .int 0, .null, .null, .null, .null, .null, .null, .null, .int 0, .int 0, .int 0]))] H := hP
  have hD : va_D (lwA s) [(h, .inr (0, [.null, .null, .null, .null, .int 0, .null, .null, .null, .null, .null, .null, .null, .int 0, .int 0, .int 0]))] := hD
  have hFc := va_free (wc := [(h, .inr (0, [.null, .null, .null, .null, .int 0, .null, .null, .null, .null, .null, .null, .null, .int 0, .int 0, .int 0]))]) hD hS hA [0] rfl
  refine va_callv (va_runI (As := []) (rest := [.ref h]) ⟨hx, hb, hml, hown, hts⟩ (mX0_init l D cy h H.size) (cwI 0 hts gL_law_X0_init rfl rfl rfl (hts0 (.initialized RX0) (by decide +kernel)) (hts0 (.methodLink RL 52 yX0_init) (by decide +kernel)) (hts0 (.instanceMethod yX0_init) (by decide +kernel)) rfl (by decide +kernel) ⟨Nat.le_of_ble_eq_true rfl, Nat.le_of_ble_eq_true rfl⟩) (wr_preS (ws := [(h, .inr (0, [.null, .null, .null, .null, .int 0, .null, .null, .null, .null, .null, .null, .null, .int 0, .int 0, .int 0]))]) (hP.sub [0] rfl) (hD.sub [0] (by decide) rfl) hK) rfl rfl hl.1 rfl (lv_room (Nat.le_of_ble_eq_true rfl)) dL_law_4 ⟨Nat.le_of_ble_eq_true rfl, Nat.le_of_ble_eq_true rfl⟩) hS (fun q9 _ h9 => hFc q9 h9) hFc (fun a t H1 locs ht hvm hw hB hz1 hk1 hS => ?_)
  obtain ⟨hP1, hD1⟩ := hB
  rw [ht] at hP1
  obtain ⟨hP, hD⟩ := va_join (wr := []) (w1 := cC h a cy initR 0 0 0 0) hP hD [0] [] rfl rfl (by decide) (by decide) hk1 hFc hP1 hD1
  generalize H1 = H at hP hS ⊢
  have hP : va_P D vwCl (cC h a cy initR 0 0 0 0) H := hP
  have hD : va_D (lwA s) (cC h a cy initR 0 0 0 0) := hD
  refine lv_astore_n (lv' := [(1, .ref h), (0, .ref b)]) hx hb dL_law_7 rfl hl (by decide) rfl (fun ls hl => ?_)
  refine va_new (ci := 2) (fs := [.int 0, .int 0, .int 0, .null, .null]) (C := RX2) (T := TX2) (N := 5) hx hb hts0 inX2 tyX2 tyX2_ok hown (hts0 (.classLink RL 53 RX2) (by decide +kernel)) (hts0 (.instantiable RX2 5) (by decide +kernel)) (hts0 (.initialized RX2) (by decide +kernel)) hK.1 hP hD hS hA rfl (fun j hj => by rcases (show j = 0 ∨ j = 1 ∨ j = 2 ∨ j = 3 ∨ j = 4 by omega) with rfl | rfl | rfl | rfl | rfl <;> rfl) (Nat.le_of_ble_eq_true rfl) (Nat.le_of_ble_eq_true rfl) dL_law_8 (fun mo H hP hD hS => ?_)
  refine lv_dup hx hb dL_law_11 rfl ?_
  have hFc := va_free (wc := [(mo, .inr (2, [.int 0, .int 0, .int 0, .null, .null]))]) hD hS hA [12] rfl
  refine va_callv (va_runI (As := []) (rest := [.ref mo]) ⟨hx, hb, hml, hown, hts⟩ (mX2_init l D cy mo H.size) (cwI 0 hts gL_law_X2_init rfl rfl rfl (hts0 (.initialized RX2) (by decide +kernel)) (hts0 (.methodLink RL 55 yX2_init) (by decide +kernel)) (hts0 (.instanceMethod yX2_init) (by decide +kernel)) rfl (by decide +kernel) ⟨Nat.le_of_ble_eq_true rfl, Nat.le_of_ble_eq_true rfl⟩) (wr_preS (ws := [(mo, .inr (2, [.int 0, .int 0, .int 0, .null, .null]))]) (hP.sub [12] rfl) (hD.sub [12] (by decide) rfl) hK) rfl rfl hl.1 rfl (lv_room (Nat.le_of_ble_eq_true rfl)) dL_law_12 ⟨Nat.le_of_ble_eq_true rfl, Nat.le_of_ble_eq_true rfl⟩) hS (fun q9 _ h9 => hFc q9 h9) hFc (fun u t H1 locs ht hvm hw hB hz1 hk1 hS => ?_)
  obtain ⟨q, bq, q2, b2⟩ := u
  obtain ⟨hP1, hD1⟩ := hB
  rw [ht] at hP1
  obtain ⟨hP, hD⟩ := va_join (wr := cC h a cy initR 0 0 0 0) (w1 := cW q bq cy initR 0 0 0 0 0 mo 0 0 0 q2 b2 initR 0 0 0 0 0) hP hD [12] [0, 1, 2, 3, 4, 5, 6, 7, 8, 9, 10, 11] rfl rfl (by decide) (by decide) hk1 hFc hP1 hD1
  generalize H1 = H at hP hS ⊢
  refine lv_astore_n (lv' := [(2, .ref mo), (1, .ref h), (0, .ref b)]) hx hb dL_law_15 rfl hl (by decide) rfl (fun ls hl => ?_)
  refine lv_iconst (v := 1) hx hb dL_law_16 (by decide) ?_
  refine va_newa (atype := .long) (N' := 1) (a0 := (1, .inr (.inl (fun _ => 0)))) hx hb (hts0 (.arrayClass .long) (by decide +kernel)) rfl hKL.1 hP hD hS hA (fun _ => rfl) (by decide) (by decide) (by decide) (Nat.le_of_ble_eq_true rfl) (Nat.le_of_ble_eq_true rfl) dL_law_17 (fun o cA H hK9 hP hD hS => ?_)
  rw [show cA = ly from Option.some.inj ((hK9.2 2 _ rfl).2.symm.trans (hK9.2 1 _ rfl).2)] at hP hD
  have hP : va_P D vwCl (LW D cy ly h a o q bq mo q2 b2 initR initR initR 0 0 0 0 0 0 0 0 0 0 0 0 0 (fun _ => 0)) H := hP.sub (ws' := LW D cy ly h a o q bq mo q2 b2 initR initR initR 0 0 0 0 0 0 0 0 0 0 0 0 0 (fun _ => 0)) [0, 1, 2, 3, 4, 5, 6, 7, 8, 9, 10, 11, 33, 12, 13, 14, 15, 16, 17, 18, 19, 20, 21, 22, 23, 24, 25, 26, 27, 28, 29, 30, 31, 32] rfl
  have hD : va_D (lwA s) (LW D cy ly h a o q bq mo q2 b2 initR initR initR 0 0 0 0 0 0 0 0 0 0 0 0 0 (fun _ => 0)) := hD.sub (ws' := LW D cy ly h a o q bq mo q2 b2 initR initR initR 0 0 0 0 0 0 0 0 0 0 0 0 0 (fun _ => 0)) [0, 1, 2, 3, 4, 5, 6, 7, 8, 9, 10, 11, 33, 12, 13, 14, 15, 16, 17, 18, 19, 20, 21, 22, 23, 24, 25, 26, 27, 28, 29, 30, 31, 32] (by decide) rfl
  refine lv_astore_n (lv' := [(3, .ref o), (2, .ref mo), (1, .ref h), (0, .ref b)]) hx hb dL_law_19 rfl hl (by decide) rfl (fun ls hl => ?_)
  refine lv_iconst (v := 0) hx hb dL_law_20 (by decide) ?_
  refine lv_istore (lv' := [(4, .int (nI 0)), (3, .ref o), (2, .ref mo), (1, .ref h), (0, .ref b)]) hx hb dL_law_21 hl (by decide) rfl (fun ls hl => ?_)
  refine W.base ?_
  refine W.widen (k := 34) (n := 2423) (Nat.le_of_ble_eq_true rfl) (Nat.le_of_ble_eq_true rfl) ?_
  exact law_loop hL hc 513 0 34 2423 (by omega) (by omega) (by omega) (by omega) initR initR initR 0 0 0 0 0 0 0 0 0 0 0 0 0 (fun _ => 0) H _ s.drawn ls ⟨inv_init, agr_init, hP, hD, hS⟩ (Drawn.sameBut.refl s.drawn lw_cs) hl
end LWF
