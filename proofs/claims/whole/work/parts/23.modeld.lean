set_option maxRecDepth 100000 in
theorem inX2_digest_2 : ∀ w ∈ wsX20, w ∈ wsX2_digest := by decide +kernel

set_option maxRecDepth 100000 in
theorem inX2_digest_1 : ∀ w ∈ wsX10, w ∈ wsX2_digest := by decide +kernel

set_option maxHeartbeats 4000000 in
set_option maxRecDepth 100000 in
theorem mX2_digest (l : Launch) (D : va_G) (cy : ClassId) (q : Nat) (b : Nat → Nat) (M : Nat → Nat → Int32) (n dr : Nat) (an fi ba : Int32) (mo : Nat) (th : Int32) (nd : Nat) (fl : Int32) (tq : Nat)  (hnd : nd ≤ 20) (hn : n ≤ 120) (hdr : dr ≤ 120) (sz : Nat) : WnL l yX2_digest wsX2_digest 5 110 980 6580 [.ref mo] D cy (cSM q b cy M n dr an fi ba mo th nd fl q tq) (cSM q b cy M n dr an fi ba mo 0 nd fl q tq) sz (digestM M nd n dr fl) := by
  refine Met.ofW (cc := cX2_digest) (maxL := 5) (ret := (some .long)) (by decide) rfl ?_
  intro p e s m args below meth c s₁ B hml hv
  obtain ⟨rfl, hsz, hP, hK, hD0⟩ := hv
  have hx := B.exec
  have hb := B.bytes
  have hr := B.returns
  have hts := atoms_spec (ws := wsX2_digest) B.pre
  have hown : s.vm.findClass RX2 = some m.cls := findClass_of_methodNamed B.named
  have hlocks := B.notSynchronized
  subst hsz
  have hD := hD0.self (sz := s.heap.size)
  generalize hAe : va_A (cSM q b cy M n dr an fi ba mo th nd fl q tq) s.heap.size = A at hD ⊢
  have hA : ∀ q : Nat, s.heap.size ≤ q → A q := fun q h => by rw [← hAe]; exact Or.inr h
  have hS : va_S A s.heap s.heap [] := va_S.rf
  have hl := lv_entry ([.ref mo]) (n := 5) (Nat.le_of_ble_eq_true rfl)
  rw [lg_entry_eq]
  generalize (lg_sl ([.ref mo]) ++ List.replicate (5 - (lg_sl ([.ref mo])).length) Slot.unset).toArray = ls at hl ⊢
  have hl : lv_has ls 5 [(0, .ref mo)] := hl
  refine lv_aload_n hx hb dX2_digest_0 rfl (lv_at hl 0 rfl) ?_
  refine lv_iconst (v := 0) hx hb dX2_digest_1 (by decide) ?_
  refine va_put (D := D) (ci := 2) (v := .int 0) (ty := .int) (C := RX2) (T := TX2) (N := 5) hx hb hts inX2_digest_2 tyX2 tyX2_ok nmX2 hown hK.1 hP hD hS 10 rfl rfl 0 (by decide) (hts (.fieldLink RX2 21 "ChalkSlateModel" "thrown" "I") (by decide +kernel)) (fun _ h9 => h9) rfl (by decide +kernel) rfl rfl (Nat.le_of_ble_eq_true rfl) dX2_digest_2 (fun H locs hP hD hS => ?_)
  have hP : va_P D vwCl (cSM q b cy M n dr an fi ba mo 0 nd fl q tq) H := hP
  have hD : va_D A (cSM q b cy M n dr an fi ba mo 0 nd fl q tq) := hD
  refine lv_ldc2 hx hb hown (hts (.constantLong RX2 151 (1291)) (by decide +kernel)) dX2_digest_5 ?_
  refine lv_lstore_n (lv' := [(1, .long 1291), (0, .ref mo)]) hx hb dX2_digest_8 rfl hl (by decide) rfl (fun ls hl => ?_)
  refine lv_iconst (v := 0) hx hb dX2_digest_9 (by decide) ?_
  refine lv_istore_n (lv' := [(3, .int 0), (1, .long 1291), (0, .ref mo)]) hx hb dX2_digest_10 rfl hl (by decide) rfl (fun ls hl => ?_)
  have loopc : ∀ (kc ic : Nat) (dac : Int64), ic + kc = 11 → dac = foldD (fun w => countedM M nd n dr fl (nI w)) ic 1291 → ∀ (H : Heap) (locs : List Loc), va_P D vwCl (cSM q b cy M n dr an fi ba mo 0 nd fl q tq) H → va_D A (cSM q b cy M n dr an fi ba mo 0 nd fl q tq) → va_S A s.heap H locs → ∀ ls : Array Slot, lv_has ls 5 [(0, .ref mo), (1, .long dac), (3, .int (nI ic))] → W p l e (headSpec wsX2_digest { frames := 5, cells := 980, slots := 6580, locals := 110 }).room s m ([.ref mo] : List Value).toArray below meth c H locs 0 0 (MQ below (va_Ql (fun (r : Int64) (_ : Unit) => r = digestM M nd n dr fl) (fun _ t => va_P D vwCl (cSM q b cy M n dr an fi ba mo 0 nd fl q tq) t.heap) A) ([.ref mo] : List Value).toArray s 980 6580 A) (F0 m 11 ls []) := by
    intro kc
    induction kc with
    | zero =>
      intro ic dac hikc hdc H locs hP hD hS ls hl
      have hinc : ic = 11 := by omega
      refine lv_iload_n hx hb dX2_digest_11 rfl (lv_at hl 2 rfl) ?_
      refine lv_bipush (v := 11) hx hb dX2_digest_12 (by decide) ?_
      refine lv_icmp_ge (tgt := 36) hx hb dX2_digest_14 (by decide) (fun c1 => ?_) (fun c1 => absurd (nI_le (a := 11) (by omega) (by omega)) c1)
      refine lv_iconst (v := 0) hx hb dX2_digest_36 (by decide) ?_
      refine lv_istore_n (lv' := [(3, .int 0), (0, .ref mo), (1, .long dac)]) hx hb dX2_digest_37 rfl hl (by decide) rfl (fun ls hl => ?_)
      have loopp : ∀ (kp ip : Nat) (dap : Int64), ip + kp = 8 → dap = fold2 (fun u w => potTM M n nd (nI u) (nI w)) 5 ip (foldD (fun w => countedM M nd n dr fl (nI w)) 11 1291) → ∀ (H : Heap) (locs : List Loc), va_P D vwCl (cSM q b cy M n dr an fi ba mo 0 nd fl q tq) H → va_D A (cSM q b cy M n dr an fi ba mo 0 nd fl q tq) → va_S A s.heap H locs → ∀ ls : Array Slot, lv_has ls 5 [(0, .ref mo), (1, .long dap), (3, .int (nI ip))] → W p l e (headSpec wsX2_digest { frames := 5, cells := 980, slots := 6580, locals := 110 }).room s m ([.ref mo] : List Value).toArray below meth c H locs (5 * ip) (25 * ip) (MQ below (va_Ql (fun (r : Int64) (_ : Unit) => r = digestM M nd n dr fl) (fun _ t => va_P D vwCl (cSM q b cy M n dr an fi ba mo 0 nd fl q tq) t.heap) A) ([.ref mo] : List Value).toArray s 980 6580 A) (F0 m 38 ls []) := by
        intro kp
        induction kp with
        | zero =>
          intro ip dap hikp hdp H locs hP hD hS ls hl
          have hinp : ip = 8 := by omega
          refine lv_iload_n hx hb dX2_digest_38 rfl (lv_at hl 2 rfl) ?_
          refine lv_bipush (v := 8) hx hb dX2_digest_39 (by decide) ?_
          refine lv_icmp_ge (tgt := 80) hx hb dX2_digest_41 (by decide) (fun c2 => ?_) (fun c2 => absurd (nI_le (a := 8) (by omega) (by omega)) c2)
          refine lv_iconst (v := 0) hx hb dX2_digest_80 (by decide) ?_
          refine lv_istore_n (lv' := [(3, .int 0), (0, .ref mo), (1, .long dap)]) hx hb dX2_digest_81 rfl hl (by decide) rfl (fun ls hl => ?_)
          have loopd : ∀ (kd id : Nat) (dad : Int64), id + kd = nd → dad = fold2 (fun u w => dishTM M n (nI u) (nI w)) 5 id (fold2 (fun u w => potTM M n nd (nI u) (nI w)) 5 8 (foldD (fun w => countedM M nd n dr fl (nI w)) 11 1291)) → ∀ (H : Heap) (locs : List Loc), va_P D vwCl (cSM q b cy M n dr an fi ba mo 0 nd fl q tq) H → va_D A (cSM q b cy M n dr an fi ba mo 0 nd fl q tq) → va_S A s.heap H locs → ∀ ls : Array Slot, lv_has ls 5 [(0, .ref mo), (1, .long dad), (3, .int (nI id))] → W p l e (headSpec wsX2_digest { frames := 5, cells := 980, slots := 6580, locals := 110 }).room s m ([.ref mo] : List Value).toArray below meth c H locs (40 + 5 * id) (200 + 25 * id) (MQ below (va_Ql (fun (r : Int64) (_ : Unit) => r = digestM M nd n dr fl) (fun _ t => va_P D vwCl (cSM q b cy M n dr an fi ba mo 0 nd fl q tq) t.heap) A) ([.ref mo] : List Value).toArray s 980 6580 A) (F0 m 82 ls []) := by
            intro kd
            induction kd with
            | zero =>
              intro id dad hikd hdd H locs hP hD hS ls hl
              have hind : id = nd := by omega
              refine lv_iload_n hx hb dX2_digest_82 rfl (lv_at hl 2 rfl) ?_
              refine lv_aload_n hx hb dX2_digest_83 rfl (lv_at hl 0 rfl) ?_
              refine va_get (D := D) (ci := 2) (v := .int (nI nd)) (C := RX2) (T := TX2) (N := 5) hx hb hts inX2_digest_2 hown hK.1 hP 10 rfl rfl 1 (by decide) (hts (.fieldLink RX2 29 "ChalkSlateModel" "dishes" "I") (by decide +kernel)) (fun _ h9 => h9) rfl dX2_digest_84 ?_
              refine lv_icmp_ge (tgt := 126) hx hb dX2_digest_87 (by decide) (fun c3 => ?_) (fun c3 => absurd (nI_le (by omega) (by omega)) c3)
              refine lv_iconst (v := 0) hx hb dX2_digest_126 (by decide) ?_
              refine lv_istore_n (lv' := [(3, .int 0), (0, .ref mo), (1, .long dad)]) hx hb dX2_digest_127 rfl hl (by decide) rfl (fun ls hl => ?_)
              have loopl : ∀ (kl il : Nat) (dal : Int64), il + kl = n → dal = fold2 (fun u w => lineTM M dr (nI u) (nI w)) 7 il (fold2 (fun u w => dishTM M n (nI u) (nI w)) 5 nd (fold2 (fun u w => potTM M n nd (nI u) (nI w)) 5 8 (foldD (fun w => countedM M nd n dr fl (nI w)) 11 1291))) → ∀ (H : Heap) (locs : List Loc), va_P D vwCl (cSM q b cy M n dr an fi ba mo 0 nd fl q tq) H → va_D A (cSM q b cy M n dr an fi ba mo 0 nd fl q tq) → va_S A s.heap H locs → ∀ ls : Array Slot, lv_has ls 5 [(0, .ref mo), (1, .long dal), (3, .int (nI il))] → W p l e (headSpec wsX2_digest { frames := 5, cells := 980, slots := 6580, locals := 110 }).room s m ([.ref mo] : List Value).toArray below meth c H locs (40 + 5 * nd + 7 * il) (200 + 25 * nd + 49 * il) (MQ below (va_Ql (fun (r : Int64) (_ : Unit) => r = digestM M nd n dr fl) (fun _ t => va_P D vwCl (cSM q b cy M n dr an fi ba mo 0 nd fl q tq) t.heap) A) ([.ref mo] : List Value).toArray s 980 6580 A) (F0 m 128 ls []) := by
                intro kl
                induction kl with
                | zero =>
                  intro il dal hikl hdl H locs hP hD hS ls hl
                  have hinl : il = n := by omega
                  refine lv_iload_n hx hb dX2_digest_128 rfl (lv_at hl 2 rfl) ?_
                  refine lv_aload_n hx hb dX2_digest_129 rfl (lv_at hl 0 rfl) ?_
                  refine va_get (D := D) (ci := 2) (v := .ref q) (C := RX2) (T := TX2) (N := 5) hx hb hts inX2_digest_2 hown hK.1 hP 10 rfl rfl 3 (by decide) (hts (.fieldLink RX2 12 "ChalkSlateModel" "s" "LChalkSlateModel$State;") (by decide +kernel)) (fun _ h9 => h9) rfl dX2_digest_130 ?_
                  refine va_getN (D := D) (ci := 1) (v := .int (nI n)) (C := RX1) (T := TX1) (N := 15) hx hb hts inX2_digest_1 hown hK.1 hP 0 rfl rfl 0 (by decide) (va_Nw.use rfl hK.2.1) (fun _ h9 => h9) rfl dX2_digest_133 ?_
                  refine lv_icmp_ge (tgt := 176) hx hb dX2_digest_136 (by decide) (fun c4 => ?_) (fun c4 => absurd (nI_le (by omega) (by omega)) c4)
                  refine lv_lload_n hx hb dX2_digest_176 rfl (lv_at hl 1 rfl) ?_
                  refine W.widen (k := 980) (n := 6580) (by omega) (by omega) ?_
                  exact W.lret (v := dal) hx hb hr (fun t ht hW => ⟨⟨dal, (), rfl, by rw [digestM, hdl, hinl], by show va_P D vwCl _ t.heap; rw [ht]; exact hP⟩, hS.F ht⟩) hS.2.2 dX2_digest_177
                | succ kl ihl =>
                  intro il dal hikl hdl H locs hP hD hS ls hl
                  refine lv_iload_n hx hb dX2_digest_128 rfl (lv_at hl 2 rfl) ?_
                  refine lv_aload_n hx hb dX2_digest_129 rfl (lv_at hl 0 rfl) ?_
                  refine va_get (D := D) (ci := 2) (v := .ref q) (C := RX2) (T := TX2) (N := 5) hx hb hts inX2_digest_2 hown hK.1 hP 10 rfl rfl 3 (by decide) (hts (.fieldLink RX2 12 "ChalkSlateModel" "s" "LChalkSlateModel$State;") (by decide +kernel)) (fun _ h9 => h9) rfl dX2_digest_130 ?_
                  refine va_getN (D := D) (ci := 1) (v := .int (nI n)) (C := RX1) (T := TX1) (N := 15) hx hb hts inX2_digest_1 hown hK.1 hP 0 rfl rfl 0 (by decide) (va_Nw.use rfl hK.2.1) (fun _ h9 => h9) rfl dX2_digest_133 ?_
                  refine lv_icmp_ge (tgt := 176) hx hb dX2_digest_136 (by decide) (fun c5 => absurd c5 (nI_ge (by omega) (by omega))) (fun c5 => ?_)
                  refine lv_iconst (v := 0) hx hb dX2_digest_139 (by decide) ?_
                  refine lv_istore (lv' := [(4, .int 0), (0, .ref mo), (1, .long dal), (3, .int (nI il))]) hx hb dX2_digest_140 hl (by decide) rfl (fun ls hl => ?_)
                  have looplw : ∀ (klw ilw : Nat) (dbl : Int64), ilw + klw = 7 → dbl = foldD ((fun u w => lineTM M dr (nI u) (nI w)) il) ilw dal → ∀ (H : Heap) (locs : List Loc), va_P D vwCl (cSM q b cy M n dr an fi ba mo 0 nd fl q tq) H → va_D A (cSM q b cy M n dr an fi ba mo 0 nd fl q tq) → va_S A s.heap H locs → ∀ ls : Array Slot, lv_has ls 5 [(0, .ref mo), (1, .long dbl), (3, .int (nI il)), (4, .int (nI ilw))] → W p l e (headSpec wsX2_digest { frames := 5, cells := 980, slots := 6580, locals := 110 }).room s m ([.ref mo] : List Value).toArray below meth c H locs (40 + 5 * nd + 7 * il + ilw) (200 + 25 * nd + 49 * il + 7 * ilw) (MQ below (va_Ql (fun (r : Int64) (_ : Unit) => r = digestM M nd n dr fl) (fun _ t => va_P D vwCl (cSM q b cy M n dr an fi ba mo 0 nd fl q tq) t.heap) A) ([.ref mo] : List Value).toArray s 980 6580 A) (F0 m 142 ls []) := by
                    intro klw
                    induction klw with
                    | zero =>
                      intro ilw dbl hiklw hel H locs hP hD hS ls hl
                      have hinlw : ilw = 7 := by omega
                      refine lv_iload hx hb dX2_digest_142 (lv_at hl 3 rfl) ?_
                      refine lv_bipush (v := 7) hx hb dX2_digest_144 (by decide) ?_
                      refine lv_icmp_ge (tgt := 170) hx hb dX2_digest_146 (by decide) (fun c6 => ?_) (fun c6 => absurd (nI_le (a := 7) (by omega) (by omega)) c6)
                      refine lv_iinc (v := nI (il + 1)) (lv' := [(3, .int (nI (il + 1))), (0, .ref mo), (1, .long dbl), (4, .int (nI ilw))]) hx hb dX2_digest_170 hl (k := 2) rfl ((nI_succ il).symm) (by decide) rfl (fun ls hl => ?_)
                      refine lv_goto (tgt := 128) hx hb dX2_digest_173 (by decide) ?_
                      refine W.cs (cells' := (40 + 5 * nd + 7 * (il + 1))) (slots' := (200 + 25 * nd + 49 * (il + 1))) (by omega) (by omega) ?_
                      exact ihl (il + 1) dbl (by omega) (by rw [fold2, ← hdl, hel, hinlw]) H locs hP hD hS ls (lv_sub hl [1, 2, 0] rfl)
                    | succ klw ihlw =>
                      intro ilw dbl hiklw hel H locs hP hD hS ls hl
                      refine lv_iload hx hb dX2_digest_142 (lv_at hl 3 rfl) ?_
                      refine lv_bipush (v := 7) hx hb dX2_digest_144 (by decide) ?_
                      refine lv_icmp_ge (tgt := 170) hx hb dX2_digest_146 (by decide) (fun c7 => absurd c7 (nI_ge (b := 7) (by omega) (by omega))) (fun c7 => ?_)
                      refine lv_lload_n hx hb dX2_digest_149 rfl (lv_at hl 1 rfl) ?_
                      refine lv_ldc2 hx hb hown (hts (.constantLong RX2 153 (31)) (by decide +kernel)) dX2_digest_150 ?_
                      refine lv_lmul hx hb dX2_digest_153 ?_
                      refine lv_aload_n hx hb dX2_digest_154 rfl (lv_at hl 0 rfl) ?_
                      refine lv_iload_n hx hb dX2_digest_155 rfl (lv_at hl 2 rfl) ?_
                      refine lv_iload hx hb dX2_digest_156 (lv_at hl 3 rfl) ?_
                      refine wn_VI (q := (RX2, TX2, 5)) (ci := 2) (q0 := 10) (ws0' := cSM q b cy M n dr an fi ba mo 0 nd fl q tq) (As := [.int (nI il), .int (nI ilw)]) (rest := [.long (dbl * 31)]) ⟨hx, hb, hml, hown, hts⟩ (fun sz => mX2_lineTold l D cy q b M n dr an fi ba mo 0 nd fl tq (nI il) (nI ilw) (by omega) (by omega) (by omega) (vp_in_nI (by omega) (by omega)) (vp_in_nI (by omega) (by omega)) sz) (cwV 2 hts gX2_digest_X2_lineTold rfl rfl rfl (by decide +kernel) ⟨Nat.le_of_ble_eq_true rfl, Nat.le_of_ble_eq_true rfl⟩) hP hK hD hS hA [0, 1, 2, 3, 4, 5, 6, 7, 8, 9, 10] [] [0, 1, 2, 3, 4, 5, 6, 7, 8, 9, 10] rfl rfl rfl (by decide) rfl rfl rfl rfl rfl rfl rfl hl.1 rfl (Nat.le_of_ble_eq_true rfl) dX2_digest_158 (show _ ≤ 980 by omega) (show _ ≤ 6580 by omega) (fun H locs hP hD hS => ?_)
                      refine lv_i2l (v := (lineTM M dr (nI il) (nI ilw)).toInt64) hx hb dX2_digest_161 rfl ?_
                      refine lv_ladd hx hb dX2_digest_162 ?_
                      refine lv_lstore_n (lv' := [(1, .long ((dbl * 31) + ((lineTM M dr (nI il) (nI ilw)).toInt64))), (0, .ref mo), (3, .int (nI il)), (4, .int (nI ilw))]) hx hb dX2_digest_163 rfl hl (by decide) rfl (fun ls hl => ?_)
                      refine lv_iinc (v := nI (ilw + 1)) (lv' := [(4, .int (nI (ilw + 1))), (1, .long ((dbl * 31) + ((lineTM M dr (nI il) (nI ilw)).toInt64))), (0, .ref mo), (3, .int (nI il))]) hx hb dX2_digest_164 hl (k := 3) rfl ((nI_succ ilw).symm) (by decide) rfl (fun ls hl => ?_)
                      refine lv_goto (tgt := 142) hx hb dX2_digest_167 (by decide) ?_
                      refine W.cs (cells' := (40 + 5 * nd + 7 * il + (ilw + 1))) (slots' := (200 + 25 * nd + 49 * il + 7 * (ilw + 1))) (by omega) (by omega) ?_
                      exact ihlw (ilw + 1) ((dbl * 31) + ((lineTM M dr (nI il) (nI ilw)).toInt64)) (by omega) (by rw [foldD, ← hel]) H locs hP hD hS ls (lv_sub hl [2, 1, 3, 0] rfl)
                  refine W.cs (cells' := (40 + 5 * nd + 7 * il + 0)) (slots' := (200 + 25 * nd + 49 * il + 7 * 0)) (by omega) (by omega) ?_
                  exact looplw 7 0 dal (Nat.zero_add _) (rfl) H locs hP hD hS ls (lv_sub hl [1, 2, 3, 0] rfl)
              refine W.cs (cells' := (40 + 5 * nd + 7 * 0)) (slots' := (200 + 25 * nd + 49 * 0)) (by omega) (by omega) ?_
              exact loopl n 0 dad (Nat.zero_add _) (by rw [fold2, hdd, hind]) H locs hP hD hS ls (lv_sub hl [1, 2, 0] rfl)
            | succ kd ihd =>
              intro id dad hikd hdd H locs hP hD hS ls hl
              refine lv_iload_n hx hb dX2_digest_82 rfl (lv_at hl 2 rfl) ?_
              refine lv_aload_n hx hb dX2_digest_83 rfl (lv_at hl 0 rfl) ?_
              refine va_get (D := D) (ci := 2) (v := .int (nI nd)) (C := RX2) (T := TX2) (N := 5) hx hb hts inX2_digest_2 hown hK.1 hP 10 rfl rfl 1 (by decide) (hts (.fieldLink RX2 29 "ChalkSlateModel" "dishes" "I") (by decide +kernel)) (fun _ h9 => h9) rfl dX2_digest_84 ?_
              refine lv_icmp_ge (tgt := 126) hx hb dX2_digest_87 (by decide) (fun c8 => absurd c8 (nI_ge (by omega) (by omega))) (fun c8 => ?_)
              refine lv_iconst (v := 0) hx hb dX2_digest_90 (by decide) ?_
              refine lv_istore (lv' := [(4, .int 0), (0, .ref mo), (1, .long dad), (3, .int (nI id))]) hx hb dX2_digest_91 hl (by decide) rfl (fun ls hl => ?_)
              have loopdw : ∀ (kdw idw : Nat) (dbd : Int64), idw + kdw = 5 → dbd = foldD ((fun u w => dishTM M n (nI u) (nI w)) id) idw dad → ∀ (H : Heap) (locs : List Loc), va_P D vwCl (cSM q b cy M n dr an fi ba mo 0 nd fl q tq) H → va_D A (cSM q b cy M n dr an fi ba mo 0 nd fl q tq) → va_S A s.heap H locs → ∀ ls : Array Slot, lv_has ls 5 [(0, .ref mo), (1, .long dbd), (3, .int (nI id)), (4, .int (nI idw))] → W p l e (headSpec wsX2_digest { frames := 5, cells := 980, slots := 6580, locals := 110 }).room s m ([.ref mo] : List Value).toArray below meth c H locs (40 + 5 * id + idw) (200 + 25 * id + 5 * idw) (MQ below (va_Ql (fun (r : Int64) (_ : Unit) => r = digestM M nd n dr fl) (fun _ t => va_P D vwCl (cSM q b cy M n dr an fi ba mo 0 nd fl q tq) t.heap) A) ([.ref mo] : List Value).toArray s 980 6580 A) (F0 m 93 ls []) := by
                intro kdw
                induction kdw with
                | zero =>
                  intro idw dbd hikdw hed H locs hP hD hS ls hl
                  have hindw : idw = 5 := by omega
                  refine lv_iload hx hb dX2_digest_93 (lv_at hl 3 rfl) ?_
                  refine lv_iconst (v := 5) hx hb dX2_digest_95 (by decide) ?_
                  refine lv_icmp_ge (tgt := 120) hx hb dX2_digest_96 (by decide) (fun c9 => ?_) (fun c9 => absurd (nI_le (a := 5) (by omega) (by omega)) c9)
                  refine lv_iinc (v := nI (id + 1)) (lv' := [(3, .int (nI (id + 1))), (0, .ref mo), (1, .long dbd), (4, .int (nI idw))]) hx hb dX2_digest_120 hl (k := 2) rfl ((nI_succ id).symm) (by decide) rfl (fun ls hl => ?_)
                  refine lv_goto (tgt := 82) hx hb dX2_digest_123 (by decide) ?_
                  refine W.cs (cells' := (40 + 5 * (id + 1))) (slots' := (200 + 25 * (id + 1))) (by omega) (by omega) ?_
                  exact ihd (id + 1) dbd (by omega) (by rw [fold2, ← hdd, hed, hindw]) H locs hP hD hS ls (lv_sub hl [1, 2, 0] rfl)
                | succ kdw ihdw =>
                  intro idw dbd hikdw hed H locs hP hD hS ls hl
                  refine lv_iload hx hb dX2_digest_93 (lv_at hl 3 rfl) ?_
                  refine lv_iconst (v := 5) hx hb dX2_digest_95 (by decide) ?_
                  refine lv_icmp_ge (tgt := 120) hx hb dX2_digest_96 (by decide) (fun c10 => absurd c10 (nI_ge (b := 5) (by omega) (by omega))) (fun c10 => ?_)
                  refine lv_lload_n hx hb dX2_digest_99 rfl (lv_at hl 1 rfl) ?_
                  refine lv_ldc2 hx hb hown (hts (.constantLong RX2 153 (31)) (by decide +kernel)) dX2_digest_100 ?_
                  refine lv_lmul hx hb dX2_digest_103 ?_
                  refine lv_aload_n hx hb dX2_digest_104 rfl (lv_at hl 0 rfl) ?_
                  refine lv_iload_n hx hb dX2_digest_105 rfl (lv_at hl 2 rfl) ?_
                  refine lv_iload hx hb dX2_digest_106 (lv_at hl 3 rfl) ?_
                  refine wn_VI (q := (RX2, TX2, 5)) (ci := 2) (q0 := 10) (ws0' := cSM q b cy M n dr an fi ba mo 0 nd fl q tq) (As := [.int (nI id), .int (nI idw)]) (rest := [.long (dbd * 31)]) ⟨hx, hb, hml, hown, hts⟩ (fun sz => mX2_dishTold l D cy q b M n dr an fi ba mo 0 nd fl tq (nI id) (nI idw) (by omega) (by omega) (by omega) (vp_in_nI (by omega) (by omega)) sz) (cwV 2 hts gX2_digest_X2_dishTold rfl rfl rfl (by decide +kernel) ⟨Nat.le_of_ble_eq_true rfl, Nat.le_of_ble_eq_true rfl⟩) hP hK hD hS hA [0, 1, 2, 3, 4, 5, 6, 7, 8, 9, 10] [] [0, 1, 2, 3, 4, 5, 6, 7, 8, 9, 10] rfl rfl rfl (by decide) rfl rfl rfl rfl rfl rfl rfl hl.1 rfl (Nat.le_of_ble_eq_true rfl) dX2_digest_108 (show _ ≤ 980 by omega) (show _ ≤ 6580 by omega) (fun H locs hP hD hS => ?_)
                  refine lv_i2l (v := (dishTM M n (nI id) (nI idw)).toInt64) hx hb dX2_digest_111 rfl ?_
                  refine lv_ladd hx hb dX2_digest_112 ?_
                  refine lv_lstore_n (lv' := [(1, .long ((dbd * 31) + ((dishTM M n (nI id) (nI idw)).toInt64))), (0, .ref mo), (3, .int (nI id)), (4, .int (nI idw))]) hx hb dX2_digest_113 rfl hl (by decide) rfl (fun ls hl => ?_)
                  refine lv_iinc (v := nI (idw + 1)) (lv' := [(4, .int (nI (idw + 1))), (1, .long ((dbd * 31) + ((dishTM M n (nI id) (nI idw)).toInt64))), (0, .ref mo), (3, .int (nI id))]) hx hb dX2_digest_114 hl (k := 3) rfl ((nI_succ idw).symm) (by decide) rfl (fun ls hl => ?_)
                  refine lv_goto (tgt := 93) hx hb dX2_digest_117 (by decide) ?_
                  refine W.cs (cells' := (40 + 5 * id + (idw + 1))) (slots' := (200 + 25 * id + 5 * (idw + 1))) (by omega) (by omega) ?_
                  exact ihdw (idw + 1) ((dbd * 31) + ((dishTM M n (nI id) (nI idw)).toInt64)) (by omega) (by rw [foldD, ← hed]) H locs hP hD hS ls (lv_sub hl [2, 1, 3, 0] rfl)
              refine W.cs (cells' := (40 + 5 * id + 0)) (slots' := (200 + 25 * id + 5 * 0)) (by omega) (by omega) ?_
              exact loopdw 5 0 dad (Nat.zero_add _) (rfl) H locs hP hD hS ls (lv_sub hl [1, 2, 3, 0] rfl)
          refine W.cs (cells' := (40 + 5 * 0)) (slots' := (200 + 25 * 0)) (by omega) (by omega) ?_
          exact loopd nd 0 dap (Nat.zero_add _) (by rw [fold2, hdp, hinp]) H locs hP hD hS ls (lv_sub hl [1, 2, 0] rfl)
        | succ kp ihp =>
          intro ip dap hikp hdp H locs hP hD hS ls hl
          refine lv_iload_n hx hb dX2_digest_38 rfl (lv_at hl 2 rfl) ?_
          refine lv_bipush (v := 8) hx hb dX2_digest_39 (by decide) ?_
          refine lv_icmp_ge (tgt := 80) hx hb dX2_digest_41 (by decide) (fun c11 => absurd c11 (nI_ge (b := 8) (by omega) (by omega))) (fun c11 => ?_)
          refine lv_iconst (v := 0) hx hb dX2_digest_44 (by decide) ?_
          refine lv_istore (lv' := [(4, .int 0), (0, .ref mo), (1, .long dap), (3, .int (nI ip))]) hx hb dX2_digest_45 hl (by decide) rfl (fun ls hl => ?_)
          have looppw : ∀ (kpw ipw : Nat) (dbp : Int64), ipw + kpw = 5 → dbp = foldD ((fun u w => potTM M n nd (nI u) (nI w)) ip) ipw dap → ∀ (H : Heap) (locs : List Loc), va_P D vwCl (cSM q b cy M n dr an fi ba mo 0 nd fl q tq) H → va_D A (cSM q b cy M n dr an fi ba mo 0 nd fl q tq) → va_S A s.heap H locs → ∀ ls : Array Slot, lv_has ls 5 [(0, .ref mo), (1, .long dbp), (3, .int (nI ip)), (4, .int (nI ipw))] → W p l e (headSpec wsX2_digest { frames := 5, cells := 980, slots := 6580, locals := 110 }).room s m ([.ref mo] : List Value).toArray below meth c H locs (5 * ip + ipw) (25 * ip + 5 * ipw) (MQ below (va_Ql (fun (r : Int64) (_ : Unit) => r = digestM M nd n dr fl) (fun _ t => va_P D vwCl (cSM q b cy M n dr an fi ba mo 0 nd fl q tq) t.heap) A) ([.ref mo] : List Value).toArray s 980 6580 A) (F0 m 47 ls []) := by
            intro kpw
            induction kpw with
            | zero =>
              intro ipw dbp hikpw hep H locs hP hD hS ls hl
              have hinpw : ipw = 5 := by omega
              refine lv_iload hx hb dX2_digest_47 (lv_at hl 3 rfl) ?_
              refine lv_iconst (v := 5) hx hb dX2_digest_49 (by decide) ?_
              refine lv_icmp_ge (tgt := 74) hx hb dX2_digest_50 (by decide) (fun c12 => ?_) (fun c12 => absurd (nI_le (a := 5) (by omega) (by omega)) c12)
              refine lv_iinc (v := nI (ip + 1)) (lv' := [(3, .int (nI (ip + 1))), (0, .ref mo), (1, .long dbp), (4, .int (nI ipw))]) hx hb dX2_digest_74 hl (k := 2) rfl ((nI_succ ip).symm) (by decide) rfl (fun ls hl => ?_)
              refine lv_goto (tgt := 38) hx hb dX2_digest_77 (by decide) ?_
              refine W.cs (cells' := (5 * (ip + 1))) (slots' := (25 * (ip + 1))) (by omega) (by omega) ?_
              exact ihp (ip + 1) dbp (by omega) (by rw [fold2, ← hdp, hep, hinpw]) H locs hP hD hS ls (lv_sub hl [1, 2, 0] rfl)
            | succ kpw ihpw =>
              intro ipw dbp hikpw hep H locs hP hD hS ls hl
              refine lv_iload hx hb dX2_digest_47 (lv_at hl 3 rfl) ?_
              refine lv_iconst (v := 5) hx hb dX2_digest_49 (by decide) ?_
              refine lv_icmp_ge (tgt := 74) hx hb dX2_digest_50 (by decide) (fun c13 => absurd c13 (nI_ge (b := 5) (by omega) (by omega))) (fun c13 => ?_)
              refine lv_lload_n hx hb dX2_digest_53 rfl (lv_at hl 1 rfl) ?_
              refine lv_ldc2 hx hb hown (hts (.constantLong RX2 153 (31)) (by decide +kernel)) dX2_digest_54 ?_
              refine lv_lmul hx hb dX2_digest_57 ?_
              refine lv_aload_n hx hb dX2_digest_58 rfl (lv_at hl 0 rfl) ?_
              refine lv_iload_n hx hb dX2_digest_59 rfl (lv_at hl 2 rfl) ?_
              refine lv_iload hx hb dX2_digest_60 (lv_at hl 3 rfl) ?_
              refine wn_VI (q := (RX2, TX2, 5)) (ci := 2) (q0 := 10) (ws0' := cSM q b cy M n dr an fi ba mo 0 nd fl q tq) (As := [.int (nI ip), .int (nI ipw)]) (rest := [.long (dbp * 31)]) ⟨hx, hb, hml, hown, hts⟩ (fun sz => mX2_potTold l D cy q b M n dr an fi ba mo 0 nd fl tq (nI ip) (nI ipw) (by omega) (by omega) (by omega) (vp_in_nI (by omega) (by omega)) (vp_in_nI (by omega) (by omega)) sz) (cwV 2 hts gX2_digest_X2_potTold rfl rfl rfl (by decide +kernel) ⟨Nat.le_of_ble_eq_true rfl, Nat.le_of_ble_eq_true rfl⟩) hP hK hD hS hA [0, 1, 2, 3, 4, 5, 6, 7, 8, 9, 10] [] [0, 1, 2, 3, 4, 5, 6, 7, 8, 9, 10] rfl rfl rfl (by decide) rfl rfl rfl rfl rfl rfl rfl hl.1 rfl (Nat.le_of_ble_eq_true rfl) dX2_digest_62 (show _ ≤ 980 by omega) (show _ ≤ 6580 by omega) (fun H locs hP hD hS => ?_)
              refine lv_i2l (v := (potTM M n nd (nI ip) (nI ipw)).toInt64) hx hb dX2_digest_65 rfl ?_
              refine lv_ladd hx hb dX2_digest_66 ?_
              refine lv_lstore_n (lv' := [(1, .long ((dbp * 31) + ((potTM M n nd (nI ip) (nI ipw)).toInt64))), (0, .ref mo), (3, .int (nI ip)), (4, .int (nI ipw))]) hx hb dX2_digest_67 rfl hl (by decide) rfl (fun ls hl => ?_)
              refine lv_iinc (v := nI (ipw + 1)) (lv' := [(4, .int (nI (ipw + 1))), (1, .long ((dbp * 31) + ((potTM M n nd (nI ip) (nI ipw)).toInt64))), (0, .ref mo), (3, .int (nI ip))]) hx hb dX2_digest_68 hl (k := 3) rfl ((nI_succ ipw).symm) (by decide) rfl (fun ls hl => ?_)
              refine lv_goto (tgt := 47) hx hb dX2_digest_71 (by decide) ?_
              refine W.cs (cells' := (5 * ip + (ipw + 1))) (slots' := (25 * ip + 5 * (ipw + 1))) (by omega) (by omega) ?_
              exact ihpw (ipw + 1) ((dbp * 31) + ((potTM M n nd (nI ip) (nI ipw)).toInt64)) (by omega) (by rw [foldD, ← hep]) H locs hP hD hS ls (lv_sub hl [2, 1, 3, 0] rfl)
          refine W.cs (cells' := (5 * ip + 0)) (slots' := (25 * ip + 5 * 0)) (by omega) (by omega) ?_
          exact looppw 5 0 dap (Nat.zero_add _) (rfl) H locs hP hD hS ls (lv_sub hl [1, 2, 3, 0] rfl)
      refine W.cs (cells' := (5 * 0)) (slots' := (25 * 0)) (by omega) (by omega) ?_
      exact loopp 8 0 dac (Nat.zero_add _) (by rw [fold2, hdc, hinc]) H locs hP hD hS ls (lv_sub hl [1, 2, 0] rfl)
    | succ kc ihc =>
      intro ic dac hikc hdc H locs hP hD hS ls hl
      refine lv_iload_n hx hb dX2_digest_11 rfl (lv_at hl 2 rfl) ?_
      refine lv_bipush (v := 11) hx hb dX2_digest_12 (by decide) ?_
      refine lv_icmp_ge (tgt := 36) hx hb dX2_digest_14 (by decide) (fun c14 => absurd c14 (nI_ge (b := 11) (by omega) (by omega))) (fun c14 => ?_)
      refine lv_lload_n hx hb dX2_digest_17 rfl (lv_at hl 1 rfl) ?_
      refine lv_ldc2 hx hb hown (hts (.constantLong RX2 153 (31)) (by decide +kernel)) dX2_digest_18 ?_
      refine lv_lmul hx hb dX2_digest_21 ?_
      refine lv_aload_n hx hb dX2_digest_22 rfl (lv_at hl 0 rfl) ?_
      refine lv_iload_n hx hb dX2_digest_23 rfl (lv_at hl 2 rfl) ?_
      refine rd_V (q := (RX2, TX2, 5)) (ci := 2) (q0 := 10) (As := [.int (nI ic)]) (rest := [.long (dac * 31)]) ⟨hx, hb, hml, hown, hts⟩ (mX2_counted l D cy q b M n dr an fi ba mo 0 nd fl tq (nI ic) (by omega) (by omega) (by omega) ) (cwV 1 hts gX2_digest_X2_counted rfl rfl rfl (by decide +kernel) ⟨Nat.le_of_ble_eq_true rfl, Nat.le_of_ble_eq_true rfl⟩) hP hK rfl rfl rfl hl.1 rfl (Nat.le_of_ble_eq_true rfl) dX2_digest_24 (show _ ≤ 980 by omega) (show _ ≤ 6580 by omega) ?_
      refine lv_i2l (v := (countedM M nd n dr fl (nI ic)).toInt64) hx hb dX2_digest_27 rfl ?_
      refine lv_ladd hx hb dX2_digest_28 ?_
      refine lv_lstore_n (lv' := [(1, .long ((dac * 31) + ((countedM M nd n dr fl (nI ic)).toInt64))), (0, .ref mo), (3, .int (nI ic))]) hx hb dX2_digest_29 rfl hl (by decide) rfl (fun ls hl => ?_)
      refine lv_iinc (v := nI (ic + 1)) (lv' := [(3, .int (nI (ic + 1))), (1, .long ((dac * 31) + ((countedM M nd n dr fl (nI ic)).toInt64))), (0, .ref mo)]) hx hb dX2_digest_30 hl (k := 2) rfl ((nI_succ ic).symm) (by decide) rfl (fun ls hl => ?_)
      refine lv_goto (tgt := 11) hx hb dX2_digest_33 (by decide) ?_
      exact ihc (ic + 1) ((dac * 31) + ((countedM M nd n dr fl (nI ic)).toInt64)) (by omega) (by rw [foldD, ← hdc]) H locs hP hD hS ls (lv_sub hl [2, 1, 0] rfl)
  exact loopc 11 0 1291 (Nat.zero_add _) (rfl) H locs hP hD hS ls (lv_sub hl [2, 1, 0] rfl)
