set_option maxRecDepth 100000 in
theorem inX0_digest_0 : ∀ w ∈ wsX00, w ∈ wsX0_digest := by decide +kernel

set_option maxHeartbeats 4000000 in
set_option maxRecDepth 100000 in
theorem mX0_digest (l : Launch) (D : va_G) (cy : ClassId) (h : Nat) (a : Nat → Nat) (R : Nat → Nat → Int32) (nd n dr : Nat) (fl : Int32)  (hnd : nd < 1000000) (hn : n < 1000000) (hdr : dr < 1000000) : RdL l yX0_digest wsX0_digest 6 132 [.ref h] D cy (cC h a cy R nd n dr fl) (digestS R nd n dr fl) := by
  refine Met.ofW (cc := cX0_digest) (maxL := 5) (ret := (some .long)) (by decide) rfl ?_
  intro p e s m args below meth c s₁ B hml hv
  obtain ⟨rfl, hP, hK⟩ := hv
  have hx := B.exec
  have hb := B.bytes
  have hr := B.returns
  have hts := atoms_spec (ws := wsX0_digest) B.pre
  have hown : s.vm.findClass RX0 = some m.cls := findClass_of_methodNamed B.named
  have hlocks := B.notSynchronized
  have hl := lv_entry ([.ref h]) (n := 5) (Nat.le_of_ble_eq_true rfl)
  rw [lg_entry_eq]
  generalize (lg_sl ([.ref h]) ++ List.replicate (5 - (lg_sl ([.ref h])).length) Slot.unset).toArray = ls at hl ⊢
  have hl : lv_has ls 5 [(0, .ref h)] := hl
  refine lv_ldc2 hx hb hown (hts (.constantLong RX0 197 (1291)) (by decide +kernel)) dX0_digest_0 ?_
  refine lv_lstore_n (lv' := [(1, .long 1291), (0, .ref h)]) hx hb dX0_digest_3 rfl hl (by decide) rfl (fun ls hl => ?_)
  refine lv_iconst (v := 0) hx hb dX0_digest_4 (by decide) ?_
  refine lv_istore_n (lv' := [(3, .int 0), (1, .long 1291), (0, .ref h)]) hx hb dX0_digest_5 rfl hl (by decide) rfl (fun ls hl => ?_)
  have loopc : ∀ (kc ic : Nat) (dac : Int64), ic + kc = 11 → dac = foldD (fun w => countAnsS R nd n dr fl (nI w)) ic 1291 → ∀ ls : Array Slot, lv_has ls 5 [(0, .ref h), (1, .long dac), (3, .int (nI ic))] → W p l e (headSpec wsX0_digest { frames := 6, cells := 0, slots := 0, locals := 132 }).room s m ([.ref h] : List Value).toArray below meth c s.heap [] 0 0 (MQ below (vp_Sl (fun r => r = digestS R nd n dr fl)) ([.ref h] : List Value).toArray s 0 0 (fun _ => False)) (F0 m 6 ls []) := by
    intro kc
    induction kc with
    | zero =>
      intro ic dac hikc hdc ls hl
      have hinc : ic = 11 := by omega
      refine lv_iload_n hx hb dX0_digest_6 rfl (lv_at hl 2 rfl) ?_
      refine lv_bipush (v := 11) hx hb dX0_digest_7 (by decide) ?_
      refine lv_icmp_ge (tgt := 31) hx hb dX0_digest_9 (by decide) (fun c1 => ?_) (fun c1 => absurd (nI_le (a := 11) (by omega) (by omega)) c1)
      refine lv_iconst (v := 0) hx hb dX0_digest_31 (by decide) ?_
      refine lv_istore_n (lv' := [(3, .int 0), (0, .ref h), (1, .long dac)]) hx hb dX0_digest_32 rfl hl (by decide) rfl (fun ls hl => ?_)
      have loopp : ∀ (kp ip : Nat) (dap : Int64), ip + kp = 8 → dap = fold2 (fun u w => potAnsS R n (nI u) (nI w)) 5 ip (foldD (fun w => countAnsS R nd n dr fl (nI w)) 11 1291) → ∀ ls : Array Slot, lv_has ls 5 [(0, .ref h), (1, .long dap), (3, .int (nI ip))] → W p l e (headSpec wsX0_digest { frames := 6, cells := 0, slots := 0, locals := 132 }).room s m ([.ref h] : List Value).toArray below meth c s.heap [] 0 0 (MQ below (vp_Sl (fun r => r = digestS R nd n dr fl)) ([.ref h] : List Value).toArray s 0 0 (fun _ => False)) (F0 m 33 ls []) := by
        intro kp
        induction kp with
        | zero =>
          intro ip dap hikp hdp ls hl
          have hinp : ip = 8 := by omega
          refine lv_iload_n hx hb dX0_digest_33 rfl (lv_at hl 2 rfl) ?_
          refine lv_bipush (v := 8) hx hb dX0_digest_34 (by decide) ?_
          refine lv_icmp_ge (tgt := 75) hx hb dX0_digest_36 (by decide) (fun c2 => ?_) (fun c2 => absurd (nI_le (a := 8) (by omega) (by omega)) c2)
          refine lv_iconst (v := 0) hx hb dX0_digest_75 (by decide) ?_
          refine lv_istore_n (lv' := [(3, .int 0), (0, .ref h), (1, .long dap)]) hx hb dX0_digest_76 rfl hl (by decide) rfl (fun ls hl => ?_)
          have loopd : ∀ (kd id : Nat) (dad : Int64), id + kd = nd → dad = fold2 (fun u w => dishAnsS R n (nI u) (nI w)) 5 id (fold2 (fun u w => potAnsS R n (nI u) (nI w)) 5 8 (foldD (fun w => countAnsS R nd n dr fl (nI w)) 11 1291)) → ∀ ls : Array Slot, lv_has ls 5 [(0, .ref h), (1, .long dad), (3, .int (nI id))] → W p l e (headSpec wsX0_digest { frames := 6, cells := 0, slots := 0, locals := 132 }).room s m ([.ref h] : List Value).toArray below meth c s.heap [] 0 0 (MQ below (vp_Sl (fun r => r = digestS R nd n dr fl)) ([.ref h] : List Value).toArray s 0 0 (fun _ => False)) (F0 m 77 ls []) := by
            intro kd
            induction kd with
            | zero =>
              intro id dad hikd hdd ls hl
              have hind : id = nd := by omega
              refine lv_iload_n hx hb dX0_digest_77 rfl (lv_at hl 2 rfl) ?_
              refine lv_aload_n hx hb dX0_digest_78 rfl (lv_at hl 0 rfl) ?_
              refine va_get (D := D) (ci := 0) (v := .int (nI nd)) (C := RX0) (T := TX0) (N := 15) hx hb hts inX0_digest_0 hown hK.1 hP 0 rfl rfl 4 (by decide) (hts (.fieldLink RX0 49 "ChalkSlate" "dishes" "I") (by decide +kernel)) (fun _ h9 => h9) rfl dX0_digest_79 ?_
              refine lv_icmp_ge (tgt := 121) hx hb dX0_digest_82 (by decide) (fun c3 => ?_) (fun c3 => absurd (nI_le (by omega) (by omega)) c3)
              refine lv_iconst (v := 0) hx hb dX0_digest_121 (by decide) ?_
              refine lv_istore_n (lv' := [(3, .int 0), (0, .ref h), (1, .long dad)]) hx hb dX0_digest_122 rfl hl (by decide) rfl (fun ls hl => ?_)
              have loopl : ∀ (kl il : Nat) (dal : Int64), il + kl = n → dal = fold2 (fun u w => lineAnsS R dr (nI u) (nI w)) 7 il (fold2 (fun u w => dishAnsS R n (nI u) (nI w)) 5 nd (fold2 (fun u w => potAnsS R n (nI u) (nI w)) 5 8 (foldD (fun w => countAnsS R nd n dr fl (nI w)) 11 1291))) → ∀ ls : Array Slot, lv_has ls 5 [(0, .ref h), (1, .long dal), (3, .int (nI il))] → W p l e (headSpec wsX0_digest { frames := 6, cells := 0, slots := 0, locals := 132 }).room s m ([.ref h] : List Value).toArray below meth c s.heap [] 0 0 (MQ below (vp_Sl (fun r => r = digestS R nd n dr fl)) ([.ref h] : List Value).toArray s 0 0 (fun _ => False)) (F0 m 123 ls []) := by
                intro kl
                induction kl with
                | zero =>
                  intro il dal hikl hdl ls hl
                  have hinl : il = n := by omega
                  refine lv_iload_n hx hb dX0_digest_123 rfl (lv_at hl 2 rfl) ?_
                  refine lv_aload_n hx hb dX0_digest_124 rfl (lv_at hl 0 rfl) ?_
                  refine va_get (D := D) (ci := 0) (v := .int (nI n)) (C := RX0) (T := TX0) (N := 15) hx hb hts inX0_digest_0 hown hK.1 hP 0 rfl rfl 12 (by decide) (hts (.fieldLink RX0 112 "ChalkSlate" "lines" "I") (by decide +kernel)) (fun _ h9 => h9) rfl dX0_digest_125 ?_
                  refine lv_icmp_ge (tgt := 168) hx hb dX0_digest_128 (by decide) (fun c4 => ?_) (fun c4 => absurd (nI_le (by omega) (by omega)) c4)
                  refine lv_lload_n hx hb dX0_digest_168 rfl (lv_at hl 1 rfl) ?_
                  exact W.lret (v := dal) hx hb hr (fun t ht hW => ⟨dal, rfl, by rw [digestS, hdl, hinl], ht⟩) (fun q hq => absurd hq List.not_mem_nil) dX0_digest_169
                | succ kl ihl =>
                  intro il dal hikl hdl ls hl
                  refine lv_iload_n hx hb dX0_digest_123 rfl (lv_at hl 2 rfl) ?_
                  refine lv_aload_n hx hb dX0_digest_124 rfl (lv_at hl 0 rfl) ?_
                  refine va_get (D := D) (ci := 0) (v := .int (nI n)) (C := RX0) (T := TX0) (N := 15) hx hb hts inX0_digest_0 hown hK.1 hP 0 rfl rfl 12 (by decide) (hts (.fieldLink RX0 112 "ChalkSlate" "lines" "I") (by decide +kernel)) (fun _ h9 => h9) rfl dX0_digest_125 ?_
                  refine lv_icmp_ge (tgt := 168) hx hb dX0_digest_128 (by decide) (fun c5 => absurd c5 (nI_ge (by omega) (by omega))) (fun c5 => ?_)
                  refine lv_iconst (v := 0) hx hb dX0_digest_131 (by decide) ?_
                  refine lv_istore (lv' := [(4, .int 0), (0, .ref h), (1, .long dal), (3, .int (nI il))]) hx hb dX0_digest_132 hl (by decide) rfl (fun ls hl => ?_)
                  have looplw : ∀ (klw ilw : Nat) (dbl : Int64), ilw + klw = 7 → dbl = foldD ((fun u w => lineAnsS R dr (nI u) (nI w)) il) ilw dal → ∀ ls : Array Slot, lv_has ls 5 [(0, .ref h), (1, .long dbl), (3, .int (nI il)), (4, .int (nI ilw))] → W p l e (headSpec wsX0_digest { frames := 6, cells := 0, slots := 0, locals := 132 }).room s m ([.ref h] : List Value).toArray below meth c s.heap [] 0 0 (MQ below (vp_Sl (fun r => r = digestS R nd n dr fl)) ([.ref h] : List Value).toArray s 0 0 (fun _ => False)) (F0 m 134 ls []) := by
                    intro klw
                    induction klw with
                    | zero =>
                      intro ilw dbl hiklw hel ls hl
                      have hinlw : ilw = 7 := by omega
                      refine lv_iload hx hb dX0_digest_134 (lv_at hl 3 rfl) ?_
                      refine lv_bipush (v := 7) hx hb dX0_digest_136 (by decide) ?_
                      refine lv_icmp_ge (tgt := 162) hx hb dX0_digest_138 (by decide) (fun c6 => ?_) (fun c6 => absurd (nI_le (a := 7) (by omega) (by omega)) c6)
                      refine lv_iinc (v := nI (il + 1)) (lv' := [(3, .int (nI (il + 1))), (0, .ref h), (1, .long dbl), (4, .int (nI ilw))]) hx hb dX0_digest_162 hl (k := 2) rfl ((nI_succ il).symm) (by decide) rfl (fun ls hl => ?_)
                      refine lv_goto (tgt := 123) hx hb dX0_digest_165 (by decide) ?_
                      exact ihl (il + 1) dbl (by omega) (by rw [fold2, ← hdl, hel, hinlw]) ls (lv_sub hl [1, 2, 0] rfl)
                    | succ klw ihlw =>
                      intro ilw dbl hiklw hel ls hl
                      refine lv_iload hx hb dX0_digest_134 (lv_at hl 3 rfl) ?_
                      refine lv_bipush (v := 7) hx hb dX0_digest_136 (by decide) ?_
                      refine lv_icmp_ge (tgt := 162) hx hb dX0_digest_138 (by decide) (fun c7 => absurd c7 (nI_ge (b := 7) (by omega) (by omega))) (fun c7 => ?_)
                      refine lv_lload_n hx hb dX0_digest_141 rfl (lv_at hl 1 rfl) ?_
                      refine lv_ldc2 hx hb hown (hts (.constantLong RX0 199 (31)) (by decide +kernel)) dX0_digest_142 ?_
                      refine lv_lmul hx hb dX0_digest_145 ?_
                      refine lv_aload_n hx hb dX0_digest_146 rfl (lv_at hl 0 rfl) ?_
                      refine lv_iload_n hx hb dX0_digest_147 rfl (lv_at hl 2 rfl) ?_
                      refine lv_iload hx hb dX0_digest_148 (lv_at hl 3 rfl) ?_
                      refine rd_V (q := (RX0, TX0, 15)) (ci := 0) (q0 := 0) (As := [.int (nI il), .int (nI ilw)]) (rest := [.long (dbl * 31)]) ⟨hx, hb, hml, hown, hts⟩ (mX0_lineAnswer l D cy h a R nd n dr fl (nI il) (nI ilw) (by omega) (by omega) (by omega) ) (cwV 2 hts gX0_digest_X0_lineAnswer rfl rfl rfl (by decide +kernel) ⟨Nat.le_of_ble_eq_true rfl, Nat.le_of_ble_eq_true rfl⟩) hP hK rfl rfl rfl hl.1 rfl (Nat.le_of_ble_eq_true rfl) dX0_digest_150 (Nat.zero_le _) (Nat.zero_le _) ?_
                      refine lv_i2l (v := (lineAnsS R dr (nI il) (nI ilw)).toInt64) hx hb dX0_digest_153 rfl ?_
                      refine lv_ladd hx hb dX0_digest_154 ?_
                      refine lv_lstore_n (lv' := [(1, .long ((dbl * 31) + ((lineAnsS R dr (nI il) (nI ilw)).toInt64))), (0, .ref h), (3, .int (nI il)), (4, .int (nI ilw))]) hx hb dX0_digest_155 rfl hl (by decide) rfl (fun ls hl => ?_)
                      refine lv_iinc (v := nI (ilw + 1)) (lv' := [(4, .int (nI (ilw + 1))), (1, .long ((dbl * 31) + ((lineAnsS R dr (nI il) (nI ilw)).toInt64))), (0, .ref h), (3, .int (nI il))]) hx hb dX0_digest_156 hl (k := 3) rfl ((nI_succ ilw).symm) (by decide) rfl (fun ls hl => ?_)
                      refine lv_goto (tgt := 134) hx hb dX0_digest_159 (by decide) ?_
                      exact ihlw (ilw + 1) ((dbl * 31) + ((lineAnsS R dr (nI il) (nI ilw)).toInt64)) (by omega) (by rw [foldD, ← hel]) ls (lv_sub hl [2, 1, 3, 0] rfl)
                  exact looplw 7 0 dal (Nat.zero_add _) (rfl) ls (lv_sub hl [1, 2, 3, 0] rfl)
              exact loopl n 0 dad (Nat.zero_add _) (by rw [fold2, hdd, hind]) ls (lv_sub hl [1, 2, 0] rfl)
            | succ kd ihd =>
              intro id dad hikd hdd ls hl
              refine lv_iload_n hx hb dX0_digest_77 rfl (lv_at hl 2 rfl) ?_
              refine lv_aload_n hx hb dX0_digest_78 rfl (lv_at hl 0 rfl) ?_
              refine va_get (D := D) (ci := 0) (v := .int (nI nd)) (C := RX0) (T := TX0) (N := 15) hx hb hts inX0_digest_0 hown hK.1 hP 0 rfl rfl 4 (by decide) (hts (.fieldLink RX0 49 "ChalkSlate" "dishes" "I") (by decide +kernel)) (fun _ h9 => h9) rfl dX0_digest_79 ?_
              refine lv_icmp_ge (tgt := 121) hx hb dX0_digest_82 (by decide) (fun c8 => absurd c8 (nI_ge (by omega) (by omega))) (fun c8 => ?_)
              refine lv_iconst (v := 0) hx hb dX0_digest_85 (by decide) ?_
              refine lv_istore (lv' := [(4, .int 0), (0, .ref h), (1, .long dad), (3, .int (nI id))]) hx hb dX0_digest_86 hl (by decide) rfl (fun ls hl => ?_)
              have loopdw : ∀ (kdw idw : Nat) (dbd : Int64), idw + kdw = 5 → dbd = foldD ((fun u w => dishAnsS R n (nI u) (nI w)) id) idw dad → ∀ ls : Array Slot, lv_has ls 5 [(0, .ref h), (1, .long dbd), (3, .int (nI id)), (4, .int (nI idw))] → W p l e (headSpec wsX0_digest { frames := 6, cells := 0, slots := 0, locals := 132 }).room s m ([.ref h] : List Value).toArray below meth c s.heap [] 0 0 (MQ below (vp_Sl (fun r => r = digestS R nd n dr fl)) ([.ref h] : List Value).toArray s 0 0 (fun _ => False)) (F0 m 88 ls []) := by
                intro kdw
                induction kdw with
                | zero =>
                  intro idw dbd hikdw hed ls hl
                  have hindw : idw = 5 := by omega
                  refine lv_iload hx hb dX0_digest_88 (lv_at hl 3 rfl) ?_
                  refine lv_iconst (v := 5) hx hb dX0_digest_90 (by decide) ?_
                  refine lv_icmp_ge (tgt := 115) hx hb dX0_digest_91 (by decide) (fun c9 => ?_) (fun c9 => absurd (nI_le (a := 5) (by omega) (by omega)) c9)
                  refine lv_iinc (v := nI (id + 1)) (lv' := [(3, .int (nI (id + 1))), (0, .ref h), (1, .long dbd), (4, .int (nI idw))]) hx hb dX0_digest_115 hl (k := 2) rfl ((nI_succ id).symm) (by decide) rfl (fun ls hl => ?_)
                  refine lv_goto (tgt := 77) hx hb dX0_digest_118 (by decide) ?_
                  exact ihd (id + 1) dbd (by omega) (by rw [fold2, ← hdd, hed, hindw]) ls (lv_sub hl [1, 2, 0] rfl)
                | succ kdw ihdw =>
                  intro idw dbd hikdw hed ls hl
                  refine lv_iload hx hb dX0_digest_88 (lv_at hl 3 rfl) ?_
                  refine lv_iconst (v := 5) hx hb dX0_digest_90 (by decide) ?_
                  refine lv_icmp_ge (tgt := 115) hx hb dX0_digest_91 (by decide) (fun c10 => absurd c10 (nI_ge (b := 5) (by omega) (by omega))) (fun c10 => ?_)
                  refine lv_lload_n hx hb dX0_digest_94 rfl (lv_at hl 1 rfl) ?_
                  refine lv_ldc2 hx hb hown (hts (.constantLong RX0 199 (31)) (by decide +kernel)) dX0_digest_95 ?_
                  refine lv_lmul hx hb dX0_digest_98 ?_
                  refine lv_aload_n hx hb dX0_digest_99 rfl (lv_at hl 0 rfl) ?_
                  refine lv_iload_n hx hb dX0_digest_100 rfl (lv_at hl 2 rfl) ?_
                  refine lv_iload hx hb dX0_digest_101 (lv_at hl 3 rfl) ?_
                  refine rd_V (q := (RX0, TX0, 15)) (ci := 0) (q0 := 0) (As := [.int (nI id), .int (nI idw)]) (rest := [.long (dbd * 31)]) ⟨hx, hb, hml, hown, hts⟩ (mX0_dishAnswer l D cy h a R nd n dr fl (nI id) (nI idw) (by omega) (by omega) (by omega) ) (cwV 2 hts gX0_digest_X0_dishAnswer rfl rfl rfl (by decide +kernel) ⟨Nat.le_of_ble_eq_true rfl, Nat.le_of_ble_eq_true rfl⟩) hP hK rfl rfl rfl hl.1 rfl (Nat.le_of_ble_eq_true rfl) dX0_digest_103 (Nat.zero_le _) (Nat.zero_le _) ?_
                  refine lv_i2l (v := (dishAnsS R n (nI id) (nI idw)).toInt64) hx hb dX0_digest_106 rfl ?_
                  refine lv_ladd hx hb dX0_digest_107 ?_
                  refine lv_lstore_n (lv' := [(1, .long ((dbd * 31) + ((dishAnsS R n (nI id) (nI idw)).toInt64))), (0, .ref h), (3, .int (nI id)), (4, .int (nI idw))]) hx hb dX0_digest_108 rfl hl (by decide) rfl (fun ls hl => ?_)
                  refine lv_iinc (v := nI (idw + 1)) (lv' := [(4, .int (nI (idw + 1))), (1, .long ((dbd * 31) + ((dishAnsS R n (nI id) (nI idw)).toInt64))), (0, .ref h), (3, .int (nI id))]) hx hb dX0_digest_109 hl (k := 3) rfl ((nI_succ idw).symm) (by decide) rfl (fun ls hl => ?_)
                  refine lv_goto (tgt := 88) hx hb dX0_digest_112 (by decide) ?_
                  exact ihdw (idw + 1) ((dbd * 31) + ((dishAnsS R n (nI id) (nI idw)).toInt64)) (by omega) (by rw [foldD, ← hed]) ls (lv_sub hl [2, 1, 3, 0] rfl)
              exact loopdw 5 0 dad (Nat.zero_add _) (rfl) ls (lv_sub hl [1, 2, 3, 0] rfl)
          exact loopd nd 0 dap (Nat.zero_add _) (by rw [fold2, hdp, hinp]) ls (lv_sub hl [1, 2, 0] rfl)
        | succ kp ihp =>
          intro ip dap hikp hdp ls hl
          refine lv_iload_n hx hb dX0_digest_33 rfl (lv_at hl 2 rfl) ?_
          refine lv_bipush (v := 8) hx hb dX0_digest_34 (by decide) ?_
          refine lv_icmp_ge (tgt := 75) hx hb dX0_digest_36 (by decide) (fun c11 => absurd c11 (nI_ge (b := 8) (by omega) (by omega))) (fun c11 => ?_)
          refine lv_iconst (v := 0) hx hb dX0_digest_39 (by decide) ?_
          refine lv_istore (lv' := [(4, .int 0), (0, .ref h), (1, .long dap), (3, .int (nI ip))]) hx hb dX0_digest_40 hl (by decide) rfl (fun ls hl => ?_)
          have looppw : ∀ (kpw ipw : Nat) (dbp : Int64), ipw + kpw = 5 → dbp = foldD ((fun u w => potAnsS R n (nI u) (nI w)) ip) ipw dap → ∀ ls : Array Slot, lv_has ls 5 [(0, .ref h), (1, .long dbp), (3, .int (nI ip)), (4, .int (nI ipw))] → W p l e (headSpec wsX0_digest { frames := 6, cells := 0, slots := 0, locals := 132 }).room s m ([.ref h] : List Value).toArray below meth c s.heap [] 0 0 (MQ below (vp_Sl (fun r => r = digestS R nd n dr fl)) ([.ref h] : List Value).toArray s 0 0 (fun _ => False)) (F0 m 42 ls []) := by
            intro kpw
            induction kpw with
            | zero =>
              intro ipw dbp hikpw hep ls hl
              have hinpw : ipw = 5 := by omega
              refine lv_iload hx hb dX0_digest_42 (lv_at hl 3 rfl) ?_
              refine lv_iconst (v := 5) hx hb dX0_digest_44 (by decide) ?_
              refine lv_icmp_ge (tgt := 69) hx hb dX0_digest_45 (by decide) (fun c12 => ?_) (fun c12 => absurd (nI_le (a := 5) (by omega) (by omega)) c12)
              refine lv_iinc (v := nI (ip + 1)) (lv' := [(3, .int (nI (ip + 1))), (0, .ref h), (1, .long dbp), (4, .int (nI ipw))]) hx hb dX0_digest_69 hl (k := 2) rfl ((nI_succ ip).symm) (by decide) rfl (fun ls hl => ?_)
              refine lv_goto (tgt := 33) hx hb dX0_digest_72 (by decide) ?_
              exact ihp (ip + 1) dbp (by omega) (by rw [fold2, ← hdp, hep, hinpw]) ls (lv_sub hl [1, 2, 0] rfl)
            | succ kpw ihpw =>
              intro ipw dbp hikpw hep ls hl
              refine lv_iload hx hb dX0_digest_42 (lv_at hl 3 rfl) ?_
              refine lv_iconst (v := 5) hx hb dX0_digest_44 (by decide) ?_
              refine lv_icmp_ge (tgt := 69) hx hb dX0_digest_45 (by decide) (fun c13 => absurd c13 (nI_ge (b := 5) (by omega) (by omega))) (fun c13 => ?_)
              refine lv_lload_n hx hb dX0_digest_48 rfl (lv_at hl 1 rfl) ?_
              refine lv_ldc2 hx hb hown (hts (.constantLong RX0 199 (31)) (by decide +kernel)) dX0_digest_49 ?_
              refine lv_lmul hx hb dX0_digest_52 ?_
              refine lv_aload_n hx hb dX0_digest_53 rfl (lv_at hl 0 rfl) ?_
              refine lv_iload_n hx hb dX0_digest_54 rfl (lv_at hl 2 rfl) ?_
              refine lv_iload hx hb dX0_digest_55 (lv_at hl 3 rfl) ?_
              refine rd_V (q := (RX0, TX0, 15)) (ci := 0) (q0 := 0) (As := [.int (nI ip), .int (nI ipw)]) (rest := [.long (dbp * 31)]) ⟨hx, hb, hml, hown, hts⟩ (mX0_potAnswer l D cy h a R nd n dr fl (nI ip) (nI ipw) (by omega) (by omega) (by omega) ) (cwV 2 hts gX0_digest_X0_potAnswer rfl rfl rfl (by decide +kernel) ⟨Nat.le_of_ble_eq_true rfl, Nat.le_of_ble_eq_true rfl⟩) hP hK rfl rfl rfl hl.1 rfl (Nat.le_of_ble_eq_true rfl) dX0_digest_57 (Nat.zero_le _) (Nat.zero_le _) ?_
              refine lv_i2l (v := (potAnsS R n (nI ip) (nI ipw)).toInt64) hx hb dX0_digest_60 rfl ?_
              refine lv_ladd hx hb dX0_digest_61 ?_
              refine lv_lstore_n (lv' := [(1, .long ((dbp * 31) + ((potAnsS R n (nI ip) (nI ipw)).toInt64))), (0, .ref h), (3, .int (nI ip)), (4, .int (nI ipw))]) hx hb dX0_digest_62 rfl hl (by decide) rfl (fun ls hl => ?_)
              refine lv_iinc (v := nI (ipw + 1)) (lv' := [(4, .int (nI (ipw + 1))), (1, .long ((dbp * 31) + ((potAnsS R n (nI ip) (nI ipw)).toInt64))), (0, .ref h), (3, .int (nI ip))]) hx hb dX0_digest_63 hl (k := 3) rfl ((nI_succ ipw).symm) (by decide) rfl (fun ls hl => ?_)
              refine lv_goto (tgt := 42) hx hb dX0_digest_66 (by decide) ?_
              exact ihpw (ipw + 1) ((dbp * 31) + ((potAnsS R n (nI ip) (nI ipw)).toInt64)) (by omega) (by rw [foldD, ← hep]) ls (lv_sub hl [2, 1, 3, 0] rfl)
          exact looppw 5 0 dap (Nat.zero_add _) (rfl) ls (lv_sub hl [1, 2, 3, 0] rfl)
      exact loopp 8 0 dac (Nat.zero_add _) (by rw [fold2, hdc, hinc]) ls (lv_sub hl [1, 2, 0] rfl)
    | succ kc ihc =>
      intro ic dac hikc hdc ls hl
      refine lv_iload_n hx hb dX0_digest_6 rfl (lv_at hl 2 rfl) ?_
      refine lv_bipush (v := 11) hx hb dX0_digest_7 (by decide) ?_
      refine lv_icmp_ge (tgt := 31) hx hb dX0_digest_9 (by decide) (fun c14 => absurd c14 (nI_ge (b := 11) (by omega) (by omega))) (fun c14 => ?_)
      refine lv_lload_n hx hb dX0_digest_12 rfl (lv_at hl 1 rfl) ?_
      refine lv_ldc2 hx hb hown (hts (.constantLong RX0 199 (31)) (by decide +kernel)) dX0_digest_13 ?_
      refine lv_lmul hx hb dX0_digest_16 ?_
      refine lv_aload_n hx hb dX0_digest_17 rfl (lv_at hl 0 rfl) ?_
      refine lv_iload_n hx hb dX0_digest_18 rfl (lv_at hl 2 rfl) ?_
      refine rd_V (q := (RX0, TX0, 15)) (ci := 0) (q0 := 0) (As := [.int (nI ic)]) (rest := [.long (dac * 31)]) ⟨hx, hb, hml, hown, hts⟩ (mX0_countAnswer l D cy h a R nd n dr fl (nI ic) (by omega) (by omega) (by omega) ) (cwV 1 hts gX0_digest_X0_countAnswer rfl rfl rfl (by decide +kernel) ⟨Nat.le_of_ble_eq_true rfl, Nat.le_of_ble_eq_true rfl⟩) hP hK rfl rfl rfl hl.1 rfl (Nat.le_of_ble_eq_true rfl) dX0_digest_19 (Nat.zero_le _) (Nat.zero_le _) ?_
      refine lv_i2l (v := (countAnsS R nd n dr fl (nI ic)).toInt64) hx hb dX0_digest_22 rfl ?_
      refine lv_ladd hx hb dX0_digest_23 ?_
      refine lv_lstore_n (lv' := [(1, .long ((dac * 31) + ((countAnsS R nd n dr fl (nI ic)).toInt64))), (0, .ref h), (3, .int (nI ic))]) hx hb dX0_digest_24 rfl hl (by decide) rfl (fun ls hl => ?_)
      refine lv_iinc (v := nI (ic + 1)) (lv' := [(3, .int (nI (ic + 1))), (1, .long ((dac * 31) + ((countAnsS R nd n dr fl (nI ic)).toInt64))), (0, .ref h)]) hx hb dX0_digest_25 hl (k := 2) rfl ((nI_succ ic).symm) (by decide) rfl (fun ls hl => ?_)
      refine lv_goto (tgt := 6) hx hb dX0_digest_28 (by decide) ?_
      exact ihc (ic + 1) ((dac * 31) + ((countAnsS R nd n dr fl (nI ic)).toInt64)) (by omega) (by rw [foldD, ← hdc]) ls (lv_sub hl [2, 1, 0] rfl)
  exact loopc 11 0 1291 (Nat.zero_add _) (rfl) ls (lv_sub hl [2, 1, 0] rfl)
