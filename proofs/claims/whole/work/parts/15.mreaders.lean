set_option maxRecDepth 100000 in
theorem inX1_is_1 : ∀ w ∈ wsX10, w ∈ wsX1_is := by decide +kernel

set_option maxHeartbeats 4000000 in
set_option maxRecDepth 100000 in
theorem mX1_is (l : Launch) (D : va_G) (cy : ClassId) (q : Nat) (b : Nat → Nat) (M : Nat → Nat → Int32) (n dr : Nat) (an fi ba : Int32) (mo : Nat) (th : Int32) (nd : Nat) (fl : Int32) (sq tq : Nat) (d : Int32) (hnd : nd < 1000000) (hn : n ≤ 120) (hdr : dr < 1000000) : RdI l yX1_is wsX1_is 0 0 [.ref q, .int d] D cy (cSM q b cy M n dr an fi ba mo th nd fl sq tq) (isM M d n) := by
  refine Met.ofW (cc := cX1_is) (maxL := 4) (ret := (some .int)) (by decide) rfl ?_
  intro p e s m args below meth c s₁ B hml hv
  obtain ⟨rfl, hP, hK⟩ := hv
  have hx := B.exec
  have hb := B.bytes
  have hr := B.returns
  have hts := atoms_spec (ws := wsX1_is) B.pre
  have hown : s.vm.findClass RX1 = some m.cls := findClass_of_methodNamed B.named
  have hlocks := B.notSynchronized
  have hl := lv_entry ([.ref q, .int d]) (n := 4) (Nat.le_of_ble_eq_true rfl)
  rw [lg_entry_eq]
  generalize (lg_sl ([.ref q, .int d]) ++ List.replicate (4 - (lg_sl ([.ref q, .int d])).length) Slot.unset).toArray = ls at hl ⊢
  have hl : lv_has ls 4 [(0, .ref q), (1, .int d)] := hl
  refine lv_iconst (v := 3) hx hb dX1_is_0 (by decide) ?_
  refine lv_istore_n (lv' := [(2, .int 3), (0, .ref q), (1, .int d)]) hx hb dX1_is_1 rfl hl (by decide) rfl (fun ls hl => ?_)
  refine lv_iconst (v := 0) hx hb dX1_is_2 (by decide) ?_
  refine lv_istore_n (lv' := [(3, .int 0), (2, .int 3), (0, .ref q), (1, .int d)]) hx hb dX1_is_3 rfl hl (by decide) rfl (fun ls hl => ?_)
  have loop : ∀ (k i : Nat) (acc : Int32), i + k = n → acc = isM M d i → ∀ ls : Array Slot, lv_has ls 4 [(0, .ref q), (1, .int d), (2, .int acc), (3, .int (nI i))] → W p l e (headSpec wsX1_is { frames := 0, cells := 0, slots := 0, locals := 0 }).room s m ([.ref q, .int d] : List Value).toArray below meth c s.heap [] 0 0 (MQ below (vp_Si (fun r => r = isM M d n)) ([.ref q, .int d] : List Value).toArray s 0 0 (fun _ => False)) (F0 m 4 ls []) := by
    intro k
    induction k with
    | zero =>
      intro i acc hik hacc ls hl
      have hin : i = n := by omega
      refine lv_iload_n hx hb dX1_is_4 rfl (lv_at hl 3 rfl) ?_
      refine lv_aload_n hx hb dX1_is_5 rfl (lv_at hl 0 rfl) ?_
      refine va_get (D := D) (ci := 1) (v := .int (nI n)) (C := RX1) (T := TX1) (N := 15) hx hb hts inX1_is_1 hown hK.1 hP 0 rfl rfl 0 (by decide) (hts (.fieldLink RX1 49 "ChalkSlateModel$State" "lines" "I") (by decide +kernel)) (fun _ h9 => h9) rfl dX1_is_6 ?_
      refine lv_icmp_ge (tgt := 66) hx hb dX1_is_9 (by decide) (fun c1 => ?_) (fun c1 => absurd (nI_le (by omega) (by omega)) c1)
      refine lv_iload_n hx hb dX1_is_66 rfl (lv_at hl 2 rfl) ?_
      exact W.iret (v := acc) hx hb hr (fun t ht hW => ⟨acc, rfl, by rw [hacc, hin], ht⟩) (fun q hq => absurd hq List.not_mem_nil) dX1_is_67
    | succ k ih =>
      intro i acc hik hacc ls hl
      refine lv_iload_n hx hb dX1_is_4 rfl (lv_at hl 3 rfl) ?_
      refine lv_aload_n hx hb dX1_is_5 rfl (lv_at hl 0 rfl) ?_
      refine va_get (D := D) (ci := 1) (v := .int (nI n)) (C := RX1) (T := TX1) (N := 15) hx hb hts inX1_is_1 hown hK.1 hP 0 rfl rfl 0 (by decide) (hts (.fieldLink RX1 49 "ChalkSlateModel$State" "lines" "I") (by decide +kernel)) (fun _ h9 => h9) rfl dX1_is_6 ?_
      refine lv_icmp_ge (tgt := 66) hx hb dX1_is_9 (by decide) (fun c2 => absurd c2 (nI_ge (by omega) (by omega))) (fun c2 => ?_)
      refine lv_aload_n hx hb dX1_is_12 rfl (lv_at hl 0 rfl) ?_
      refine va_get (D := D) (ci := 1) (v := .ref (b 4)) (C := RX1) (T := TX1) (N := 15) hx hb hts inX1_is_1 hown hK.1 hP 0 rfl rfl 5 (by decide) (hts (.fieldLink RX1 25 "ChalkSlateModel$State" "dish" "[I") (by decide +kernel)) (fun _ h9 => h9) rfl dX1_is_13 ?_
      refine lv_iload_n hx hb dX1_is_16 rfl (lv_at hl 3 rfl) ?_
      refine va_iald hx hb hK.1 hP 4 0 rfl rfl (vp_in_nI (by omega) (by omega)) dX1_is_17 ?_
      rw [nI_clamp (n := i) (by omega)]
      refine lv_iload_n hx hb dX1_is_18 rfl (lv_at hl 1 rfl) ?_
      refine lv_icmp_eq (tgt := 25) hx hb dX1_is_19 (by decide) (fun c3 => ?_) (fun c3 => ?_)
      · refine lv_aload_n hx hb dX1_is_25 rfl (lv_at hl 0 rfl) ?_
        refine va_get (D := D) (ci := 1) (v := .ref (b 5)) (C := RX1) (T := TX1) (N := 15) hx hb hts inX1_is_1 hown hK.1 hP 0 rfl rfl 6 (by decide) (hts (.fieldLink RX1 28 "ChalkSlateModel$State" "kind" "[I") (by decide +kernel)) (fun _ h9 => h9) rfl dX1_is_26 ?_
        refine lv_iload_n hx hb dX1_is_29 rfl (lv_at hl 3 rfl) ?_
        refine va_iald hx hb hK.1 hP 5 0 rfl rfl (vp_in_nI (by omega) (by omega)) dX1_is_30 ?_
        rw [nI_clamp (n := i) (by omega)]
        refine lv_if_ne (tgt := 36) hx hb dX1_is_31 (by decide) (fun c4 => ?_) (fun c4 => ?_)
        · refine lv_aload_n hx hb dX1_is_36 rfl (lv_at hl 0 rfl) ?_
          refine va_get (D := D) (ci := 1) (v := .ref (b 5)) (C := RX1) (T := TX1) (N := 15) hx hb hts inX1_is_1 hown hK.1 hP 0 rfl rfl 6 (by decide) (hts (.fieldLink RX1 28 "ChalkSlateModel$State" "kind" "[I") (by decide +kernel)) (fun _ h9 => h9) rfl dX1_is_37 ?_
          refine lv_iload_n hx hb dX1_is_40 rfl (lv_at hl 3 rfl) ?_
          refine va_iald hx hb hK.1 hP 5 0 rfl rfl (vp_in_nI (by omega) (by omega)) dX1_is_41 ?_
          rw [nI_clamp (n := i) (by omega)]
          refine lv_iconst (v := 2) hx hb dX1_is_42 (by decide) ?_
          refine lv_icmp_ne (tgt := 48) hx hb dX1_is_43 (by decide) (fun c5 => ?_) (fun c5 => ?_)
          · refine lv_aload_n hx hb dX1_is_48 rfl (lv_at hl 0 rfl) ?_
            refine va_get (D := D) (ci := 1) (v := .ref (b 5)) (C := RX1) (T := TX1) (N := 15) hx hb hts inX1_is_1 hown hK.1 hP 0 rfl rfl 6 (by decide) (hts (.fieldLink RX1 28 "ChalkSlateModel$State" "kind" "[I") (by decide +kernel)) (fun _ h9 => h9) rfl dX1_is_49 ?_
            refine lv_iload_n hx hb dX1_is_52 rfl (lv_at hl 3 rfl) ?_
            refine va_iald hx hb hK.1 hP 5 0 rfl rfl (vp_in_nI (by omega) (by omega)) dX1_is_53 ?_
            rw [nI_clamp (n := i) (by omega)]
            refine lv_iconst (v := 4) hx hb dX1_is_54 (by decide) ?_
            refine lv_icmp_ne (tgt := 60) hx hb dX1_is_55 (by decide) (fun c6 => ?_) (fun c6 => ?_)
            · refine lv_iinc (v := nI (i + 1)) (lv' := [(3, .int (nI (i + 1))), (0, .ref q), (1, .int d), (2, .int acc)]) hx hb dX1_is_60 hl (k := 3) rfl ((nI_succ i).symm) (by decide) rfl (fun ls hl => ?_)
              refine lv_goto (tgt := 4) hx hb dX1_is_63 (by decide) ?_
              exact ih (i + 1) acc (by omega) (by rw [isM, if_pos c3, ← hacc, stepM, if_neg c4, if_neg c5, if_neg c6]) ls (lv_sub hl [1, 2, 3, 0] rfl)
            · refine lv_iconst (v := 2) hx hb dX1_is_58 (by decide) ?_
              refine lv_istore_n (lv' := [(2, .int 2), (0, .ref q), (1, .int d), (3, .int (nI i))]) hx hb dX1_is_59 rfl hl (by decide) rfl (fun ls hl => ?_)
              refine lv_iinc (v := nI (i + 1)) (lv' := [(3, .int (nI (i + 1))), (2, .int 2), (0, .ref q), (1, .int d)]) hx hb dX1_is_60 hl (k := 3) rfl ((nI_succ i).symm) (by decide) rfl (fun ls hl => ?_)
              refine lv_goto (tgt := 4) hx hb dX1_is_63 (by decide) ?_
              exact ih (i + 1) 2 (by omega) (by rw [isM, if_pos c3, ← hacc, stepM, if_neg c4, if_neg c5, if_pos c6]) ls (lv_sub hl [2, 3, 1, 0] rfl)
          · refine lv_iconst (v := 1) hx hb dX1_is_46 (by decide) ?_
            refine lv_istore_n (lv' := [(2, .int 1), (0, .ref q), (1, .int d), (3, .int (nI i))]) hx hb dX1_is_47 rfl hl (by decide) rfl (fun ls hl => ?_)
            refine lv_aload_n hx hb dX1_is_48 rfl (lv_at hl 1 rfl) ?_
            refine va_get (D := D) (ci := 1) (v := .ref (b 5)) (C := RX1) (T := TX1) (N := 15) hx hb hts inX1_is_1 hown hK.1 hP 0 rfl rfl 6 (by decide) (hts (.fieldLink RX1 28 "ChalkSlateModel$State" "kind" "[I") (by decide +kernel)) (fun _ h9 => h9) rfl dX1_is_49 ?_
            refine lv_iload_n hx hb dX1_is_52 rfl (lv_at hl 3 rfl) ?_
            refine va_iald hx hb hK.1 hP 5 0 rfl rfl (vp_in_nI (by omega) (by omega)) dX1_is_53 ?_
            rw [nI_clamp (n := i) (by omega)]
            refine lv_iconst (v := 4) hx hb dX1_is_54 (by decide) ?_
            refine lv_icmp_ne (tgt := 60) hx hb dX1_is_55 (by decide) (fun c7 => ?_) (fun c7 => ?_)
            · refine lv_iinc (v := nI (i + 1)) (lv' := [(3, .int (nI (i + 1))), (2, .int 1), (0, .ref q), (1, .int d)]) hx hb dX1_is_60 hl (k := 3) rfl ((nI_succ i).symm) (by decide) rfl (fun ls hl => ?_)
              refine lv_goto (tgt := 4) hx hb dX1_is_63 (by decide) ?_
              exact ih (i + 1) 1 (by omega) (by rw [isM, if_pos c3, ← hacc, stepM, if_neg c4, if_pos c5, if_neg c7]) ls (lv_sub hl [2, 3, 1, 0] rfl)
            · refine lv_iconst (v := 2) hx hb dX1_is_58 (by decide) ?_
              refine lv_istore_n (lv' := [(2, .int 2), (0, .ref q), (1, .int d), (3, .int (nI i))]) hx hb dX1_is_59 rfl hl (by decide) rfl (fun ls hl => ?_)
              refine lv_iinc (v := nI (i + 1)) (lv' := [(3, .int (nI (i + 1))), (2, .int 2), (0, .ref q), (1, .int d)]) hx hb dX1_is_60 hl (k := 3) rfl ((nI_succ i).symm) (by decide) rfl (fun ls hl => ?_)
              refine lv_goto (tgt := 4) hx hb dX1_is_63 (by decide) ?_
              exact ih (i + 1) 2 (by omega) (by rw [isM, if_pos c3, ← hacc, stepM, if_neg c4, if_pos c5, if_pos c7]) ls (lv_sub hl [2, 3, 1, 0] rfl)
        · refine lv_iconst (v := 0) hx hb dX1_is_34 (by decide) ?_
          refine lv_istore_n (lv' := [(2, .int 0), (0, .ref q), (1, .int d), (3, .int (nI i))]) hx hb dX1_is_35 rfl hl (by decide) rfl (fun ls hl => ?_)
          refine lv_aload_n hx hb dX1_is_36 rfl (lv_at hl 1 rfl) ?_
          refine va_get (D := D) (ci := 1) (v := .ref (b 5)) (C := RX1) (T := TX1) (N := 15) hx hb hts inX1_is_1 hown hK.1 hP 0 rfl rfl 6 (by decide) (hts (.fieldLink RX1 28 "ChalkSlateModel$State" "kind" "[I") (by decide +kernel)) (fun _ h9 => h9) rfl dX1_is_37 ?_
          refine lv_iload_n hx hb dX1_is_40 rfl (lv_at hl 3 rfl) ?_
          refine va_iald hx hb hK.1 hP 5 0 rfl rfl (vp_in_nI (by omega) (by omega)) dX1_is_41 ?_
          rw [nI_clamp (n := i) (by omega)]
          refine lv_iconst (v := 2) hx hb dX1_is_42 (by decide) ?_
          refine lv_icmp_ne (tgt := 48) hx hb dX1_is_43 (by decide) (fun c8 => ?_) (fun c8 => ?_)
          · refine lv_aload_n hx hb dX1_is_48 rfl (lv_at hl 1 rfl) ?_
            refine va_get (D := D) (ci := 1) (v := .ref (b 5)) (C := RX1) (T := TX1) (N := 15) hx hb hts inX1_is_1 hown hK.1 hP 0 rfl rfl 6 (by decide) (hts (.fieldLink RX1 28 "ChalkSlateModel$State" "kind" "[I") (by decide +kernel)) (fun _ h9 => h9) rfl dX1_is_49 ?_
            refine lv_iload_n hx hb dX1_is_52 rfl (lv_at hl 3 rfl) ?_
            refine va_iald hx hb hK.1 hP 5 0 rfl rfl (vp_in_nI (by omega) (by omega)) dX1_is_53 ?_
            rw [nI_clamp (n := i) (by omega)]
            refine lv_iconst (v := 4) hx hb dX1_is_54 (by decide) ?_
            refine lv_icmp_ne (tgt := 60) hx hb dX1_is_55 (by decide) (fun c9 => ?_) (fun c9 => ?_)
            · refine lv_iinc (v := nI (i + 1)) (lv' := [(3, .int (nI (i + 1))), (2, .int 0), (0, .ref q), (1, .int d)]) hx hb dX1_is_60 hl (k := 3) rfl ((nI_succ i).symm) (by decide) rfl (fun ls hl => ?_)
              refine lv_goto (tgt := 4) hx hb dX1_is_63 (by decide) ?_
              exact ih (i + 1) 0 (by omega) (by rw [isM, if_pos c3, ← hacc, stepM, if_pos c4, if_neg c8, if_neg c9]) ls (lv_sub hl [2, 3, 1, 0] rfl)
            · refine lv_iconst (v := 2) hx hb dX1_is_58 (by decide) ?_
              refine lv_istore_n (lv' := [(2, .int 2), (0, .ref q), (1, .int d), (3, .int (nI i))]) hx hb dX1_is_59 rfl hl (by decide) rfl (fun ls hl => ?_)
              refine lv_iinc (v := nI (i + 1)) (lv' := [(3, .int (nI (i + 1))), (2, .int 2), (0, .ref q), (1, .int d)]) hx hb dX1_is_60 hl (k := 3) rfl ((nI_succ i).symm) (by decide) rfl (fun ls hl => ?_)
              refine lv_goto (tgt := 4) hx hb dX1_is_63 (by decide) ?_
              exact ih (i + 1) 2 (by omega) (by rw [isM, if_pos c3, ← hacc, stepM, if_pos c4, if_neg c8, if_pos c9]) ls (lv_sub hl [2, 3, 1, 0] rfl)
          · refine lv_iconst (v := 1) hx hb dX1_is_46 (by decide) ?_
            refine lv_istore_n (lv' := [(2, .int 1), (0, .ref q), (1, .int d), (3, .int (nI i))]) hx hb dX1_is_47 rfl hl (by decide) rfl (fun ls hl => ?_)
            refine lv_aload_n hx hb dX1_is_48 rfl (lv_at hl 1 rfl) ?_
            refine va_get (D := D) (ci := 1) (v := .ref (b 5)) (C := RX1) (T := TX1) (N := 15) hx hb hts inX1_is_1 hown hK.1 hP 0 rfl rfl 6 (by decide) (hts (.fieldLink RX1 28 "ChalkSlateModel$State" "kind" "[I") (by decide +kernel)) (fun _ h9 => h9) rfl dX1_is_49 ?_
            refine lv_iload_n hx hb dX1_is_52 rfl (lv_at hl 3 rfl) ?_
            refine va_iald hx hb hK.1 hP 5 0 rfl rfl (vp_in_nI (by omega) (by omega)) dX1_is_53 ?_
            rw [nI_clamp (n := i) (by omega)]
            refine lv_iconst (v := 4) hx hb dX1_is_54 (by decide) ?_
            refine lv_icmp_ne (tgt := 60) hx hb dX1_is_55 (by decide) (fun c10 => ?_) (fun c10 => ?_)
            · refine lv_iinc (v := nI (i + 1)) (lv' := [(3, .int (nI (i + 1))), (2, .int 1), (0, .ref q), (1, .int d)]) hx hb dX1_is_60 hl (k := 3) rfl ((nI_succ i).symm) (by decide) rfl (fun ls hl => ?_)
              refine lv_goto (tgt := 4) hx hb dX1_is_63 (by decide) ?_
              exact ih (i + 1) 1 (by omega) (by rw [isM, if_pos c3, ← hacc, stepM, if_pos c4, if_pos c8, if_neg c10]) ls (lv_sub hl [2, 3, 1, 0] rfl)
            · refine lv_iconst (v := 2) hx hb dX1_is_58 (by decide) ?_
              refine lv_istore_n (lv' := [(2, .int 2), (0, .ref q), (1, .int d), (3, .int (nI i))]) hx hb dX1_is_59 rfl hl (by decide) rfl (fun ls hl => ?_)
              refine lv_iinc (v := nI (i + 1)) (lv' := [(3, .int (nI (i + 1))), (2, .int 2), (0, .ref q), (1, .int d)]) hx hb dX1_is_60 hl (k := 3) rfl ((nI_succ i).symm) (by decide) rfl (fun ls hl => ?_)
              refine lv_goto (tgt := 4) hx hb dX1_is_63 (by decide) ?_
              exact ih (i + 1) 2 (by omega) (by rw [isM, if_pos c3, ← hacc, stepM, if_pos c4, if_pos c8, if_pos c10]) ls (lv_sub hl [2, 3, 1, 0] rfl)
      · refine lv_goto (tgt := 60) hx hb dX1_is_22 (by decide) ?_
        refine lv_iinc (v := nI (i + 1)) (lv' := [(3, .int (nI (i + 1))), (0, .ref q), (1, .int d), (2, .int acc)]) hx hb dX1_is_60 hl (k := 3) rfl ((nI_succ i).symm) (by decide) rfl (fun ls hl => ?_)
        refine lv_goto (tgt := 4) hx hb dX1_is_63 (by decide) ?_
        exact ih (i + 1) acc (by omega) (by rw [isM, if_neg c3, ← hacc]) ls (lv_sub hl [1, 2, 3, 0] rfl)
  exact loop n 0 3 (Nat.zero_add _) (rfl) ls (lv_sub hl [2, 3, 1, 0] rfl)

set_option maxRecDepth 100000 in
theorem inX1_isTakenBack_1 : ∀ w ∈ wsX10, w ∈ wsX1_isTakenBack := by decide +kernel

set_option maxHeartbeats 4000000 in
set_option maxRecDepth 100000 in
theorem mX1_isTakenBack (l : Launch) (D : va_G) (cy : ClassId) (q : Nat) (b : Nat → Nat) (M : Nat → Nat → Int32) (n dr : Nat) (an fi ba : Int32) (mo : Nat) (th : Int32) (nd : Nat) (fl : Int32) (sq tq : Nat) (j : Nat) (hnd : nd < 1000000) (hn : n ≤ 120) (hdr : dr < 1000000) (hj : j < n) : RdI l yX1_isTakenBack wsX1_isTakenBack 0 0 [.ref q, .int (nI j)] D cy (cSM q b cy M n dr an fi ba mo th nd fl sq tq) (takenM M n j) := by
  refine Met.ofW (cc := cX1_isTakenBack) (maxL := 3) (ret := (some .boolean)) (by decide) rfl ?_
  intro p e s m args below meth c s₁ B hml hv
  obtain ⟨rfl, hP, hK⟩ := hv
  have hx := B.exec
  have hb := B.bytes
  have hr := B.returns
  have hts := atoms_spec (ws := wsX1_isTakenBack) B.pre
  have hown : s.vm.findClass RX1 = some m.cls := findClass_of_methodNamed B.named
  have hlocks := B.notSynchronized
  have hl := lv_entry ([.ref q, .int (nI j)]) (n := 3) (Nat.le_of_ble_eq_true rfl)
  rw [lg_entry_eq]
  generalize (lg_sl ([.ref q, .int (nI j)]) ++ List.replicate (3 - (lg_sl ([.ref q, .int (nI j)])).length) Slot.unset).toArray = ls at hl ⊢
  have hl : lv_has ls 3 [(0, .ref q), (1, .int (nI j))] := hl
  refine lv_iload_n hx hb dX1_isTakenBack_0 rfl (lv_at hl 1 rfl) ?_
  refine lv_iconst (v := 1) hx hb dX1_isTakenBack_1 (by decide) ?_
  refine lv_iadd hx hb dX1_isTakenBack_2 ?_
  rw [← nI_succ j]
  refine lv_istore_n (lv' := [(2, .int (nI (j + 1))), (0, .ref q), (1, .int (nI j))]) hx hb dX1_isTakenBack_3 rfl hl (by decide) rfl (fun ls hl => ?_)
  have loop : ∀ (k i : Nat), i + k = n → takenM M n j = takenF M j k i → ∀ ls : Array Slot, lv_has ls 3 [(0, .ref q), (1, .int (nI j)), (2, .int (nI i))] → W p l e (headSpec wsX1_isTakenBack { frames := 0, cells := 0, slots := 0, locals := 0 }).room s m ([.ref q, .int (nI j)] : List Value).toArray below meth c s.heap [] 0 0 (MQ below (vp_Si (fun r => r = takenM M n j)) ([.ref q, .int (nI j)] : List Value).toArray s 0 0 (fun _ => False)) (F0 m 4 ls []) := by
    intro k
    induction k with
    | zero =>
      intro i hik hrel ls hl
      have hin : i = n := by omega
      refine lv_iload_n hx hb dX1_isTakenBack_4 rfl (lv_at hl 2 rfl) ?_
      refine lv_aload_n hx hb dX1_isTakenBack_5 rfl (lv_at hl 0 rfl) ?_
      refine va_get (D := D) (ci := 1) (v := .int (nI n)) (C := RX1) (T := TX1) (N := 15) hx hb hts inX1_isTakenBack_1 hown hK.1 hP 0 rfl rfl 0 (by decide) (hts (.fieldLink RX1 49 "ChalkSlateModel$State" "lines" "I") (by decide +kernel)) (fun _ h9 => h9) rfl dX1_isTakenBack_6 ?_
      refine lv_icmp_ge (tgt := 40) hx hb dX1_isTakenBack_9 (by decide) (fun c1 => ?_) (fun c1 => absurd (nI_le (by omega) (by omega)) c1)
      refine lv_iconst (v := 0) hx hb dX1_isTakenBack_40 (by decide) ?_
      exact W.zret (v := 0) hx hb hr rfl (fun t ht hW => ⟨0, rfl, by rw [hrel, takenF], ht⟩) (fun q hq => absurd hq List.not_mem_nil) dX1_isTakenBack_41
    | succ k ih =>
      intro i hik hrel ls hl
      refine lv_iload_n hx hb dX1_isTakenBack_4 rfl (lv_at hl 2 rfl) ?_
      refine lv_aload_n hx hb dX1_isTakenBack_5 rfl (lv_at hl 0 rfl) ?_
      refine va_get (D := D) (ci := 1) (v := .int (nI n)) (C := RX1) (T := TX1) (N := 15) hx hb hts inX1_isTakenBack_1 hown hK.1 hP 0 rfl rfl 0 (by decide) (hts (.fieldLink RX1 49 "ChalkSlateModel$State" "lines" "I") (by decide +kernel)) (fun _ h9 => h9) rfl dX1_isTakenBack_6 ?_
      refine lv_icmp_ge (tgt := 40) hx hb dX1_isTakenBack_9 (by decide) (fun c2 => absurd c2 (nI_ge (by omega) (by omega))) (fun c2 => ?_)
      refine lv_aload_n hx hb dX1_isTakenBack_12 rfl (lv_at hl 0 rfl) ?_
      refine va_get (D := D) (ci := 1) (v := .ref (b 5)) (C := RX1) (T := TX1) (N := 15) hx hb hts inX1_isTakenBack_1 hown hK.1 hP 0 rfl rfl 6 (by decide) (hts (.fieldLink RX1 28 "ChalkSlateModel$State" "kind" "[I") (by decide +kernel)) (fun _ h9 => h9) rfl dX1_isTakenBack_13 ?_
      refine lv_iload_n hx hb dX1_isTakenBack_16 rfl (lv_at hl 2 rfl) ?_
      refine va_iald hx hb hK.1 hP 5 0 rfl rfl (vp_in_nI (by omega) (by omega)) dX1_isTakenBack_17 ?_
      rw [nI_clamp (n := i) (by omega)]
      refine lv_iconst (v := 3) hx hb dX1_isTakenBack_18 (by decide) ?_
      refine lv_icmp_ne (tgt := 34) hx hb dX1_isTakenBack_19 (by decide) (fun c3 => ?_) (fun c3 => ?_)
      · refine lv_iinc (v := nI (i + 1)) (lv' := [(2, .int (nI (i + 1))), (0, .ref q), (1, .int (nI j))]) hx hb dX1_isTakenBack_34 hl (k := 2) rfl ((nI_succ i).symm) (by decide) rfl (fun ls hl => ?_)
        refine lv_goto (tgt := 4) hx hb dX1_isTakenBack_37 (by decide) ?_
        exact ih (i + 1) (by omega) (by rw [hrel, takenF, if_neg c3]) ls (lv_sub hl [1, 2, 0] rfl)
      · refine lv_aload_n hx hb dX1_isTakenBack_22 rfl (lv_at hl 0 rfl) ?_
        refine va_get (D := D) (ci := 1) (v := .ref (b 9)) (C := RX1) (T := TX1) (N := 15) hx hb hts inX1_isTakenBack_1 hown hK.1 hP 0 rfl rfl 10 (by decide) (hts (.fieldLink RX1 40 "ChalkSlateModel$State" "takes" "[I") (by decide +kernel)) (fun _ h9 => h9) rfl dX1_isTakenBack_23 ?_
        refine lv_iload_n hx hb dX1_isTakenBack_26 rfl (lv_at hl 2 rfl) ?_
        refine va_iald hx hb hK.1 hP 9 0 rfl rfl (vp_in_nI (by omega) (by omega)) dX1_isTakenBack_27 ?_
        rw [nI_clamp (n := i) (by omega)]
        refine lv_iload_n hx hb dX1_isTakenBack_28 rfl (lv_at hl 1 rfl) ?_
        refine lv_icmp_ne (tgt := 34) hx hb dX1_isTakenBack_29 (by decide) (fun c4 => ?_) (fun c4 => ?_)
        · refine lv_iinc (v := nI (i + 1)) (lv' := [(2, .int (nI (i + 1))), (0, .ref q), (1, .int (nI j))]) hx hb dX1_isTakenBack_34 hl (k := 2) rfl ((nI_succ i).symm) (by decide) rfl (fun ls hl => ?_)
          refine lv_goto (tgt := 4) hx hb dX1_isTakenBack_37 (by decide) ?_
          exact ih (i + 1) (by omega) (by rw [hrel, takenF, if_pos c3, if_neg c4]) ls (lv_sub hl [1, 2, 0] rfl)
        · refine lv_iconst (v := 1) hx hb dX1_isTakenBack_32 (by decide) ?_
          exact W.zret (v := 1) hx hb hr rfl (fun t ht hW => ⟨1, rfl, by rw [hrel, takenF, if_pos c3, if_pos c4], ht⟩) (fun q hq => absurd hq List.not_mem_nil) dX1_isTakenBack_33
  exact loop (n - (j + 1)) (j + 1) (by omega) (rfl) ls (lv_sub hl [1, 2, 0] rfl)

set_option maxRecDepth 100000 in
theorem inX1_isKept_1 : ∀ w ∈ wsX10, w ∈ wsX1_isKept := by decide +kernel

set_option maxHeartbeats 4000000 in
set_option maxRecDepth 100000 in
theorem mX1_isKept (l : Launch) (D : va_G) (cy : ClassId) (q : Nat) (b : Nat → Nat) (M : Nat → Nat → Int32) (n dr : Nat) (an fi ba : Int32) (mo : Nat) (th : Int32) (nd : Nat) (fl : Int32) (sq tq : Nat) (j : Nat) (d : Int32) (hnd : nd < 1000000) (hn : n ≤ 120) (hdr : dr < 1000000) (hj : j < n) : RdI l yX1_isKept wsX1_isKept 1 22 [.ref q, .int (nI j), .int d] D cy (cSM q b cy M n dr an fi ba mo th nd fl sq tq) (keptB M n j d) := by
  refine Met.ofW (cc := cX1_isKept) (maxL := 3) (ret := (some .boolean)) (by decide) rfl ?_
  intro p e s m args below meth c s₁ B hml hv
  obtain ⟨rfl, hP, hK⟩ := hv
  have hx := B.exec
  have hb := B.bytes
  have hr := B.returns
  have hts := atoms_spec (ws := wsX1_isKept) B.pre
  have hown : s.vm.findClass RX1 = some m.cls := findClass_of_methodNamed B.named
  have hlocks := B.notSynchronized
  have hl := lv_entry ([.ref q, .int (nI j), .int d]) (n := 3) (Nat.le_of_ble_eq_true rfl)
  rw [lg_entry_eq]
  generalize (lg_sl ([.ref q, .int (nI j), .int d]) ++ List.replicate (3 - (lg_sl ([.ref q, .int (nI j), .int d])).length) Slot.unset).toArray = ls at hl ⊢
  have hl : lv_has ls 3 [(0, .ref q), (1, .int (nI j)), (2, .int d)] := hl
  refine lv_aload_n hx hb dX1_isKept_0 rfl (lv_at hl 0 rfl) ?_
  refine va_get (D := D) (ci := 1) (v := .ref (b 4)) (C := RX1) (T := TX1) (N := 15) hx hb hts inX1_isKept_1 hown hK.1 hP 0 rfl rfl 5 (by decide) (hts (.fieldLink RX1 25 "ChalkSlateModel$State" "dish" "[I") (by decide +kernel)) (fun _ h9 => h9) rfl dX1_isKept_1 ?_
  refine lv_iload_n hx hb dX1_isKept_4 rfl (lv_at hl 1 rfl) ?_
  refine va_iald hx hb hK.1 hP 4 0 rfl rfl (vp_in_nI (by omega) (by omega)) dX1_isKept_5 ?_
  rw [nI_clamp (n := j) (by omega)]
  refine lv_iload_n hx hb dX1_isKept_6 rfl (lv_at hl 2 rfl) ?_
  refine lv_icmp_ne (tgt := 32) hx hb dX1_isKept_7 (by decide) (fun c1 => ?_) (fun c1 => ?_)
  · refine lv_iconst (v := 0) hx hb dX1_isKept_32 (by decide) ?_
    exact W.zret (v := 0) hx hb hr rfl (fun t ht hW => ⟨0, rfl, by rw [keptB, if_neg c1], ht⟩) (fun q hq => absurd hq List.not_mem_nil) dX1_isKept_33
  · refine lv_aload_n hx hb dX1_isKept_10 rfl (lv_at hl 0 rfl) ?_
    refine va_get (D := D) (ci := 1) (v := .ref (b 5)) (C := RX1) (T := TX1) (N := 15) hx hb hts inX1_isKept_1 hown hK.1 hP 0 rfl rfl 6 (by decide) (hts (.fieldLink RX1 28 "ChalkSlateModel$State" "kind" "[I") (by decide +kernel)) (fun _ h9 => h9) rfl dX1_isKept_11 ?_
    refine lv_iload_n hx hb dX1_isKept_14 rfl (lv_at hl 1 rfl) ?_
    refine va_iald hx hb hK.1 hP 5 0 rfl rfl (vp_in_nI (by omega) (by omega)) dX1_isKept_15 ?_
    rw [nI_clamp (n := j) (by omega)]
    refine lv_iconst (v := 1) hx hb dX1_isKept_16 (by decide) ?_
    refine lv_icmp_ne (tgt := 32) hx hb dX1_isKept_17 (by decide) (fun c2 => ?_) (fun c2 => ?_)
    · refine lv_iconst (v := 0) hx hb dX1_isKept_32 (by decide) ?_
      exact W.zret (v := 0) hx hb hr rfl (fun t ht hW => ⟨0, rfl, by rw [keptB, if_pos c1, if_neg c2], ht⟩) (fun q hq => absurd hq List.not_mem_nil) dX1_isKept_33
    · refine lv_aload_n hx hb dX1_isKept_20 rfl (lv_at hl 0 rfl) ?_
      refine lv_iload_n hx hb dX1_isKept_21 rfl (lv_at hl 1 rfl) ?_
      refine rd_V (q := (RX1, TX1, 15)) (ci := 1) (q0 := 0) (As := [.int (nI j)]) (rest := []) ⟨hx, hb, hml, hown, hts⟩ (mX1_isTakenBack l D cy q b M n dr an fi ba mo th nd fl sq tq j (by omega) (by omega) (by omega) (by omega)) (cwV 1 hts gX1_isKept_X1_isTakenBack rfl rfl rfl (by decide +kernel) ⟨Nat.le_of_ble_eq_true rfl, Nat.le_of_ble_eq_true rfl⟩) hP hK rfl rfl rfl hl.1 rfl (Nat.le_of_ble_eq_true rfl) dX1_isKept_22 (Nat.zero_le _) (Nat.zero_le _) ?_
      refine lv_if_ne (tgt := 32) hx hb dX1_isKept_25 (by decide) (fun c3 => ?_) (fun c3 => ?_)
      · refine lv_iconst (v := 0) hx hb dX1_isKept_32 (by decide) ?_
        exact W.zret (v := 0) hx hb hr rfl (fun t ht hW => ⟨0, rfl, by rw [keptB, if_pos c1, if_pos c2, if_neg c3], ht⟩) (fun q hq => absurd hq List.not_mem_nil) dX1_isKept_33
      · refine lv_iconst (v := 1) hx hb dX1_isKept_28 (by decide) ?_
        refine lv_goto (tgt := 33) hx hb dX1_isKept_29 (by decide) ?_
        exact W.zret (v := 1) hx hb hr rfl (fun t ht hW => ⟨1, rfl, by rw [keptB, if_pos c1, if_pos c2, if_pos c3], ht⟩) (fun q hq => absurd hq List.not_mem_nil) dX1_isKept_33

set_option maxRecDepth 100000 in
theorem inX1_kept_1 : ∀ w ∈ wsX10, w ∈ wsX1_kept := by decide +kernel

set_option maxHeartbeats 4000000 in
set_option maxRecDepth 100000 in
theorem mX1_kept (l : Launch) (D : va_G) (cy : ClassId) (q : Nat) (b : Nat → Nat) (M : Nat → Nat → Int32) (n dr : Nat) (an fi ba : Int32) (mo : Nat) (th : Int32) (nd : Nat) (fl : Int32) (sq tq : Nat) (d : Int32) (hnd : nd < 1000000) (hn : n ≤ 120) (hdr : dr < 1000000) : RdI l yX1_kept wsX1_kept 2 44 [.ref q, .int d] D cy (cSM q b cy M n dr an fi ba mo th nd fl sq tq) (keptM M n d n) := by
  refine Met.ofW (cc := cX1_kept) (maxL := 4) (ret := (some .int)) (by decide) rfl ?_
  intro p e s m args below meth c s₁ B hml hv
  obtain ⟨rfl, hP, hK⟩ := hv
  have hx := B.exec
  have hb := B.bytes
  have hr := B.returns
  have hts := atoms_spec (ws := wsX1_kept) B.pre
  have hown : s.vm.findClass RX1 = some m.cls := findClass_of_methodNamed B.named
  have hlocks := B.notSynchronized
  have hl := lv_entry ([.ref q, .int d]) (n := 4) (Nat.le_of_ble_eq_true rfl)
  rw [lg_entry_eq]
  generalize (lg_sl ([.ref q, .int d]) ++ List.replicate (4 - (lg_sl ([.ref q, .int d])).length) Slot.unset).toArray = ls at hl ⊢
  have hl : lv_has ls 4 [(0, .ref q), (1, .int d)] := hl
  refine lv_iconst (v := 0) hx hb dX1_kept_0 (by decide) ?_
  refine lv_istore_n (lv' := [(2, .int 0), (0, .ref q), (1, .int d)]) hx hb dX1_kept_1 rfl hl (by decide) rfl (fun ls hl => ?_)
  refine lv_iconst (v := 0) hx hb dX1_kept_2 (by decide) ?_
  refine lv_istore_n (lv' := [(3, .int 0), (2, .int 0), (0, .ref q), (1, .int d)]) hx hb dX1_kept_3 rfl hl (by decide) rfl (fun ls hl => ?_)
  have loop : ∀ (k i : Nat) (acc : Int32), i + k = n → acc = keptM M n d i → ∀ ls : Array Slot, lv_has ls 4 [(0, .ref q), (1, .int d), (2, .int acc), (3, .int (nI i))] → W p l e (headSpec wsX1_kept { frames := 2, cells := 0, slots := 0, locals := 44 }).room s m ([.ref q, .int d] : List Value).toArray below meth c s.heap [] 0 0 (MQ below (vp_Si (fun r => r = keptM M n d n)) ([.ref q, .int d] : List Value).toArray s 0 0 (fun _ => False)) (F0 m 4 ls []) := by
    intro k
    induction k with
    | zero =>
      intro i acc hik hacc ls hl
      have hin : i = n := by omega
      refine lv_iload_n hx hb dX1_kept_4 rfl (lv_at hl 3 rfl) ?_
      refine lv_aload_n hx hb dX1_kept_5 rfl (lv_at hl 0 rfl) ?_
      refine va_get (D := D) (ci := 1) (v := .int (nI n)) (C := RX1) (T := TX1) (N := 15) hx hb hts inX1_kept_1 hown hK.1 hP 0 rfl rfl 0 (by decide) (hts (.fieldLink RX1 49 "ChalkSlateModel$State" "lines" "I") (by decide +kernel)) (fun _ h9 => h9) rfl dX1_kept_6 ?_
      refine lv_icmp_ge (tgt := 35) hx hb dX1_kept_9 (by decide) (fun c1 => ?_) (fun c1 => absurd (nI_le (by omega) (by omega)) c1)
      refine lv_iload_n hx hb dX1_kept_35 rfl (lv_at hl 2 rfl) ?_
      exact W.iret (v := acc) hx hb hr (fun t ht hW => ⟨acc, rfl, by rw [hacc, hin], ht⟩) (fun q hq => absurd hq List.not_mem_nil) dX1_kept_36
    | succ k ih =>
      intro i acc hik hacc ls hl
      refine lv_iload_n hx hb dX1_kept_4 rfl (lv_at hl 3 rfl) ?_
      refine lv_aload_n hx hb dX1_kept_5 rfl (lv_at hl 0 rfl) ?_
      refine va_get (D := D) (ci := 1) (v := .int (nI n)) (C := RX1) (T := TX1) (N := 15) hx hb hts inX1_kept_1 hown hK.1 hP 0 rfl rfl 0 (by decide) (hts (.fieldLink RX1 49 "ChalkSlateModel$State" "lines" "I") (by decide +kernel)) (fun _ h9 => h9) rfl dX1_kept_6 ?_
      refine lv_icmp_ge (tgt := 35) hx hb dX1_kept_9 (by decide) (fun c2 => absurd c2 (nI_ge (by omega) (by omega))) (fun c2 => ?_)
      refine lv_iload_n hx hb dX1_kept_12 rfl (lv_at hl 2 rfl) ?_
      refine lv_aload_n hx hb dX1_kept_13 rfl (lv_at hl 0 rfl) ?_
      refine lv_iload_n hx hb dX1_kept_14 rfl (lv_at hl 3 rfl) ?_
      refine lv_iload_n hx hb dX1_kept_15 rfl (lv_at hl 1 rfl) ?_
      refine rd_V (q := (RX1, TX1, 15)) (ci := 1) (q0 := 0) (As := [.int (nI i), .int d]) (rest := [.int acc]) ⟨hx, hb, hml, hown, hts⟩ (mX1_isKept l D cy q b M n dr an fi ba mo th nd fl sq tq i d (by omega) (by omega) (by omega) (by omega)) (cwV 2 hts gX1_kept_X1_isKept rfl rfl rfl (by decide +kernel) ⟨Nat.le_of_ble_eq_true rfl, Nat.le_of_ble_eq_true rfl⟩) hP hK rfl rfl rfl hl.1 rfl (Nat.le_of_ble_eq_true rfl) dX1_kept_16 (Nat.zero_le _) (Nat.zero_le _) ?_
      refine lv_if_eq (tgt := 26) hx hb dX1_kept_19 (by decide) (fun c3 => ?_) (fun c3 => ?_)
      · refine lv_iconst (v := 0) hx hb dX1_kept_26 (by decide) ?_
        refine lv_iadd hx hb dX1_kept_27 ?_
        refine lv_istore_n (lv' := [(2, .int (acc + 0)), (0, .ref q), (1, .int d), (3, .int (nI i))]) hx hb dX1_kept_28 rfl hl (by decide) rfl (fun ls hl => ?_)
        refine lv_iinc (v := nI (i + 1)) (lv' := [(3, .int (nI (i + 1))), (2, .int (acc + 0)), (0, .ref q), (1, .int d)]) hx hb dX1_kept_29 hl (k := 3) rfl ((nI_succ i).symm) (by decide) rfl (fun ls hl => ?_)
        refine lv_goto (tgt := 4) hx hb dX1_kept_32 (by decide) ?_
        exact ih (i + 1) (acc + 0) (by omega) (by rw [keptM, if_pos c3, ← hacc]) ls (lv_sub hl [2, 3, 1, 0] rfl)
      · refine lv_iconst (v := 1) hx hb dX1_kept_22 (by decide) ?_
        refine lv_goto (tgt := 27) hx hb dX1_kept_23 (by decide) ?_
        refine lv_iadd hx hb dX1_kept_27 ?_
        refine lv_istore_n (lv' := [(2, .int (acc + 1)), (0, .ref q), (1, .int d), (3, .int (nI i))]) hx hb dX1_kept_28 rfl hl (by decide) rfl (fun ls hl => ?_)
        refine lv_iinc (v := nI (i + 1)) (lv' := [(3, .int (nI (i + 1))), (2, .int (acc + 1)), (0, .ref q), (1, .int d)]) hx hb dX1_kept_29 hl (k := 3) rfl ((nI_succ i).symm) (by decide) rfl (fun ls hl => ?_)
        refine lv_goto (tgt := 4) hx hb dX1_kept_32 (by decide) ?_
        exact ih (i + 1) (acc + 1) (by omega) (by rw [keptM, if_neg c3, ← hacc]) ls (lv_sub hl [2, 3, 1, 0] rfl)
  exact loop n 0 0 (Nat.zero_add _) (rfl) ls (lv_sub hl [2, 3, 1, 0] rfl)

set_option maxRecDepth 100000 in
theorem inX1_room_1 : ∀ w ∈ wsX10, w ∈ wsX1_room := by decide +kernel

set_option maxRecDepth 100000 in
theorem inX1_room_2 : ∀ w ∈ wsX20, w ∈ wsX1_room := by decide +kernel

set_option maxHeartbeats 4000000 in
set_option maxRecDepth 100000 in
theorem mX1_room (l : Launch) (D : va_G) (cy : ClassId) (q : Nat) (b : Nat → Nat) (M : Nat → Nat → Int32) (n dr : Nat) (an fi ba : Int32) (mo : Nat) (th : Int32) (nd : Nat) (fl : Int32) (sq tq : Nat)  (hnd : nd < 1000000) (hn : n ≤ 120) (hdr : dr < 1000000) : RdI l yX1_room wsX1_room 3 67 [.ref q] D cy (cSM q b cy M n dr an fi ba mo th nd fl sq tq) (roomM M n nd) := by
  refine Met.ofW (cc := cX1_room) (maxL := 3) (ret := (some .int)) (by decide) rfl ?_
  intro p e s m args below meth c s₁ B hml hv
  obtain ⟨rfl, hP, hK⟩ := hv
  have hx := B.exec
  have hb := B.bytes
  have hr := B.returns
  have hts := atoms_spec (ws := wsX1_room) B.pre
  have hown : s.vm.findClass RX1 = some m.cls := findClass_of_methodNamed B.named
  have hlocks := B.notSynchronized
  have hl := lv_entry ([.ref q]) (n := 3) (Nat.le_of_ble_eq_true rfl)
  rw [lg_entry_eq]
  generalize (lg_sl ([.ref q]) ++ List.replicate (3 - (lg_sl ([.ref q])).length) Slot.unset).toArray = ls at hl ⊢
  have hl : lv_has ls 3 [(0, .ref q)] := hl
  refine lv_bipush (v := 120) hx hb dX1_room_0 (by decide) ?_
  refine lv_aload_n hx hb dX1_room_2 rfl (lv_at hl 0 rfl) ?_
  refine va_get (D := D) (ci := 1) (v := .int (nI n)) (C := RX1) (T := TX1) (N := 15) hx hb hts inX1_room_1 hown hK.1 hP 0 rfl rfl 0 (by decide) (hts (.fieldLink RX1 49 "ChalkSlateModel$State" "lines" "I") (by decide +kernel)) (fun _ h9 => h9) rfl dX1_room_3 ?_
  refine lv_isub hx hb dX1_room_6 ?_
  refine lv_istore_n (lv' := [(1, .int (120 - (nI n))), (0, .ref q)]) hx hb dX1_room_7 rfl hl (by decide) rfl (fun ls hl => ?_)
  refine lv_iconst (v := 0) hx hb dX1_room_8 (by decide) ?_
  refine lv_istore_n (lv' := [(2, .int 0), (1, .int (120 - (nI n))), (0, .ref q)]) hx hb dX1_room_9 rfl hl (by decide) rfl (fun ls hl => ?_)
  have loop : ∀ (k i : Nat) (acc : Int32), i + k = nd → acc = roomM M n i → ∀ ls : Array Slot, lv_has ls 3 [(0, .ref q), (1, .int acc), (2, .int (nI i))] → W p l e (headSpec wsX1_room { frames := 3, cells := 0, slots := 0, locals := 67 }).room s m ([.ref q] : List Value).toArray below meth c s.heap [] 0 0 (MQ below (vp_Si (fun r => r = roomM M n nd)) ([.ref q] : List Value).toArray s 0 0 (fun _ => False)) (F0 m 10 ls []) := by
    intro k
    induction k with
    | zero =>
      intro i acc hik hacc ls hl
      have hin : i = nd := by omega
      refine lv_iload_n hx hb dX1_room_10 rfl (lv_at hl 2 rfl) ?_
      refine lv_aload_n hx hb dX1_room_11 rfl (lv_at hl 0 rfl) ?_
      refine va_get (D := D) (ci := 1) (v := .ref mo) (C := RX1) (T := TX1) (N := 15) hx hb hts inX1_room_1 hown hK.1 hP 0 rfl rfl 14 (by decide) (hts (.fieldLink RX1 3 "ChalkSlateModel$State" "this$0" "LChalkSlateModel;") (by decide +kernel)) (fun _ h9 => h9) rfl dX1_room_12 ?_
      refine va_getN (D := D) (ci := 2) (v := .int (nI nd)) (C := RX2) (T := TX2) (N := 5) hx hb hts inX1_room_2 hown hK.1 hP 10 rfl rfl 1 (by decide) (va_Nw.use rfl hK.2.2.2.2.2.2.2.2.2.2.2.2.2.2.2) (fun _ h9 => h9) rfl dX1_room_15 ?_
      refine lv_icmp_ge (tgt := 49) hx hb dX1_room_18 (by decide) (fun c1 => ?_) (fun c1 => absurd (nI_le (by omega) (by omega)) c1)
      refine lv_iload_n hx hb dX1_room_49 rfl (lv_at hl 1 rfl) ?_
      exact W.iret (v := acc) hx hb hr (fun t ht hW => ⟨acc, rfl, by rw [hacc, hin], ht⟩) (fun q hq => absurd hq List.not_mem_nil) dX1_room_50
    | succ k ih =>
      intro i acc hik hacc ls hl
      refine lv_iload_n hx hb dX1_room_10 rfl (lv_at hl 2 rfl) ?_
      refine lv_aload_n hx hb dX1_room_11 rfl (lv_at hl 0 rfl) ?_
      refine va_get (D := D) (ci := 1) (v := .ref mo) (C := RX1) (T := TX1) (N := 15) hx hb hts inX1_room_1 hown hK.1 hP 0 rfl rfl 14 (by decide) (hts (.fieldLink RX1 3 "ChalkSlateModel$State" "this$0" "LChalkSlateModel;") (by decide +kernel)) (fun _ h9 => h9) rfl dX1_room_12 ?_
      refine va_getN (D := D) (ci := 2) (v := .int (nI nd)) (C := RX2) (T := TX2) (N := 5) hx hb hts inX1_room_2 hown hK.1 hP 10 rfl rfl 1 (by decide) (va_Nw.use rfl hK.2.2.2.2.2.2.2.2.2.2.2.2.2.2.2) (fun _ h9 => h9) rfl dX1_room_15 ?_
      refine lv_icmp_ge (tgt := 49) hx hb dX1_room_18 (by decide) (fun c2 => absurd c2 (nI_ge (by omega) (by omega))) (fun c2 => ?_)
      refine lv_iload_n hx hb dX1_room_21 rfl (lv_at hl 1 rfl) ?_
      refine lv_aload_n hx hb dX1_room_22 rfl (lv_at hl 0 rfl) ?_
      refine lv_iload_n hx hb dX1_room_23 rfl (lv_at hl 2 rfl) ?_
      refine rd_V (q := (RX1, TX1, 15)) (ci := 1) (q0 := 0) (As := [.int (nI i)]) (rest := [.int acc]) ⟨hx, hb, hml, hown, hts⟩ (mX1_is l D cy q b M n dr an fi ba mo th nd fl sq tq (nI i) (by omega) (by omega) (by omega) ) (cwV 1 hts gX1_room_X1_is rfl rfl rfl (by decide +kernel) ⟨Nat.le_of_ble_eq_true rfl, Nat.le_of_ble_eq_true rfl⟩) hP hK rfl rfl rfl hl.1 rfl (Nat.le_of_ble_eq_true rfl) dX1_room_24 (Nat.zero_le _) (Nat.zero_le _) ?_
      refine lv_if_ne (tgt := 40) hx hb dX1_room_27 (by decide) (fun c3 => ?_) (fun c3 => ?_)
      · refine lv_iconst (v := 0) hx hb dX1_room_40 (by decide) ?_
        refine lv_isub hx hb dX1_room_41 ?_
        refine lv_istore_n (lv' := [(1, .int (acc - 0)), (0, .ref q), (2, .int (nI i))]) hx hb dX1_room_42 rfl hl (by decide) rfl (fun ls hl => ?_)
        refine lv_iinc (v := nI (i + 1)) (lv' := [(2, .int (nI (i + 1))), (1, .int (acc - 0)), (0, .ref q)]) hx hb dX1_room_43 hl (k := 2) rfl ((nI_succ i).symm) (by decide) rfl (fun ls hl => ?_)
        refine lv_goto (tgt := 10) hx hb dX1_room_46 (by decide) ?_
        exact ih (i + 1) (acc - 0) (by omega) (by rw [roomM, if_neg c3, ← hacc]) ls (lv_sub hl [2, 1, 0] rfl)
      · refine lv_iconst (v := 1) hx hb dX1_room_30 (by decide) ?_
        refine lv_aload_n hx hb dX1_room_31 rfl (lv_at hl 0 rfl) ?_
        refine lv_iload_n hx hb dX1_room_32 rfl (lv_at hl 2 rfl) ?_
        refine rd_V (q := (RX1, TX1, 15)) (ci := 1) (q0 := 0) (As := [.int (nI i)]) (rest := [.int 1, .int acc]) ⟨hx, hb, hml, hown, hts⟩ (mX1_kept l D cy q b M n dr an fi ba mo th nd fl sq tq (nI i) (by omega) (by omega) (by omega) ) (cwV 1 hts gX1_room_X1_kept rfl rfl rfl (by decide +kernel) ⟨Nat.le_of_ble_eq_true rfl, Nat.le_of_ble_eq_true rfl⟩) hP hK rfl rfl rfl hl.1 rfl (Nat.le_of_ble_eq_true rfl) dX1_room_33 (Nat.zero_le _) (Nat.zero_le _) ?_
        refine lv_iadd hx hb dX1_room_36 ?_
        refine lv_goto (tgt := 41) hx hb dX1_room_37 (by decide) ?_
        refine lv_isub hx hb dX1_room_41 ?_
        refine lv_istore_n (lv' := [(1, .int (acc - (1 + (keptM M n (nI i) n)))), (0, .ref q), (2, .int (nI i))]) hx hb dX1_room_42 rfl hl (by decide) rfl (fun ls hl => ?_)
        refine lv_iinc (v := nI (i + 1)) (lv' := [(2, .int (nI (i + 1))), (1, .int (acc - (1 + (keptM M n (nI i) n)))), (0, .ref q)]) hx hb dX1_room_43 hl (k := 2) rfl ((nI_succ i).symm) (by decide) rfl (fun ls hl => ?_)
        refine lv_goto (tgt := 10) hx hb dX1_room_46 (by decide) ?_
        exact ih (i + 1) (acc - (1 + (keptM M n (nI i) n))) (by omega) (by rw [roomM, if_pos c3, ← hacc]) ls (lv_sub hl [2, 1, 0] rfl)
  exact loop nd 0 (120 - (nI n)) (Nat.zero_add _) (rfl) ls (lv_sub hl [2, 1, 0] rfl)

set_option maxRecDepth 100000 in
theorem inX1_isHeld_1 : ∀ w ∈ wsX10, w ∈ wsX1_isHeld := by decide +kernel

set_option maxHeartbeats 4000000 in
set_option maxRecDepth 100000 in
theorem mX1_isHeld (l : Launch) (D : va_G) (cy : ClassId) (q : Nat) (b : Nat → Nat) (M : Nat → Nat → Int32) (n dr : Nat) (an fi ba : Int32) (mo : Nat) (th : Int32) (nd : Nat) (fl : Int32) (sq tq : Nat) (u d : Int32) (hnd : nd < 1000000) (hn : n ≤ 120) (hdr : dr < 1000000) : RdI l yX1_isHeld wsX1_isHeld 1 23 [.ref q, .int u, .int d] D cy (cSM q b cy M n dr an fi ba mo th nd fl sq tq) (heldB M n u d) := by
  refine Met.ofW (cc := cX1_isHeld) (maxL := 5) (ret := (some .boolean)) (by decide) rfl ?_
  intro p e s m args below meth c s₁ B hml hv
  obtain ⟨rfl, hP, hK⟩ := hv
  have hx := B.exec
  have hb := B.bytes
  have hr := B.returns
  have hts := atoms_spec (ws := wsX1_isHeld) B.pre
  have hown : s.vm.findClass RX1 = some m.cls := findClass_of_methodNamed B.named
  have hlocks := B.notSynchronized
  have hl := lv_entry ([.ref q, .int u, .int d]) (n := 5) (Nat.le_of_ble_eq_true rfl)
  rw [lg_entry_eq]
  generalize (lg_sl ([.ref q, .int u, .int d]) ++ List.replicate (5 - (lg_sl ([.ref q, .int u, .int d])).length) Slot.unset).toArray = ls at hl ⊢
  have hl : lv_has ls 5 [(0, .ref q), (1, .int u), (2, .int d)] := hl
  refine lv_iconst (v := 0) hx hb dX1_isHeld_0 (by decide) ?_
  refine lv_istore_n (lv' := [(3, .int 0), (0, .ref q), (1, .int u), (2, .int d)]) hx hb dX1_isHeld_1 rfl hl (by decide) rfl (fun ls hl => ?_)
  refine lv_iconst (v := 0) hx hb dX1_isHeld_2 (by decide) ?_
  refine lv_istore (lv' := [(4, .int 0), (3, .int 0), (0, .ref q), (1, .int u), (2, .int d)]) hx hb dX1_isHeld_3 hl (by decide) rfl (fun ls hl => ?_)
  have loop : ∀ (k i : Nat) (acc : Int32), i + k = n → acc = heldM M u d i → ∀ ls : Array Slot, lv_has ls 5 [(0, .ref q), (1, .int u), (2, .int d), (3, .int acc), (4, .int (nI i))] → W p l e (headSpec wsX1_isHeld { frames := 1, cells := 0, slots := 0, locals := 23 }).room s m ([.ref q, .int u, .int d] : List Value).toArray below meth c s.heap [] 0 0 (MQ below (vp_Si (fun r => r = heldB M n u d)) ([.ref q, .int u, .int d] : List Value).toArray s 0 0 (fun _ => False)) (F0 m 5 ls []) := by
    intro k
    induction k with
    | zero =>
      intro i acc hik hacc ls hl
      have hin : i = n := by omega
      refine lv_iload hx hb dX1_isHeld_5 (lv_at hl 4 rfl) ?_
      refine lv_aload_n hx hb dX1_isHeld_7 rfl (lv_at hl 0 rfl) ?_
      refine va_get (D := D) (ci := 1) (v := .int (nI n)) (C := RX1) (T := TX1) (N := 15) hx hb hts inX1_isHeld_1 hown hK.1 hP 0 rfl rfl 0 (by decide) (hts (.fieldLink RX1 49 "ChalkSlateModel$State" "lines" "I") (by decide +kernel)) (fun _ h9 => h9) rfl dX1_isHeld_8 ?_
      refine lv_icmp_ge (tgt := 61) hx hb dX1_isHeld_11 (by decide) (fun c1 => ?_) (fun c1 => absurd (nI_le (by omega) (by omega)) c1)
      refine lv_iload_n hx hb dX1_isHeld_61 rfl (lv_at hl 3 rfl) ?_
      refine lv_if_eq (tgt := 77) hx hb dX1_isHeld_62 (by decide) (fun c2 => ?_) (fun c2 => ?_)
      · refine lv_iconst (v := 0) hx hb dX1_isHeld_77 (by decide) ?_
        exact W.zret (v := 0) hx hb hr rfl (fun t ht hW => ⟨0, rfl, by rw [heldB, ← hin, ← hacc, if_pos c2], ht⟩) (fun q hq => absurd hq List.not_mem_nil) dX1_isHeld_78
      · refine lv_aload_n hx hb dX1_isHeld_65 rfl (lv_at hl 0 rfl) ?_
        refine lv_iload_n hx hb dX1_isHeld_66 rfl (lv_at hl 2 rfl) ?_
        refine rd_V (q := (RX1, TX1, 15)) (ci := 1) (q0 := 0) (As := [.int d]) (rest := []) ⟨hx, hb, hml, hown, hts⟩ (mX1_is l D cy q b M n dr an fi ba mo th nd fl sq tq d (by omega) (by omega) (by omega) ) (cwV 1 hts gX1_isHeld_X1_is rfl rfl rfl (by decide +kernel) ⟨Nat.le_of_ble_eq_true rfl, Nat.le_of_ble_eq_true rfl⟩) hP hK rfl rfl rfl hl.1 rfl (Nat.le_of_ble_eq_true rfl) dX1_isHeld_67 (Nat.zero_le _) (Nat.zero_le _) ?_
        refine lv_if_ne (tgt := 77) hx hb dX1_isHeld_70 (by decide) (fun c3 => ?_) (fun c3 => ?_)
        · refine lv_iconst (v := 0) hx hb dX1_isHeld_77 (by decide) ?_
          exact W.zret (v := 0) hx hb hr rfl (fun t ht hW => ⟨0, rfl, by rw [heldB, ← hin, ← hacc, if_neg c2, hin, if_neg c3], ht⟩) (fun q hq => absurd hq List.not_mem_nil) dX1_isHeld_78
        · refine lv_iconst (v := 1) hx hb dX1_isHeld_73 (by decide) ?_
          refine lv_goto (tgt := 78) hx hb dX1_isHeld_74 (by decide) ?_
          exact W.zret (v := 1) hx hb hr rfl (fun t ht hW => ⟨1, rfl, by rw [heldB, ← hin, ← hacc, if_neg c2, hin, if_pos c3], ht⟩) (fun q hq => absurd hq List.not_mem_nil) dX1_isHeld_78
    | succ k ih =>
      intro i acc hik hacc ls hl
      refine lv_iload hx hb dX1_isHeld_5 (lv_at hl 4 rfl) ?_
      refine lv_aload_n hx hb dX1_isHeld_7 rfl (lv_at hl 0 rfl) ?_
      refine va_get (D := D) (ci := 1) (v := .int (nI n)) (C := RX1) (T := TX1) (N := 15) hx hb hts inX1_isHeld_1 hown hK.1 hP 0 rfl rfl 0 (by decide) (hts (.fieldLink RX1 49 "ChalkSlateModel$State" "lines" "I") (by decide +kernel)) (fun _ h9 => h9) rfl dX1_isHeld_8 ?_
      refine lv_icmp_ge (tgt := 61) hx hb dX1_isHeld_11 (by decide) (fun c4 => absurd c4 (nI_ge (by omega) (by omega))) (fun c4 => ?_)
      refine lv_iload_n hx hb dX1_isHeld_14 rfl (lv_at hl 3 rfl) ?_
      refine lv_aload_n hx hb dX1_isHeld_15 rfl (lv_at hl 0 rfl) ?_
      refine va_get (D := D) (ci := 1) (v := .ref (b 4)) (C := RX1) (T := TX1) (N := 15) hx hb hts inX1_isHeld_1 hown hK.1 hP 0 rfl rfl 5 (by decide) (hts (.fieldLink RX1 25 "ChalkSlateModel$State" "dish" "[I") (by decide +kernel)) (fun _ h9 => h9) rfl dX1_isHeld_16 ?_
      refine lv_iload hx hb dX1_isHeld_19 (lv_at hl 4 rfl) ?_
      refine va_iald hx hb hK.1 hP 4 0 rfl rfl (vp_in_nI (by omega) (by omega)) dX1_isHeld_21 ?_
      rw [nI_clamp (n := i) (by omega)]
      refine lv_iload_n hx hb dX1_isHeld_22 rfl (lv_at hl 2 rfl) ?_
      refine lv_icmp_ne (tgt := 52) hx hb dX1_isHeld_23 (by decide) (fun c5 => ?_) (fun c5 => ?_)
      · refine lv_iconst (v := 0) hx hb dX1_isHeld_52 (by decide) ?_
        refine lv_ior hx hb dX1_isHeld_53 ?_
        refine lv_istore_n (lv' := [(3, .int (acc ||| 0)), (0, .ref q), (1, .int u), (2, .int d), (4, .int (nI i))]) hx hb dX1_isHeld_54 rfl hl (by decide) rfl (fun ls hl => ?_)
        refine lv_iinc (v := nI (i + 1)) (lv' := [(4, .int (nI (i + 1))), (3, .int (acc ||| 0)), (0, .ref q), (1, .int u), (2, .int d)]) hx hb dX1_isHeld_55 hl (k := 4) rfl ((nI_succ i).symm) (by decide) rfl (fun ls hl => ?_)
        refine lv_goto (tgt := 5) hx hb dX1_isHeld_58 (by decide) ?_
        exact ih (i + 1) (acc ||| 0) (by omega) (by rw [heldM, if_neg c5, ← hacc]) ls (lv_sub hl [2, 3, 4, 1, 0] rfl)
      · refine lv_aload_n hx hb dX1_isHeld_26 rfl (lv_at hl 0 rfl) ?_
        refine va_get (D := D) (ci := 1) (v := .ref (b 5)) (C := RX1) (T := TX1) (N := 15) hx hb hts inX1_isHeld_1 hown hK.1 hP 0 rfl rfl 6 (by decide) (hts (.fieldLink RX1 28 "ChalkSlateModel$State" "kind" "[I") (by decide +kernel)) (fun _ h9 => h9) rfl dX1_isHeld_27 ?_
        refine lv_iload hx hb dX1_isHeld_30 (lv_at hl 4 rfl) ?_
        refine va_iald hx hb hK.1 hP 5 0 rfl rfl (vp_in_nI (by omega) (by omega)) dX1_isHeld_32 ?_
        rw [nI_clamp (n := i) (by omega)]
        refine lv_iconst (v := 1) hx hb dX1_isHeld_33 (by decide) ?_
        refine lv_icmp_ne (tgt := 52) hx hb dX1_isHeld_34 (by decide) (fun c6 => ?_) (fun c6 => ?_)
        · refine lv_iconst (v := 0) hx hb dX1_isHeld_52 (by decide) ?_
          refine lv_ior hx hb dX1_isHeld_53 ?_
          refine lv_istore_n (lv' := [(3, .int (acc ||| 0)), (0, .ref q), (1, .int u), (2, .int d), (4, .int (nI i))]) hx hb dX1_isHeld_54 rfl hl (by decide) rfl (fun ls hl => ?_)
          refine lv_iinc (v := nI (i + 1)) (lv' := [(4, .int (nI (i + 1))), (3, .int (acc ||| 0)), (0, .ref q), (1, .int u), (2, .int d)]) hx hb dX1_isHeld_55 hl (k := 4) rfl ((nI_succ i).symm) (by decide) rfl (fun ls hl => ?_)
          refine lv_goto (tgt := 5) hx hb dX1_isHeld_58 (by decide) ?_
          exact ih (i + 1) (acc ||| 0) (by omega) (by rw [heldM, if_pos c5, if_neg c6, ← hacc]) ls (lv_sub hl [2, 3, 4, 1, 0] rfl)
        · refine lv_aload_n hx hb dX1_isHeld_37 rfl (lv_at hl 0 rfl) ?_
          refine va_get (D := D) (ci := 1) (v := .ref (b 6)) (C := RX1) (T := TX1) (N := 15) hx hb hts inX1_isHeld_1 hown hK.1 hP 0 rfl rfl 7 (by decide) (hts (.fieldLink RX1 31 "ChalkSlateModel$State" "pot" "[I") (by decide +kernel)) (fun _ h9 => h9) rfl dX1_isHeld_38 ?_
          refine lv_iload hx hb dX1_isHeld_41 (lv_at hl 4 rfl) ?_
          refine va_iald hx hb hK.1 hP 6 0 rfl rfl (vp_in_nI (by omega) (by omega)) dX1_isHeld_43 ?_
          rw [nI_clamp (n := i) (by omega)]
          refine lv_iload_n hx hb dX1_isHeld_44 rfl (lv_at hl 1 rfl) ?_
          refine lv_icmp_ne (tgt := 52) hx hb dX1_isHeld_45 (by decide) (fun c7 => ?_) (fun c7 => ?_)
          · refine lv_iconst (v := 0) hx hb dX1_isHeld_52 (by decide) ?_
            refine lv_ior hx hb dX1_isHeld_53 ?_
            refine lv_istore_n (lv' := [(3, .int (acc ||| 0)), (0, .ref q), (1, .int u), (2, .int d), (4, .int (nI i))]) hx hb dX1_isHeld_54 rfl hl (by decide) rfl (fun ls hl => ?_)
            refine lv_iinc (v := nI (i + 1)) (lv' := [(4, .int (nI (i + 1))), (3, .int (acc ||| 0)), (0, .ref q), (1, .int u), (2, .int d)]) hx hb dX1_isHeld_55 hl (k := 4) rfl ((nI_succ i).symm) (by decide) rfl (fun ls hl => ?_)
            refine lv_goto (tgt := 5) hx hb dX1_isHeld_58 (by decide) ?_
            exact ih (i + 1) (acc ||| 0) (by omega) (by rw [heldM, if_pos c5, if_pos c6, if_neg c7, ← hacc]) ls (lv_sub hl [2, 3, 4, 1, 0] rfl)
          · refine lv_iconst (v := 1) hx hb dX1_isHeld_48 (by decide) ?_
            refine lv_goto (tgt := 53) hx hb dX1_isHeld_49 (by decide) ?_
            refine lv_ior hx hb dX1_isHeld_53 ?_
            refine lv_istore_n (lv' := [(3, .int (acc ||| 1)), (0, .ref q), (1, .int u), (2, .int d), (4, .int (nI i))]) hx hb dX1_isHeld_54 rfl hl (by decide) rfl (fun ls hl => ?_)
            refine lv_iinc (v := nI (i + 1)) (lv' := [(4, .int (nI (i + 1))), (3, .int (acc ||| 1)), (0, .ref q), (1, .int u), (2, .int d)]) hx hb dX1_isHeld_55 hl (k := 4) rfl ((nI_succ i).symm) (by decide) rfl (fun ls hl => ?_)
            refine lv_goto (tgt := 5) hx hb dX1_isHeld_58 (by decide) ?_
            exact ih (i + 1) (acc ||| 1) (by omega) (by rw [heldM, if_pos c5, if_pos c6, if_pos c7, ← hacc]) ls (lv_sub hl [2, 3, 4, 1, 0] rfl)
  exact loop n 0 0 (Nat.zero_add _) (rfl) ls (lv_sub hl [2, 3, 4, 1, 0] rfl)

set_option maxRecDepth 100000 in
theorem inX1_holder_1 : ∀ w ∈ wsX10, w ∈ wsX1_holder := by decide +kernel

set_option maxRecDepth 100000 in
theorem inX1_holder_2 : ∀ w ∈ wsX20, w ∈ wsX1_holder := by decide +kernel

set_option maxHeartbeats 4000000 in
set_option maxRecDepth 100000 in
theorem mX1_holder (l : Launch) (D : va_G) (cy : ClassId) (q : Nat) (b : Nat → Nat) (M : Nat → Nat → Int32) (n dr : Nat) (an fi ba : Int32) (mo : Nat) (th : Int32) (nd : Nat) (fl : Int32) (sq tq : Nat) (u : Int32) (hnd : nd < 1000000) (hn : n ≤ 120) (hdr : dr < 1000000) : RdI l yX1_holder wsX1_holder 2 47 [.ref q, .int u] D cy (cSM q b cy M n dr an fi ba mo th nd fl sq tq) (holderM M n u nd 0) := by
  refine Met.ofW (cc := cX1_holder) (maxL := 3) (ret := (some .int)) (by decide) rfl ?_
  intro p e s m args below meth c s₁ B hml hv
  obtain ⟨rfl, hP, hK⟩ := hv
  have hx := B.exec
  have hb := B.bytes
  have hr := B.returns
  have hts := atoms_spec (ws := wsX1_holder) B.pre
  have hown : s.vm.findClass RX1 = some m.cls := findClass_of_methodNamed B.named
  have hlocks := B.notSynchronized
  have hl := lv_entry ([.ref q, .int u]) (n := 3) (Nat.le_of_ble_eq_true rfl)
  rw [lg_entry_eq]
  generalize (lg_sl ([.ref q, .int u]) ++ List.replicate (3 - (lg_sl ([.ref q, .int u])).length) Slot.unset).toArray = ls at hl ⊢
  have hl : lv_has ls 3 [(0, .ref q), (1, .int u)] := hl
  refine lv_iconst (v := 0) hx hb dX1_holder_0 (by decide) ?_
  refine lv_istore_n (lv' := [(2, .int 0), (0, .ref q), (1, .int u)]) hx hb dX1_holder_1 rfl hl (by decide) rfl (fun ls hl => ?_)
  have loop : ∀ (k i : Nat), i + k = nd → holderM M n u nd 0 = holderM M n u k i → ∀ ls : Array Slot, lv_has ls 3 [(0, .ref q), (1, .int u), (2, .int (nI i))] → W p l e (headSpec wsX1_holder { frames := 2, cells := 0, slots := 0, locals := 47 }).room s m ([.ref q, .int u] : List Value).toArray below meth c s.heap [] 0 0 (MQ below (vp_Si (fun r => r = holderM M n u nd 0)) ([.ref q, .int u] : List Value).toArray s 0 0 (fun _ => False)) (F0 m 2 ls []) := by
    intro k
    induction k with
    | zero =>
      intro i hik hrel ls hl
      have hin : i = nd := by omega
      refine lv_iload_n hx hb dX1_holder_2 rfl (lv_at hl 2 rfl) ?_
      refine lv_aload_n hx hb dX1_holder_3 rfl (lv_at hl 0 rfl) ?_
      refine va_get (D := D) (ci := 1) (v := .ref mo) (C := RX1) (T := TX1) (N := 15) hx hb hts inX1_holder_1 hown hK.1 hP 0 rfl rfl 14 (by decide) (hts (.fieldLink RX1 3 "ChalkSlateModel$State" "this$0" "LChalkSlateModel;") (by decide +kernel)) (fun _ h9 => h9) rfl dX1_holder_4 ?_
      refine va_getN (D := D) (ci := 2) (v := .int (nI nd)) (C := RX2) (T := TX2) (N := 5) hx hb hts inX1_holder_2 hown hK.1 hP 10 rfl rfl 1 (by decide) (va_Nw.use rfl hK.2.2.2.2.2.2.2.2.2.2.2.2.2.2.2) (fun _ h9 => h9) rfl dX1_holder_7 ?_
      refine lv_icmp_ge (tgt := 30) hx hb dX1_holder_10 (by decide) (fun c1 => ?_) (fun c1 => absurd (nI_le (by omega) (by omega)) c1)
      refine lv_iconst (v := (-1)) hx hb dX1_holder_30 (by decide) ?_
      exact W.iret (v := (-1)) hx hb hr (fun t ht hW => ⟨(-1), rfl, by rw [hrel, holderM], ht⟩) (fun q hq => absurd hq List.not_mem_nil) dX1_holder_31
    | succ k ih =>
      intro i hik hrel ls hl
      refine lv_iload_n hx hb dX1_holder_2 rfl (lv_at hl 2 rfl) ?_
      refine lv_aload_n hx hb dX1_holder_3 rfl (lv_at hl 0 rfl) ?_
      refine va_get (D := D) (ci := 1) (v := .ref mo) (C := RX1) (T := TX1) (N := 15) hx hb hts inX1_holder_1 hown hK.1 hP 0 rfl rfl 14 (by decide) (hts (.fieldLink RX1 3 "ChalkSlateModel$State" "this$0" "LChalkSlateModel;") (by decide +kernel)) (fun _ h9 => h9) rfl dX1_holder_4 ?_
      refine va_getN (D := D) (ci := 2) (v := .int (nI nd)) (C := RX2) (T := TX2) (N := 5) hx hb hts inX1_holder_2 hown hK.1 hP 10 rfl rfl 1 (by decide) (va_Nw.use rfl hK.2.2.2.2.2.2.2.2.2.2.2.2.2.2.2) (fun _ h9 => h9) rfl dX1_holder_7 ?_
      refine lv_icmp_ge (tgt := 30) hx hb dX1_holder_10 (by decide) (fun c2 => absurd c2 (nI_ge (by omega) (by omega))) (fun c2 => ?_)
      refine lv_aload_n hx hb dX1_holder_13 rfl (lv_at hl 0 rfl) ?_
      refine lv_iload_n hx hb dX1_holder_14 rfl (lv_at hl 1 rfl) ?_
      refine lv_iload_n hx hb dX1_holder_15 rfl (lv_at hl 2 rfl) ?_
      refine rd_V (q := (RX1, TX1, 15)) (ci := 1) (q0 := 0) (As := [.int u, .int (nI i)]) (rest := []) ⟨hx, hb, hml, hown, hts⟩ (mX1_isHeld l D cy q b M n dr an fi ba mo th nd fl sq tq u (nI i) (by omega) (by omega) (by omega) ) (cwV 2 hts gX1_holder_X1_isHeld rfl rfl rfl (by decide +kernel) ⟨Nat.le_of_ble_eq_true rfl, Nat.le_of_ble_eq_true rfl⟩) hP hK rfl rfl rfl hl.1 rfl (Nat.le_of_ble_eq_true rfl) dX1_holder_16 (Nat.zero_le _) (Nat.zero_le _) ?_
      refine lv_if_eq (tgt := 24) hx hb dX1_holder_19 (by decide) (fun c3 => ?_) (fun c3 => ?_)
      · refine lv_iinc (v := nI (i + 1)) (lv' := [(2, .int (nI (i + 1))), (0, .ref q), (1, .int u)]) hx hb dX1_holder_24 hl (k := 2) rfl ((nI_succ i).symm) (by decide) rfl (fun ls hl => ?_)
        refine lv_goto (tgt := 2) hx hb dX1_holder_27 (by decide) ?_
        exact ih (i + 1) (by omega) (by rw [hrel, holderM, if_pos c3]) ls (lv_sub hl [1, 2, 0] rfl)
      · refine lv_iload_n hx hb dX1_holder_22 rfl (lv_at hl 2 rfl) ?_
        exact W.iret (v := nI i) hx hb hr (fun t ht hW => ⟨(nI i), rfl, by rw [hrel, holderM, if_neg c3], ht⟩) (fun q hq => absurd hq List.not_mem_nil) dX1_holder_23
  exact loop nd 0 (Nat.zero_add _) (rfl) ls (lv_sub hl [1, 2, 0] rfl)

set_option maxRecDepth 100000 in
theorem inX1_latest_1 : ∀ w ∈ wsX10, w ∈ wsX1_latest := by decide +kernel

set_option maxHeartbeats 4000000 in
set_option maxRecDepth 100000 in
theorem mX1_latest (l : Launch) (D : va_G) (cy : ClassId) (q : Nat) (b : Nat → Nat) (M : Nat → Nat → Int32) (n dr : Nat) (an fi ba : Int32) (mo : Nat) (th : Int32) (nd : Nat) (fl : Int32) (sq tq : Nat) (u : Int32) (hnd : nd < 1000000) (hn : n ≤ 120) (hdr : dr < 1000000) : RdI l yX1_latest wsX1_latest 0 0 [.ref q, .int u] D cy (cSM q b cy M n dr an fi ba mo th nd fl sq tq) (latestM M u n) := by
  refine Met.ofW (cc := cX1_latest) (maxL := 4) (ret := (some .int)) (by decide) rfl ?_
  intro p e s m args below meth c s₁ B hml hv
  obtain ⟨rfl, hP, hK⟩ := hv
  have hx := B.exec
  have hb := B.bytes
  have hr := B.returns
  have hts := atoms_spec (ws := wsX1_latest) B.pre
  have hown : s.vm.findClass RX1 = some m.cls := findClass_of_methodNamed B.named
  have hlocks := B.notSynchronized
  have hl := lv_entry ([.ref q, .int u]) (n := 4) (Nat.le_of_ble_eq_true rfl)
  rw [lg_entry_eq]
  generalize (lg_sl ([.ref q, .int u]) ++ List.replicate (4 - (lg_sl ([.ref q, .int u])).length) Slot.unset).toArray = ls at hl ⊢
  have hl : lv_has ls 4 [(0, .ref q), (1, .int u)] := hl
  refine lv_iconst (v := (-1)) hx hb dX1_latest_0 (by decide) ?_
  refine lv_istore_n (lv' := [(2, .int (-1)), (0, .ref q), (1, .int u)]) hx hb dX1_latest_1 rfl hl (by decide) rfl (fun ls hl => ?_)
  refine lv_iconst (v := 0) hx hb dX1_latest_2 (by decide) ?_
  refine lv_istore_n (lv' := [(3, .int 0), (2, .int (-1)), (0, .ref q), (1, .int u)]) hx hb dX1_latest_3 rfl hl (by decide) rfl (fun ls hl => ?_)
  have loop : ∀ (k i : Nat) (acc : Int32), i + k = n → acc = latestM M u i → ∀ ls : Array Slot, lv_has ls 4 [(0, .ref q), (1, .int u), (2, .int acc), (3, .int (nI i))] → W p l e (headSpec wsX1_latest { frames := 0, cells := 0, slots := 0, locals := 0 }).room s m ([.ref q, .int u] : List Value).toArray below meth c s.heap [] 0 0 (MQ below (vp_Si (fun r => r = latestM M u n)) ([.ref q, .int u] : List Value).toArray s 0 0 (fun _ => False)) (F0 m 4 ls []) := by
    intro k
    induction k with
    | zero =>
      intro i acc hik hacc ls hl
      have hin : i = n := by omega
      refine lv_iload_n hx hb dX1_latest_4 rfl (lv_at hl 3 rfl) ?_
      refine lv_aload_n hx hb dX1_latest_5 rfl (lv_at hl 0 rfl) ?_
      refine va_get (D := D) (ci := 1) (v := .int (nI n)) (C := RX1) (T := TX1) (N := 15) hx hb hts inX1_latest_1 hown hK.1 hP 0 rfl rfl 0 (by decide) (hts (.fieldLink RX1 49 "ChalkSlateModel$State" "lines" "I") (by decide +kernel)) (fun _ h9 => h9) rfl dX1_latest_6 ?_
      refine lv_icmp_ge (tgt := 30) hx hb dX1_latest_9 (by decide) (fun c1 => ?_) (fun c1 => absurd (nI_le (by omega) (by omega)) c1)
      refine lv_iload_n hx hb dX1_latest_30 rfl (lv_at hl 2 rfl) ?_
      exact W.iret (v := acc) hx hb hr (fun t ht hW => ⟨acc, rfl, by rw [hacc, hin], ht⟩) (fun q hq => absurd hq List.not_mem_nil) dX1_latest_31
    | succ k ih =>
      intro i acc hik hacc ls hl
      refine lv_iload_n hx hb dX1_latest_4 rfl (lv_at hl 3 rfl) ?_
      refine lv_aload_n hx hb dX1_latest_5 rfl (lv_at hl 0 rfl) ?_
      refine va_get (D := D) (ci := 1) (v := .int (nI n)) (C := RX1) (T := TX1) (N := 15) hx hb hts inX1_latest_1 hown hK.1 hP 0 rfl rfl 0 (by decide) (hts (.fieldLink RX1 49 "ChalkSlateModel$State" "lines" "I") (by decide +kernel)) (fun _ h9 => h9) rfl dX1_latest_6 ?_
      refine lv_icmp_ge (tgt := 30) hx hb dX1_latest_9 (by decide) (fun c2 => absurd c2 (nI_ge (by omega) (by omega))) (fun c2 => ?_)
      refine lv_aload_n hx hb dX1_latest_12 rfl (lv_at hl 0 rfl) ?_
      refine va_get (D := D) (ci := 1) (v := .ref (b 6)) (C := RX1) (T := TX1) (N := 15) hx hb hts inX1_latest_1 hown hK.1 hP 0 rfl rfl 7 (by decide) (hts (.fieldLink RX1 31 "ChalkSlateModel$State" "pot" "[I") (by decide +kernel)) (fun _ h9 => h9) rfl dX1_latest_13 ?_
      refine lv_iload_n hx hb dX1_latest_16 rfl (lv_at hl 3 rfl) ?_
      refine va_iald hx hb hK.1 hP 6 0 rfl rfl (vp_in_nI (by omega) (by omega)) dX1_latest_17 ?_
      rw [nI_clamp (n := i) (by omega)]
      refine lv_iload_n hx hb dX1_latest_18 rfl (lv_at hl 1 rfl) ?_
      refine lv_icmp_ne (tgt := 24) hx hb dX1_latest_19 (by decide) (fun c3 => ?_) (fun c3 => ?_)
      · refine lv_iinc (v := nI (i + 1)) (lv' := [(3, .int (nI (i + 1))), (0, .ref q), (1, .int u), (2, .int acc)]) hx hb dX1_latest_24 hl (k := 3) rfl ((nI_succ i).symm) (by decide) rfl (fun ls hl => ?_)
        refine lv_goto (tgt := 4) hx hb dX1_latest_27 (by decide) ?_
        exact ih (i + 1) acc (by omega) (by rw [latestM, if_neg c3, ← hacc]) ls (lv_sub hl [1, 2, 3, 0] rfl)
      · refine lv_iload_n hx hb dX1_latest_22 rfl (lv_at hl 3 rfl) ?_
        refine lv_istore_n (lv' := [(2, .int (nI i)), (0, .ref q), (1, .int u), (3, .int (nI i))]) hx hb dX1_latest_23 rfl hl (by decide) rfl (fun ls hl => ?_)
        refine lv_iinc (v := nI (i + 1)) (lv' := [(3, .int (nI (i + 1))), (2, .int (nI i)), (0, .ref q), (1, .int u)]) hx hb dX1_latest_24 hl (k := 3) rfl ((nI_succ i).symm) (by decide) rfl (fun ls hl => ?_)
        refine lv_goto (tgt := 4) hx hb dX1_latest_27 (by decide) ?_
        exact ih (i + 1) (nI i) (by omega) (by rw [latestM, if_pos c3]) ls (lv_sub hl [2, 3, 1, 0] rfl)
  exact loop n 0 (-1) (Nat.zero_add _) (rfl) ls (lv_sub hl [2, 3, 1, 0] rfl)

set_option maxRecDepth 100000 in
theorem inX1_are_1 : ∀ w ∈ wsX10, w ∈ wsX1_are := by decide +kernel

set_option maxRecDepth 100000 in
theorem inX1_are_2 : ∀ w ∈ wsX20, w ∈ wsX1_are := by decide +kernel

set_option maxHeartbeats 4000000 in
set_option maxRecDepth 100000 in
theorem mX1_are (l : Launch) (D : va_G) (cy : ClassId) (q : Nat) (b : Nat → Nat) (M : Nat → Nat → Int32) (n dr : Nat) (an fi ba : Int32) (mo : Nat) (th : Int32) (nd : Nat) (fl : Int32) (sq tq : Nat) (u : Int32) (hnd : nd < 1000000) (hn : n ≤ 120) (hdr : dr < 1000000) : RdI l yX1_are wsX1_are 1 23 [.ref q, .int u] D cy (cSM q b cy M n dr an fi ba mo th nd fl sq tq) (areM M n u nd) := by
  refine Met.ofW (cc := cX1_are) (maxL := 4) (ret := (some .int)) (by decide) rfl ?_
  intro p e s m args below meth c s₁ B hml hv
  obtain ⟨rfl, hP, hK⟩ := hv
  have hx := B.exec
  have hb := B.bytes
  have hr := B.returns
  have hts := atoms_spec (ws := wsX1_are) B.pre
  have hown : s.vm.findClass RX1 = some m.cls := findClass_of_methodNamed B.named
  have hlocks := B.notSynchronized
  have hl := lv_entry ([.ref q, .int u]) (n := 4) (Nat.le_of_ble_eq_true rfl)
  rw [lg_entry_eq]
  generalize (lg_sl ([.ref q, .int u]) ++ List.replicate (4 - (lg_sl ([.ref q, .int u])).length) Slot.unset).toArray = ls at hl ⊢
  have hl : lv_has ls 4 [(0, .ref q), (1, .int u)] := hl
  refine lv_iconst (v := 0) hx hb dX1_are_0 (by decide) ?_
  refine lv_istore_n (lv' := [(2, .int 0), (0, .ref q), (1, .int u)]) hx hb dX1_are_1 rfl hl (by decide) rfl (fun ls hl => ?_)
  refine lv_iconst (v := 0) hx hb dX1_are_2 (by decide) ?_
  refine lv_istore_n (lv' := [(3, .int 0), (2, .int 0), (0, .ref q), (1, .int u)]) hx hb dX1_are_3 rfl hl (by decide) rfl (fun ls hl => ?_)
  have loop : ∀ (k i : Nat) (acc : Int32), i + k = nd → acc = areM M n u i → ∀ ls : Array Slot, lv_has ls 4 [(0, .ref q), (1, .int u), (2, .int acc), (3, .int (nI i))] → W p l e (headSpec wsX1_are { frames := 1, cells := 0, slots := 0, locals := 23 }).room s m ([.ref q, .int u] : List Value).toArray below meth c s.heap [] 0 0 (MQ below (vp_Si (fun r => r = areM M n u nd)) ([.ref q, .int u] : List Value).toArray s 0 0 (fun _ => False)) (F0 m 4 ls []) := by
    intro k
    induction k with
    | zero =>
      intro i acc hik hacc ls hl
      have hin : i = nd := by omega
      refine lv_iload_n hx hb dX1_are_4 rfl (lv_at hl 3 rfl) ?_
      refine lv_aload_n hx hb dX1_are_5 rfl (lv_at hl 0 rfl) ?_
      refine va_get (D := D) (ci := 1) (v := .ref mo) (C := RX1) (T := TX1) (N := 15) hx hb hts inX1_are_1 hown hK.1 hP 0 rfl rfl 14 (by decide) (hts (.fieldLink RX1 3 "ChalkSlateModel$State" "this$0" "LChalkSlateModel;") (by decide +kernel)) (fun _ h9 => h9) rfl dX1_are_6 ?_
      refine va_getN (D := D) (ci := 2) (v := .int (nI nd)) (C := RX2) (T := TX2) (N := 5) hx hb hts inX1_are_2 hown hK.1 hP 10 rfl rfl 1 (by decide) (va_Nw.use rfl hK.2.2.2.2.2.2.2.2.2.2.2.2.2.2.2) (fun _ h9 => h9) rfl dX1_are_9 ?_
      refine lv_icmp_ge (tgt := 38) hx hb dX1_are_12 (by decide) (fun c1 => ?_) (fun c1 => absurd (nI_le (by omega) (by omega)) c1)
      refine lv_iload_n hx hb dX1_are_38 rfl (lv_at hl 2 rfl) ?_
      exact W.iret (v := acc) hx hb hr (fun t ht hW => ⟨acc, rfl, by rw [hacc, hin], ht⟩) (fun q hq => absurd hq List.not_mem_nil) dX1_are_39
    | succ k ih =>
      intro i acc hik hacc ls hl
      refine lv_iload_n hx hb dX1_are_4 rfl (lv_at hl 3 rfl) ?_
      refine lv_aload_n hx hb dX1_are_5 rfl (lv_at hl 0 rfl) ?_
      refine va_get (D := D) (ci := 1) (v := .ref mo) (C := RX1) (T := TX1) (N := 15) hx hb hts inX1_are_1 hown hK.1 hP 0 rfl rfl 14 (by decide) (hts (.fieldLink RX1 3 "ChalkSlateModel$State" "this$0" "LChalkSlateModel;") (by decide +kernel)) (fun _ h9 => h9) rfl dX1_are_6 ?_
      refine va_getN (D := D) (ci := 2) (v := .int (nI nd)) (C := RX2) (T := TX2) (N := 5) hx hb hts inX1_are_2 hown hK.1 hP 10 rfl rfl 1 (by decide) (va_Nw.use rfl hK.2.2.2.2.2.2.2.2.2.2.2.2.2.2.2) (fun _ h9 => h9) rfl dX1_are_9 ?_
      refine lv_icmp_ge (tgt := 38) hx hb dX1_are_12 (by decide) (fun c2 => absurd c2 (nI_ge (by omega) (by omega))) (fun c2 => ?_)
      refine lv_iload_n hx hb dX1_are_15 rfl (lv_at hl 2 rfl) ?_
      refine lv_aload_n hx hb dX1_are_16 rfl (lv_at hl 0 rfl) ?_
      refine lv_iload_n hx hb dX1_are_17 rfl (lv_at hl 3 rfl) ?_
      refine rd_V (q := (RX1, TX1, 15)) (ci := 1) (q0 := 0) (As := [.int (nI i)]) (rest := [.int acc]) ⟨hx, hb, hml, hown, hts⟩ (mX1_is l D cy q b M n dr an fi ba mo th nd fl sq tq (nI i) (by omega) (by omega) (by omega) ) (cwV 1 hts gX1_are_X1_is rfl rfl rfl (by decide +kernel) ⟨Nat.le_of_ble_eq_true rfl, Nat.le_of_ble_eq_true rfl⟩) hP hK rfl rfl rfl hl.1 rfl (Nat.le_of_ble_eq_true rfl) dX1_are_18 (Nat.zero_le _) (Nat.zero_le _) ?_
      refine lv_iload_n hx hb dX1_are_21 rfl (lv_at hl 1 rfl) ?_
      refine lv_icmp_ne (tgt := 29) hx hb dX1_are_22 (by decide) (fun c3 => ?_) (fun c3 => ?_)
      · refine lv_iconst (v := 0) hx hb dX1_are_29 (by decide) ?_
        refine lv_iadd hx hb dX1_are_30 ?_
        refine lv_istore_n (lv' := [(2, .int (acc + 0)), (0, .ref q), (1, .int u), (3, .int (nI i))]) hx hb dX1_are_31 rfl hl (by decide) rfl (fun ls hl => ?_)
        refine lv_iinc (v := nI (i + 1)) (lv' := [(3, .int (nI (i + 1))), (2, .int (acc + 0)), (0, .ref q), (1, .int u)]) hx hb dX1_are_32 hl (k := 3) rfl ((nI_succ i).symm) (by decide) rfl (fun ls hl => ?_)
        refine lv_goto (tgt := 4) hx hb dX1_are_35 (by decide) ?_
        exact ih (i + 1) (acc + 0) (by omega) (by rw [areM, if_neg c3, ← hacc]) ls (lv_sub hl [2, 3, 1, 0] rfl)
      · refine lv_iconst (v := 1) hx hb dX1_are_25 (by decide) ?_
        refine lv_goto (tgt := 30) hx hb dX1_are_26 (by decide) ?_
        refine lv_iadd hx hb dX1_are_30 ?_
        refine lv_istore_n (lv' := [(2, .int (acc + 1)), (0, .ref q), (1, .int u), (3, .int (nI i))]) hx hb dX1_are_31 rfl hl (by decide) rfl (fun ls hl => ?_)
        refine lv_iinc (v := nI (i + 1)) (lv' := [(3, .int (nI (i + 1))), (2, .int (acc + 1)), (0, .ref q), (1, .int u)]) hx hb dX1_are_32 hl (k := 3) rfl ((nI_succ i).symm) (by decide) rfl (fun ls hl => ?_)
        refine lv_goto (tgt := 4) hx hb dX1_are_35 (by decide) ?_
        exact ih (i + 1) (acc + 1) (by omega) (by rw [areM, if_pos c3, ← hacc]) ls (lv_sub hl [2, 3, 1, 0] rfl)
  exact loop nd 0 0 (Nat.zero_add _) (rfl) ls (lv_sub hl [2, 3, 1, 0] rfl)

set_option maxHeartbeats 4000000 in
set_option maxRecDepth 100000 in
theorem mX1_sum0 (l : Launch) (D : va_G) (cy : ClassId) (q : Nat) (b : Nat → Nat) (M : Nat → Nat → Int32) (n dr : Nat) (an fi ba : Int32) (mo : Nat) (th : Int32) (nd : Nat) (fl : Int32) (sq tq : Nat)  (hnd : nd < 1000000) (hn : n ≤ 120) (hdr : dr < 1000000) : RdI l yX1_sum wsX1_sum 0 0 [.ref q, .ref (b 0)] D cy (cSM q b cy M n dr an fi ba mo th nd fl sq tq) (sumS (M 0) 8) := by
  refine Met.ofW (cc := cX1_sum) (maxL := 7) (ret := (some .int)) (by decide) rfl ?_
  intro p e s m args below meth c s₁ B hml hv
  obtain ⟨rfl, hP, hK⟩ := hv
  have hx := B.exec
  have hb := B.bytes
  have hr := B.returns
  have hts := atoms_spec (ws := wsX1_sum) B.pre
  have hown : s.vm.findClass RX1 = some m.cls := findClass_of_methodNamed B.named
  have hlocks := B.notSynchronized
  have hl := lv_entry ([.ref q, .ref (b 0)]) (n := 7) (Nat.le_of_ble_eq_true rfl)
  rw [lg_entry_eq]
  generalize (lg_sl ([.ref q, .ref (b 0)]) ++ List.replicate (7 - (lg_sl ([.ref q, .ref (b 0)])).length) Slot.unset).toArray = ls at hl ⊢
  have hl : lv_has ls 7 [(0, .ref q), (1, .ref (b 0))] := hl
  refine lv_iconst (v := 0) hx hb dX1_sum_0 (by decide) ?_
  refine lv_istore_n (lv' := [(2, .int 0), (0, .ref q), (1, .ref (b 0))]) hx hb dX1_sum_1 rfl hl (by decide) rfl (fun ls hl => ?_)
  refine lv_aload_n hx hb dX1_sum_2 rfl (lv_at hl 2 rfl) ?_
  refine lv_astore_n (lv' := [(3, .ref (b 0)), (2, .int 0), (0, .ref q), (1, .ref (b 0))]) hx hb dX1_sum_3 rfl hl (by decide) rfl (fun ls hl => ?_)
  refine lv_aload_n hx hb dX1_sum_4 rfl (lv_at hl 0 rfl) ?_
  refine va_alen hx hb hK.1 hP 1 0 rfl rfl (v := nI 8) rfl dX1_sum_5 ?_
  refine lv_istore (lv' := [(4, .int (nI 8)), (3, .ref (b 0)), (2, .int 0), (0, .ref q), (1, .ref (b 0))]) hx hb dX1_sum_6 hl (by decide) rfl (fun ls hl => ?_)
  refine lv_iconst (v := 0) hx hb dX1_sum_8 (by decide) ?_
  refine lv_istore (lv' := [(5, .int 0), (4, .int (nI 8)), (3, .ref (b 0)), (2, .int 0), (0, .ref q), (1, .ref (b 0))]) hx hb dX1_sum_9 hl (by decide) rfl (fun ls hl => ?_)
  have loop : ∀ (k i : Nat) (acc : Int32), i + k = 8 → acc = sumS (M 0) i → ∀ ls : Array Slot, lv_has ls 7 [(0, .ref q), (1, .ref (b 0)), (2, .int acc), (3, .ref (b 0)), (4, .int (nI 8)), (5, .int (nI i))] → W p l e (headSpec wsX1_sum { frames := 0, cells := 0, slots := 0, locals := 0 }).room s m ([.ref q, .ref (b 0)] : List Value).toArray below meth c s.heap [] 0 0 (MQ below (vp_Si (fun r => r = sumS (M 0) 8)) ([.ref q, .ref (b 0)] : List Value).toArray s 0 0 (fun _ => False)) (F0 m 11 ls []) := by
    intro k
    induction k with
    | zero =>
      intro i acc hik hacc ls hl
      have hin : i = 8 := by omega
      refine lv_iload hx hb dX1_sum_11 (lv_at hl 5 rfl) ?_
      refine lv_iload hx hb dX1_sum_13 (lv_at hl 4 rfl) ?_
      refine lv_icmp_ge (tgt := 35) hx hb dX1_sum_15 (by decide) (fun c1 => ?_) (fun c1 => absurd (nI_le (a := 8) (by omega) (by omega)) c1)
      refine lv_iload_n hx hb dX1_sum_35 rfl (lv_at hl 2 rfl) ?_
      exact W.iret (v := acc) hx hb hr (fun t ht hW => ⟨acc, rfl, by rw [hacc, hin], ht⟩) (fun q hq => absurd hq List.not_mem_nil) dX1_sum_36
    | succ k ih =>
      intro i acc hik hacc ls hl
      refine lv_iload hx hb dX1_sum_11 (lv_at hl 5 rfl) ?_
      refine lv_iload hx hb dX1_sum_13 (lv_at hl 4 rfl) ?_
      refine lv_icmp_ge (tgt := 35) hx hb dX1_sum_15 (by decide) (fun c2 => absurd c2 (nI_ge (b := 8) (by omega) (by omega))) (fun c2 => ?_)
      refine lv_aload_n hx hb dX1_sum_18 rfl (lv_at hl 3 rfl) ?_
      refine lv_iload hx hb dX1_sum_19 (lv_at hl 5 rfl) ?_
      refine va_iald hx hb hK.1 hP 1 0 rfl rfl (vp_in_nI (by omega) (by omega)) dX1_sum_21 ?_
      rw [nI_clamp (n := i) (by omega)]
      refine lv_istore (lv' := [(6, .int ((M 0) i)), (0, .ref q), (1, .ref (b 0)), (2, .int acc), (3, .ref (b 0)), (4, .int (nI 8)), (5, .int (nI i))]) hx hb dX1_sum_22 hl (by decide) rfl (fun ls hl => ?_)
      refine lv_iload_n hx hb dX1_sum_24 rfl (lv_at hl 3 rfl) ?_
      refine lv_iload hx hb dX1_sum_25 (lv_at hl 0 rfl) ?_
      refine lv_iadd hx hb dX1_sum_27 ?_
      refine lv_istore_n (lv' := [(2, .int (acc + ((M 0) i))), (6, .int ((M 0) i)), (0, .ref q), (1, .ref (b 0)), (3, .ref (b 0)), (4, .int (nI 8)), (5, .int (nI i))]) hx hb dX1_sum_28 rfl hl (by decide) rfl (fun ls hl => ?_)
      refine lv_iinc (v := nI (i + 1)) (lv' := [(5, .int (nI (i + 1))), (2, .int (acc + ((M 0) i))), (6, .int ((M 0) i)), (0, .ref q), (1, .ref (b 0)), (3, .ref (b 0)), (4, .int (nI 8))]) hx hb dX1_sum_29 hl (k := 6) rfl ((nI_succ i).symm) (by decide) rfl (fun ls hl => ?_)
      refine lv_goto (tgt := 11) hx hb dX1_sum_32 (by decide) ?_
      exact ih (i + 1) (acc + ((M 0) i)) (by omega) (by rw [sumS, ← hacc]) ls (lv_sub hl [3, 4, 1, 5, 6, 0] rfl)
  exact loop 8 0 0 (Nat.zero_add _) (rfl) ls (lv_sub hl [4, 5, 3, 2, 1, 0] rfl)

set_option maxHeartbeats 4000000 in
set_option maxRecDepth 100000 in
theorem mX1_sum1 (l : Launch) (D : va_G) (cy : ClassId) (q : Nat) (b : Nat → Nat) (M : Nat → Nat → Int32) (n dr : Nat) (an fi ba : Int32) (mo : Nat) (th : Int32) (nd : Nat) (fl : Int32) (sq tq : Nat)  (hnd : nd < 1000000) (hn : n ≤ 120) (hdr : dr < 1000000) : RdI l yX1_sum wsX1_sum 0 0 [.ref q, .ref (b 1)] D cy (cSM q b cy M n dr an fi ba mo th nd fl sq tq) (sumS (M 1) 8) := by
  refine Met.ofW (cc := cX1_sum) (maxL := 7) (ret := (some .int)) (by decide) rfl ?_
  intro p e s m args below meth c s₁ B hml hv
  obtain ⟨rfl, hP, hK⟩ := hv
  have hx := B.exec
  have hb := B.bytes
  have hr := B.returns
  have hts := atoms_spec (ws := wsX1_sum) B.pre
  have hown : s.vm.findClass RX1 = some m.cls := findClass_of_methodNamed B.named
  have hlocks := B.notSynchronized
  have hl := lv_entry ([.ref q, .ref (b 1)]) (n := 7) (Nat.le_of_ble_eq_true rfl)
  rw [lg_entry_eq]
  generalize (lg_sl ([.ref q, .ref (b 1)]) ++ List.replicate (7 - (lg_sl ([.ref q, .ref (b 1)])).length) Slot.unset).toArray = ls at hl ⊢
  have hl : lv_has ls 7 [(0, .ref q), (1, .ref (b 1))] := hl
  refine lv_iconst (v := 0) hx hb dX1_sum_0 (by decide) ?_
  refine lv_istore_n (lv' := [(2, .int 0), (0, .ref q), (1, .ref (b 1))]) hx hb dX1_sum_1 rfl hl (by decide) rfl (fun ls hl => ?_)
  refine lv_aload_n hx hb dX1_sum_2 rfl (lv_at hl 2 rfl) ?_
  refine lv_astore_n (lv' := [(3, .ref (b 1)), (2, .int 0), (0, .ref q), (1, .ref (b 1))]) hx hb dX1_sum_3 rfl hl (by decide) rfl (fun ls hl => ?_)
  refine lv_aload_n hx hb dX1_sum_4 rfl (lv_at hl 0 rfl) ?_
  refine va_alen hx hb hK.1 hP 2 0 rfl rfl (v := nI 8) rfl dX1_sum_5 ?_
  refine lv_istore (lv' := [(4, .int (nI 8)), (3, .ref (b 1)), (2, .int 0), (0, .ref q), (1, .ref (b 1))]) hx hb dX1_sum_6 hl (by decide) rfl (fun ls hl => ?_)
  refine lv_iconst (v := 0) hx hb dX1_sum_8 (by decide) ?_
  refine lv_istore (lv' := [(5, .int 0), (4, .int (nI 8)), (3, .ref (b 1)), (2, .int 0), (0, .ref q), (1, .ref (b 1))]) hx hb dX1_sum_9 hl (by decide) rfl (fun ls hl => ?_)
  have loop : ∀ (k i : Nat) (acc : Int32), i + k = 8 → acc = sumS (M 1) i → ∀ ls : Array Slot, lv_has ls 7 [(0, .ref q), (1, .ref (b 1)), (2, .int acc), (3, .ref (b 1)), (4, .int (nI 8)), (5, .int (nI i))] → W p l e (headSpec wsX1_sum { frames := 0, cells := 0, slots := 0, locals := 0 }).room s m ([.ref q, .ref (b 1)] : List Value).toArray below meth c s.heap [] 0 0 (MQ below (vp_Si (fun r => r = sumS (M 1) 8)) ([.ref q, .ref (b 1)] : List Value).toArray s 0 0 (fun _ => False)) (F0 m 11 ls []) := by
    intro k
    induction k with
    | zero =>
      intro i acc hik hacc ls hl
      have hin : i = 8 := by omega
      refine lv_iload hx hb dX1_sum_11 (lv_at hl 5 rfl) ?_
      refine lv_iload hx hb dX1_sum_13 (lv_at hl 4 rfl) ?_
      refine lv_icmp_ge (tgt := 35) hx hb dX1_sum_15 (by decide) (fun c1 => ?_) (fun c1 => absurd (nI_le (a := 8) (by omega) (by omega)) c1)
      refine lv_iload_n hx hb dX1_sum_35 rfl (lv_at hl 2 rfl) ?_
      exact W.iret (v := acc) hx hb hr (fun t ht hW => ⟨acc, rfl, by rw [hacc, hin], ht⟩) (fun q hq => absurd hq List.not_mem_nil) dX1_sum_36
    | succ k ih =>
      intro i acc hik hacc ls hl
      refine lv_iload hx hb dX1_sum_11 (lv_at hl 5 rfl) ?_
      refine lv_iload hx hb dX1_sum_13 (lv_at hl 4 rfl) ?_
      refine lv_icmp_ge (tgt := 35) hx hb dX1_sum_15 (by decide) (fun c2 => absurd c2 (nI_ge (b := 8) (by omega) (by omega))) (fun c2 => ?_)
      refine lv_aload_n hx hb dX1_sum_18 rfl (lv_at hl 3 rfl) ?_
      refine lv_iload hx hb dX1_sum_19 (lv_at hl 5 rfl) ?_
      refine va_iald hx hb hK.1 hP 2 0 rfl rfl (vp_in_nI (by omega) (by omega)) dX1_sum_21 ?_
      rw [nI_clamp (n := i) (by omega)]
      refine lv_istore (lv' := [(6, .int ((M 1) i)), (0, .ref q), (1, .ref (b 1)), (2, .int acc), (3, .ref (b 1)), (4, .int (nI 8)), (5, .int (nI i))]) hx hb dX1_sum_22 hl (by decide) rfl (fun ls hl => ?_)
      refine lv_iload_n hx hb dX1_sum_24 rfl (lv_at hl 3 rfl) ?_
      refine lv_iload hx hb dX1_sum_25 (lv_at hl 0 rfl) ?_
      refine lv_iadd hx hb dX1_sum_27 ?_
      refine lv_istore_n (lv' := [(2, .int (acc + ((M 1) i))), (6, .int ((M 1) i)), (0, .ref q), (1, .ref (b 1)), (3, .ref (b 1)), (4, .int (nI 8)), (5, .int (nI i))]) hx hb dX1_sum_28 rfl hl (by decide) rfl (fun ls hl => ?_)
      refine lv_iinc (v := nI (i + 1)) (lv' := [(5, .int (nI (i + 1))), (2, .int (acc + ((M 1) i))), (6, .int ((M 1) i)), (0, .ref q), (1, .ref (b 1)), (3, .ref (b 1)), (4, .int (nI 8))]) hx hb dX1_sum_29 hl (k := 6) rfl ((nI_succ i).symm) (by decide) rfl (fun ls hl => ?_)
      refine lv_goto (tgt := 11) hx hb dX1_sum_32 (by decide) ?_
      exact ih (i + 1) (acc + ((M 1) i)) (by omega) (by rw [sumS, ← hacc]) ls (lv_sub hl [3, 4, 1, 5, 6, 0] rfl)
  exact loop 8 0 0 (Nat.zero_add _) (rfl) ls (lv_sub hl [4, 5, 3, 2, 1, 0] rfl)
