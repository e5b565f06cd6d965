section LWE
set_option maxHeartbeats 4000000 in
set_option maxRecDepth 100000 in
theorem law_iter {p : Program} {l : Launch} {e : Env} {s : State} {m : MethodId} {below : List Frame} {meth : Method} {c : Code} {b L : Nat} {xs : Nat → Int32} {D : va_G} {cy ly : ClassId} {h : Nat} {a : Nat → Nat} {o q : Nat} {bq : Nat → Nat} {mo q2 : Nat} {b2 : Nat → Nat} (hL : L ≤ 2048) (hc : LCtx p l s m meth c b L xs D cy ly) {i cells slots : Nat} (hi : i ≤ 4096) (hcs : cells ≤ 520000) (hss : slots ≤ 3700000) (hk : i + 4 ≤ L → lwK p l e s m below meth c b D cy ly h a o q bq mo q2 b2 i cells slots) {R M M2 : Nat → Nat → Int32} {nd n dr n2 dr2 : Nat} {fl an fi ba th an2 fi2 ba2 : Int32} {g : Nat → Int64} {H : Heap} {d0 : Drawn} {ls : Array Slot} {locs : List Loc} (hst : LSt s D cy ly h a o q bq mo q2 b2 R M M2 nd n dr n2 dr2 fl an fi ba th an2 fi2 ba2 g H locs) (hd0 : s.drawn.sameBut d0 lw_cs) (hl : lv_has ls 9 [(4, .int (nI i)), (3, .ref o), (2, .ref mo), (1, .ref h), (0, .ref b)]) : W p l e room_1 (s.setDrawn d0) m #[Value.ref b] below meth c H locs cells slots (lw_Z below #[Value.ref b] s) (F0 m 23 ls []) := by
  obtain ⟨hfl, C0, hKL, hXp, hNc⟩ := id hc
  obtain ⟨hx, hb, hr, hml, hown, hts0, hX, hbl, hlocks, hgv⟩ := id C0
  have hX := va_X.moved (u := s) (U := s.setDrawn d0) (Vm.Alike.refl s.vm) hX
  have hbA : ¬ lwA s b := Nat.not_le.mpr hbl
  obtain ⟨hI, hAg, hP, hD, hS⟩ := hst
  refine va_forget (fun q9 hq9 => hS.2.2 q9 hq9) ?_
  have hS : va_S (lwA s) s.heap H [] := ⟨hS.1, hS.2.1, fun _ h9 => absurd h9 List.not_mem_nil⟩
  refine lv_iload hx hb dL_law_23 (lv_at hl 0 rfl) ?_
  refine lv_aload_n hx hb dL_law_25 rfl (lv_at hl 4 rfl) ?_
  refine va_slen hx hb hX hbl hbA hS dL_law_26 ?_
  refine lv_iconst (v := 4) hx hb dL_law_27 (by decide) ?_
  refine lv_isub hx hb dL_law_28 ?_
  refine lv_icmp_gt (tgt := 863) hx hb dL_law_29 (by decide) (fun cg => ?_) (fun cg => ?_)
  · refine lv_iconst (v := 1) hx hb dL_law_863 (by decide) ?_
    refine W.widen (k := room_1.cells) (n := room_1.slots) (rm_c (by omega)) (rm_s (by omega)) ?_
    exact lw_ret hd0 hx hb hr hlocks dL_law_864
  · have hiL : i + 4 ≤ L := by
      have q9 : ¬ (nI L - nI 4).toInt < (nI i).toInt := fun z => cg (Int32.lt_iff_toInt_lt.mpr z)
      rw [pk_sub_toInt (by omega) (by omega), nI_toInt (by omega)] at q9
      omega
    have hK1 := hk hiL
    have hv0 : vp_in (nI i) L := vp_in_nI (by omega) (by omega)
    have hv1 : vp_in (nI i + 1) L := by rw [show nI i + 1 = nI (i + 1) from nI_add i 1]; exact vp_in_nI (by omega) (by omega)
    have hv2 : vp_in (nI i + 2) L := by rw [show nI i + 2 = nI (i + 2) from nI_add i 2]; exact vp_in_nI (by omega) (by omega)
    have hv3 : vp_in (nI i + 3) L := by rw [show nI i + 3 = nI (i + 3) from nI_add i 3]; exact vp_in_nI (by omega) (by omega)
    refine lv_aload_n hx hb dL_law_32 rfl (lv_at hl 4 rfl) ?_
    refine lv_iload hx hb dL_law_33 (lv_at hl 0 rfl) ?_
    refine va_sld hx hb hX hbl hbA hS hv0 dL_law_35 ?_
    refine lv_bipush (v := 15) hx hb dL_law_36 (by decide) ?_
    refine lv_iand hx hb dL_law_38 ?_
    obtain ⟨j, hj, hje⟩ := pk_andE (xs (nI i).toNatClampNeg) (m := 15) 4 (by decide)
    rw [hje]
    have hst2 : LSt s D cy ly h a o q bq mo q2 b2 R M M2 nd n dr n2 dr2 fl an fi ba th an2 fi2 ba2 g H [] := ⟨hI, hAg, hP, hD, hS⟩
    rcases (by omega : j = 0 ∨ j = 1 ∨ j = 2 ∨ j = 3 ∨ j = 4 ∨ j = 5 ∨ j = 6 ∨ j = 7 ∨ j = 8 ∨ j = 9 ∨ j = 10 ∨ j = 11 ∨ j = 12 ∨ j = 13 ∨ j = 14 ∨ j = 15) with rfl | rfl | rfl | rfl | rfl | rfl | rfl | rfl | rfl | rfl | rfl | rfl | rfl | rfl | rfl | rfl
    · refine lv_tableIn (off := 73) (tgt := 112) hx hb dL_law_39 (by decide) (by decide) (by decide) (by decide) ?_
      exact lc_begin hc hcs hss hv1 hv2 hv3 hK1 hst2 hd0 hl
    · refine lv_tableIn (off := 117) (tgt := 156) hx hb dL_law_39 (by decide) (by decide) (by decide) (by decide) ?_
      exact lc_cook hc hcs hss hv1 hv2 hv3 hK1 hst2 hd0 hl
    · refine lv_tableIn (off := 197) (tgt := 236) hx hb dL_law_39 (by decide) (by decide) (by decide) (by decide) ?_
      exact lc_finish hc hcs hss hv1 hv2 hv3 hK1 hst2 hd0 hl
    · refine lv_tableIn (off := 253) (tgt := 292) hx hb dL_law_39 (by decide) (by decide) (by decide) (by decide) ?_
      exact lc_drop hc hcs hss hv1 hv2 hv3 hK1 hst2 hd0 hl
    · refine lv_tableIn (off := 309) (tgt := 348) hx hb dL_law_39 (by decide) (by decide) (by decide) (by decide) ?_
      exact lc_shelve hc hcs hss hv1 hv2 hv3 hK1 hst2 hd0 hl
    · refine lv_tableIn (off := 365) (tgt := 404) hx hb dL_law_39 (by decide) (by decide) (by decide) (by decide) ?_
      exact lc_blow hc hcs hss hv1 hv2 hv3 hK1 hst2 hd0 hl
    · refine lv_tableIn (off := 378) (tgt := 417) hx hb dL_law_39 (by decide) (by decide) (by decide) (by decide) ?_
      exact lc_fall hc hcs hss hv1 hv2 hv3 hK1 hst2 hd0 hl
    · refine lv_tableIn (off := 391) (tgt := 430) hx hb dL_law_39 (by decide) (by decide) (by decide) (by decide) ?_
      exact lc_pot hc hcs hss hv1 hv2 hv3 hK1 hst2 hd0 hl
    · refine lv_tableIn (off := 459) (tgt := 498) hx hb dL_law_39 (by decide) (by decide) (by decide) (by decide) ?_
      exact lc_dish hc hcs hss hv1 hv2 hv3 hK1 hst2 hd0 hl
    · refine lv_tableIn (off := 527) (tgt := 566) hx hb dL_law_39 (by decide) (by decide) (by decide) (by decide) ?_
      exact lc_line hc hcs hss hv1 hv2 hv3 hK1 hst2 hd0 hl
    · refine lv_tableIn (off := 595) (tgt := 634) hx hb dL_law_39 (by decide) (by decide) (by decide) (by decide) ?_
      exact lc_count hc hcs hss hv1 hv2 hv3 hK1 hst2 hd0 hl
    · refine lv_tableIn (off := 651) (tgt := 690) hx hb dL_law_39 (by decide) (by decide) (by decide) (by decide) ?_
      exact lc_would hc hcs hss hv1 hv2 hv3 hK1 hst2 hd0 hl
    · refine lv_tableIn (off := 707) (tgt := 746) hx hb dL_law_39 (by decide) (by decide) (by decide) (by decide) ?_
      exact lc_left hc hcs hss hv1 hv2 hv3 hK1 hst2 hd0 hl
    · refine lv_tableIn (off := 763) (tgt := 802) hx hb dL_law_39 (by decide) (by decide) (by decide) (by decide) ?_
      exact lc_mean hc hcs hss hv1 hv2 hv3 hK1 hst2 hd0 hl
    · refine lv_tableIn (off := 804) (tgt := 843) hx hb dL_law_39 (by decide) (by decide) (by decide) (by decide) ?_
      exact lc_digest hc hcs hss hv1 hv2 hv3 hK1 hst2 hd0 hl
    · refine lv_tableOut (tgt := 857) hx hb dL_law_39 (by decide) (by decide) ?_
      exact hK1 R M M2 nd n dr n2 dr2 fl an fi ba th an2 fi2 ba2 g H _ d0 ls _ _ hst2 hd0 (by omega) (by omega) hl
set_option maxHeartbeats 4000000 in
set_option maxRecDepth 100000 in
theorem law_loop {p : Program} {l : Launch} {e : Env} {s : State} {m : MethodId} {below : List Frame} {meth : Method} {c : Code} {b L : Nat} {xs : Nat → Int32} {D : va_G} {cy ly : ClassId} {h : Nat} {a : Nat → Nat} {o q : Nat} {bq : Nat → Nat} {mo q2 : Nat} {b2 : Nat → Nat} (hL : L ≤ 2048) (hc : LCtx p l s m meth c b L xs D cy ly) : ∀ (k i cells slots : Nat), L ≤ i + 4 * k → i ≤ 4096 → cells + 1000 * k ≤ 520000 → slots + 7000 * k ≤ 3700000 → ∀ (R M M2 : Nat → Nat → Int32) (nd n dr n2 dr2 : Nat) (fl an fi ba th an2 fi2 ba2 : Int32) (g : Nat → Int64) (H : Heap) (locs : List Loc) (d0 : Drawn) (ls : Array Slot), LSt s D cy ly h a o q bq mo q2 b2 R M M2 nd n dr n2 dr2 fl an fi ba th an2 fi2 ba2 g H locs → s.drawn.sameBut d0 lw_cs → lv_has ls 9 [(4, .int (nI i)), (3, .ref o), (2, .ref mo), (1, .ref h), (0, .ref b)] → W p l e room_1 (s.setDrawn d0) m #[Value.ref b] below meth c H locs cells slots (lw_Z below #[Value.ref b] s) (F0 m 23 ls [])
  | 0, i, cells, slots, h1, h2, h3, h4, R, M, M2, nd, n, dr, n2, dr2, fl, an, fi, ba, th, an2, fi2, ba2, g, H, locs, d0, ls, hst, hd0, hl => law_iter hL hc h2 (by omega) (by omega) (fun h9 => absurd h9 (by omega)) hst hd0 hl
  | k + 1, i, cells, slots, h1, h2, h3, h4, R, M, M2, nd, n, dr, n2, dr2, fl, an, fi, ba, th, an2, fi2, ba2, g, H, locs, d0, ls, hst, hd0, hl => by
    refine law_iter hL hc h2 (by omega) (by omega) (fun hiL => ?_) hst hd0 hl
    intro R M M2 nd n dr n2 dr2 fl an fi ba th an2 fi2 ba2 g H locs d1 ls c1 s1 hst hd1 hc1 hs1 hl
    obtain ⟨hx, hb, hr, hml, hown, hts0, hX, hbl, hlocks, hgv⟩ := id hc.2.1
    refine lv_iinc (v := nI (i + 4)) (lv' := [(4, .int (nI (i + 4))), (3, .ref o), (2, .ref mo), (1, .ref h), (0, .ref b)]) hx hb dL_law_857 hl (k := 0) rfl (show nI i + 4 = nI (i + 4) from nI_add i 4) (by decide) rfl (fun ls hl => ?_)
    refine lv_goto (tgt := 23) hx hb dL_law_860 (by decide) ?_
    exact law_loop hL hc k (i + 4) c1 s1 (by omega) (by omega) (by omega) (by omega) R M M2 nd n dr n2 dr2 fl an fi ba th an2 fi2 ba2 g H locs d1 ls hst hd1 hl
end LWE
