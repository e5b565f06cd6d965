section PU9
theorem kN_congr2 {R R' : Nat → Nat → Int32} {n n' : Nat} {d : Int32} : ∀ (i : Nat), i ≤ n → i ≤ n' → (∀ j, j < i → (Kp R n j d ↔ Kp R' n' j d)) → kN R n d i = kN R' n' d i
  | 0, _, _, _ => rfl
  | i + 1, h1, h2, hK => by
    rw [kN, kN, keptB_iff2 (by omega) (by omega) (hK i (by omega)), kN_congr2 i (by omega) (by omega) (fun j q => hK j (by omega))]
theorem kN_more {R : Nat → Nat → Int32} {n m : Nat} {d : Int32} (h : ∀ j, m ≤ j → j < n → ¬ Kp R n j d) : ∀ (e : Nat), m + e ≤ n → kN R n d (m + e) = kN R n d m
  | 0, _ => rfl
  | e + 1, he => by
    rw [← Nat.add_assoc, kN, if_pos ((keptB_iff (by omega)).mpr (h _ (by omega) (by omega))), Nat.add_zero, kN_more h e (by omega)]
theorem kp_eqn {R R' : Nat → Nat → Int32} {n j : Nat} {d : Int32} (h : Eqn R' R n) (hj : j < n) : Kp R' n j d ↔ Kp R n j d := by
  unfold Kp
  rw [h.1 j hj, h.2.1 j hj]
  refine ⟨fun q => ⟨q.1, q.2.1, fun l h1 h2 h3 => q.2.2 l h1 h2 ?_⟩, fun q => ⟨q.1, q.2.1, fun l h1 h2 h3 => q.2.2 l h1 h2 ?_⟩⟩
  · rw [h.2.1 l h2, h.2.2.2 l h2]; exact h3
  · rw [h.2.1 l h2, h.2.2.2 l h2] at h3; exact h3
theorem left2_p {R : Nat → Nat → Int32} {dr d : Nat} {p acc : Int32} (h : stateByS R (nI d) dr = 0) : left2S R dr p (d + 1) acc = left2S R dr p d (spoonsAfterS R dr (nI d) p dr acc) := by rw [left2S, if_pos h]
theorem left2_n {R : Nat → Nat → Int32} {dr d : Nat} {p acc : Int32} (h : ¬ stateByS R (nI d) dr = 0) : left2S R dr p (d + 1) acc = left2S R dr p d acc := by rw [left2S, if_neg h]
/-- a fall, k dishes looked at -/
def FallI (R D M : Nat → Nat → Int32) (nd dr k : Nat) : Prop :=
  Agr (fallP nd D dr k).1 (fall3M nd M dr k).1 ∧ (fall3M nd M dr k).2.1 = (fallP nd D dr k).2 ∧
  Core (fallP nd D dr k).1 nd (fallP nd D dr k).2 ∧ UnqA (fallP nd D dr k).1 (fallP nd D dr k).2 ∧ DSt (fallP nd D dr k).1 nd (fallP nd D dr k).2 ∧ dr ≤ (fallP nd D dr k).2 ∧
  (∀ c, c < nd → isM (fallP nd D dr k).1 (nI c) (fallP nd D dr k).2 = if isM R (nI c) dr = 0 then (if c < nd - k then 0 else 2) else isM R (nI c) dr) ∧
  (∀ j, ¬ j = 0 → ¬ j = 3 → ¬ j = 10 → ∀ i, i < dr → (fallP nd D dr k).1 j i = R j i) ∧
  (∀ c i, c < nd - k → i < dr → (Kp (fallP nd D dr k).1 (fallP nd D dr k).2 i (nI c) ↔ Kp R dr i (nI c))) ∧
  (∀ j, dr ≤ j → j < (fallP nd D dr k).2 → ∃ c, nd - k ≤ c ∧ c < nd ∧ (fallP nd D dr k).1 4 j = nI c) ∧
  toTakeS R dr (nd - k) + (fall3M nd M dr k).2.2 = toTakeS R dr nd ∧
  ∀ p, vp_in p 8 → left2S R dr p (nd - k) ((fallP nd D dr k).1 0 p.toNatClampNeg) = left2S R dr p nd (D 0 p.toNatClampNeg)
theorem fall_step {R D M : Nat → Nat → Int32} {nd n dr k : Nat} (hI0 : Inv R nd n dr) (hk : k < nd) (hI : FallI R D M nd dr k) : FallI R D M nd dr (k + 1) ∧ (isM (fall3M nd M dr k).1 (nI (nd - 1 - k)) (fall3M nd M dr k).2.1 = 0 → undoOk (fall3M nd M dr k).1 (fall3M nd M dr k).2.1 (nI (nd - 1 - k))) := by
  unfold FallI at hI ⊢
  rw [fallP, fall3M]
  obtain ⟨U, hU⟩ : ∃ z, z = fallP nd D dr k := ⟨_, rfl⟩
  obtain ⟨V, hV⟩ : ∃ z, z = fall3M nd M dr k := ⟨_, rfl⟩
  rw [← hU, ← hV] at hI
  rw [← hU, ← hV]
  obtain ⟨a1, a2, a3, a4, a5, a6, a7, a8, a9, a10, a11, a12⟩ := hI
  obtain ⟨c, hc⟩ : ∃ z, z = nd - 1 - k := ⟨_, rfl⟩
  rw [← hc]
  have hcn : c < nd := by omega
  have hnd := hI0.1.2.1
  have hn := hI0.1.1
  have hdr := hI0.2.2.1
  have hnk : nd - k = c + 1 := by omega
  have hnk1 : nd - (k + 1) = c := by omega
  rw [hnk] at a7 a9 a10 a11 a12
  rw [hnk1]
  have st : stateByS R (nI c) dr = isM R (nI c) dr := state_isM (by omega)
  have hm : isM V.1 (nI c) V.2.1 = isM R (nI c) dr := by
    rw [a2, isM_agr a1, a7 c hcn, if_pos (Nat.lt_succ_self c)]
    by_cases q : isM R (nI c) dr = 0
    · rw [if_pos q, q]
    · rw [if_neg q]
  have hU0 : isM U.1 (nI c) U.2 = isM R (nI c) dr := by rw [← isM_agr a1, ← a2]; exact hm
  rw [hm, open_is hnd a5 hcn, hU0]
  have hT := hI0.1.2.2.2.2.2.1
  by_cases ho : isM R (nI c) dr = 0
  · rw [if_pos ho, if_neg (show ¬ (1 : Int32) = 0 by decide), if_pos ho]
    have hu := undo_end (M := V.1) a1 a3 a4 hcn (hU0.trans ho)
    rw [← a2] at hu
    rw [← a2] at a3 a4 a5 a6 a7 a9 a10
    obtain ⟨u1, u2, u3, u4, u5, u6, u7, u8, u9, u10, u11, u12, u13, u14, u15, u16⟩ := hu
    have hcnI : ∀ x, x < nd → ¬ x = c → ¬ nI x = nI c := fun x hx q z => q (nI_inj (by omega) (by omega) z)
    have nokp : ∀ j, dr ≤ j → j < V.2.1 → ¬ Kp U.1 V.2.1 j (nI c) := fun j h1 h2 q => by
      obtain ⟨x, x1, x2, x3⟩ := a10 j h1 h2
      have := nI_inj (by omega) (by omega) (x3.symm.trans q.1)
      omega
    have hb : undoC U.1 V.2.1 (nI c) = changesS R (nI c) (nI dr) dr := by
      rw [u10, changes_kept hT hn hdr (Nat.le_refl _), kept_kN]
      congr 1
      have := kN_more (d := nI c) nokp (V.2.1 - dr) (by omega)
      rw [show dr + (V.2.1 - dr) = V.2.1 by omega] at this
      rw [this]
      exact kN_congr2 dr (by omega) (Nat.le_refl _) (fun j hj => a9 c j (by omega) hj)
    refine ⟨⟨?_, ?_, ?_, ?_, ?_, ?_, ?_, ?_, ?_, ?_, ?_, ?_⟩, fun _ => u1⟩
    · rw [← a2]; exact u2
    · rw [← a2]; exact u3
    · rw [← a2]; exact u5
    · rw [← a2]; exact u6
    · rw [← a2]; exact u9 a5
    · rw [← a2]; show dr ≤ undoN U.1 V.2.1 (nI c); omega
    · rw [← a2]
      intro x hx
      show isM (undoR U.1 V.2.1 (nI c)) (nI x) (undoN U.1 V.2.1 (nI c)) = _
      rw [u8 (nI x)]
      by_cases e : x = c
      · rw [e, if_pos rfl, if_pos ho, if_neg (Nat.lt_irrefl c)]
      · rw [if_neg (fun q => hcnI x hx e q.symm), a7 x hx]
        by_cases q : isM R (nI x) dr = 0
        · rw [if_pos q, if_pos q]
          by_cases y : x < c
          · rw [if_pos y, if_pos (by omega)]
          · rw [if_neg y, if_neg (by omega)]
        · rw [if_neg q, if_neg q]
    · rw [← a2]
      intro j j0 j3 j10 i hi
      show undoR U.1 V.2.1 (nI c) j i = R j i
      rw [u13 j j0 j3 j10 i (by omega)]
      exact a8 j j0 j3 j10 i hi
    · rw [← a2]
      intro x i hx hi
      show Kp (undoR U.1 V.2.1 (nI c)) (undoN U.1 V.2.1 (nI c)) i (nI x) ↔ _
      rw [u11 i (nI x) (by omega) (hcnI x (by omega) (by omega))]
      exact a9 x i (by omega) hi
    · rw [← a2]
      intro j h1 h2
      show ∃ x, c ≤ x ∧ x < nd ∧ undoR U.1 V.2.1 (nI c) 4 j = nI x
      by_cases q : j < V.2.1
      · obtain ⟨x, x1, x2, x3⟩ := a10 j h1 q
        exact ⟨x, by omega, x2, by rw [u13 4 (by decide) (by decide) (by decide) j q]; exact x3⟩
      · exact ⟨c, Nat.le_refl _, hcn, u12 j (by omega) h2⟩
    · show toTakeS R dr c + (V.2.2 + undoMC V.1 V.2.1 (nI c)) = _
      rw [u4, hb, ← a11, toTakeS, st, if_pos ho, Int32.add_assoc, Int32.add_comm V.2.2]
    · rw [← a2]
      intro p hp
      show left2S R dr p c (undoR U.1 V.2.1 (nI c) 0 p.toNatClampNeg) = _
      rw [← a12 p hp, left2_p (st.trans ho), spoonsAfter_lu hT hn hdr dr _ (Nat.le_refl _), u16]
      congr 1
      have h1 := lu_undo (p := p) a1 a3 hcn (by rw [a2]; exact hU0.trans ho) hp V.2.1 (Nat.le_refl _)
      rw [Nat.sub_self] at h1
      have h2 : (undoP U.1 V.2.1 (nI c) V.2.1).1 0 p.toNatClampNeg = lu U.1 V.2.1 (nI c) p V.2.1 (U.1 0 p.toNatClampNeg) := h1
      rw [h2]
      have h3 := lu_more (p := p) nokp (V.2.1 - dr) (U.1 0 p.toNatClampNeg) (by omega)
      rw [show dr + (V.2.1 - dr) = V.2.1 by omega] at h3
      rw [h3]
      exact lu_congr dr _ (by omega) (Nat.le_refl _) (fun j hj => a8 6 (by decide) (by decide) (by decide) j hj) (fun j hj => a8 7 (by decide) (by decide) (by decide) j hj) (fun j hj => a9 c j (by omega) hj)
  · rw [if_neg ho, if_pos rfl, if_neg ho]
    refine ⟨⟨a1, a2, a3, a4, a5, a6, fun x hx => ?_, a8, fun x i hx hi => a9 x i (by omega) hi, fun j h1 h2 => ?_, ?_, fun p hp => ?_⟩, fun q => absurd q ho⟩
    · rw [a7 x hx]
      by_cases q : isM R (nI x) dr = 0
      · rw [if_pos q, if_pos q]
        have : ¬ x = c := fun e => ho (by rw [← e]; exact q)
        by_cases y : x < c
        · rw [if_pos y, if_pos (by omega)]
        · rw [if_neg y, if_neg (by omega)]
      · rw [if_neg q, if_neg q]
    · obtain ⟨x, x1, x2, x3⟩ := a10 j h1 h2
      exact ⟨x, by omega, x2, x3⟩
    · rw [← a11, toTakeS, st, if_neg ho]
    · rw [← a12 p hp, left2_n (by rw [st]; exact ho)]
theorem fall_all {R D M : Nat → Nat → Int32} {nd n dr : Nat} (hI0 : Inv R nd n dr) (h0 : FallI R D M nd dr 0) : ∀ k : Nat, k ≤ nd → FallI R D M nd dr k
  | 0, _ => h0
  | k + 1, hk => (fall_step hI0 (by omega) (fall_all hI0 h0 k (by omega))).1
/-- the states between doing anew and dropping: class and model -/
theorem fall_start {R M : Nat → Nat → Int32} {nd n dr : Nat} (hI : Inv R nd n dr) (hA : Agr R M) : FallI R (fallD R nd dr) (fallM2 M dr).1 nd dr 0 ∧ (fallM2 M dr).2.1 = doC (fallB R nd dr) dr ∧ (fallM2 M dr).2.1 = toDoS R dr ∧ (fallM2 M dr).2.2 = firstToDoS R dr 0 ∧ ∀ p, vp_in p 8 → fallD R nd dr 0 p.toNatClampNeg = left1S R p dr := by
  have hdr : dr ≤ 120 := by have := hI.1.1; have := hI.2.2.1; omega
  have hB : ∀ k, ¬ k = 0 → ¬ k = 3 → ¬ k = 10 → fallB R nd dr k = R k := fun k h0 h3 h10 => by rw [fallB_n h0, wipe_n h3 h10]
  obtain ⟨i1, i2, i3, i4, i5⟩ := do_all (M := fall1M M 8) hdr (fun i hi => hI.1.2.2.2.1 i (by have := hI.2.2.1; omega)) (hB 2 (by decide) (by decide) (by decide)) (hB 6 (by decide) (by decide) (by decide)) (hB 8 (by decide) (by decide) (by decide)) (agr_fallB hA nd dr) dr (Nat.le_refl _)
  have hD : ∀ k, ¬ k = 0 → ¬ k = 3 → ¬ k = 10 → fallD R nd dr k = R k := fun k h0 h3 h10 => by
    show doR (fallB R nd dr) dr k = R k
    rw [doR_n h0, hB k h0 h3 h10]
  have hW := inv_rows (R' := fallD R nd dr) (dr' := dr) (fun k hk => by
    show doR (fallB R nd dr) dr k = _
    rw [doR_n (by omega), fallB_n (by omega)]) (Nat.le_refl _) (wipe_inv hI)
  have hE : Eqn (fallD R nd dr) R dr := ⟨fun i _ => by rw [hD 4 (by decide) (by decide) (by decide)], fun i _ => by rw [hD 5 (by decide) (by decide) (by decide)], fun i _ => by rw [hD 6 (by decide) (by decide) (by decide)], fun i _ => by rw [hD 9 (by decide) (by decide) (by decide)]⟩
  refine ⟨⟨i1, rfl, hW.1, hW.2.2.2, hW.2.1, Nat.le_refl _, fun c hc => ?_, fun j j0 j3 j10 i hi => ?_, fun c i hc hi => ?_, fun j h1 h2 => ?_, Int32.add_zero _, fun p hp => rfl⟩, i2, i3, ?_, fun p hp => i5 p hp ?_⟩
  · show isM (fallD R nd dr) (nI c) dr = _
    rw [isM_congr hE.1 hE.2.1, if_pos (show c < nd - 0 by omega)]
    by_cases q : isM R (nI c) dr = 0
    · rw [if_pos q, q]
    · rw [if_neg q]
  · show fallD R nd dr j i = R j i
    rw [hD j j0 j3 j10]
  · exact kp_eqn hE hi
  · have h2' : j < dr := h2
    omega
  · rw [Nat.sub_self] at i4
    show (fall2M (fall1M M 8) dr).2.2 = _
    rw [← i4]
    by_cases q : (fall2M (fall1M M 8) dr).2.2 = -1
    · rw [if_pos q, q]; rfl
    · rw [if_neg q]
  · obtain ⟨x, hx, hx2⟩ := vp_in_of hp (by omega)
    rw [hx2, nI_clamp (by omega), fallB_0, if_pos hx, at_lt (by decide) hx]
theorem fall_ok {R M : Nat → Nat → Int32} {nd n dr : Nat} (hI : Inv R nd n dr) (hA : Agr R M) :
    fallOk M nd dr ∧ (∀ k, k ≤ nd → (fallP nd (fallD R nd dr) dr k).2 ≤ 120) ∧ (fallM3 M nd dr).2.1 = (fallP nd (fallD R nd dr) dr nd).2 ∧ (fallM2 M dr).2.1 = doC (fallB R nd dr) dr ∧ Inv (fallP nd (fallD R nd dr) dr nd).1 nd (fallP nd (fallD R nd dr) dr nd).2 dr ∧ Agr (fallP nd (fallD R nd dr) dr nd).1 (fallM3 M nd dr).1 := by
  obtain ⟨s1, s2, s3, s4, s5⟩ := fall_start hI hA
  have all := fall_all hI s1
  have hdr : dr ≤ 120 := by have := hI.1.1; have := hI.2.2.1; omega
  have hl := all nd (Nat.le_refl _)
  refine ⟨⟨fun i hi h => ?_, fun k hk h => (fall_step hI hk (all k (by omega))).2 h⟩, fun k hk => (all k hk).2.2.1.1, hl.2.1, s2, ⟨hl.2.2.1, hl.2.2.2.2.1, hl.2.2.2.2.2.1, hl.2.2.2.1⟩, hl.1⟩
  have hB : ∀ k, ¬ k = 0 → ¬ k = 3 → ¬ k = 10 → fallB R nd dr k = R k := fun k h0 h3 h10 => by rw [fallB_n h0, wipe_n h3 h10]
  have i1 := (do_all (M := fall1M M 8) hdr (fun i hi => hI.1.2.2.2.1 i (by have := hI.2.2.1; omega)) (hB 2 (by decide) (by decide) (by decide)) (hB 6 (by decide) (by decide) (by decide)) (hB 8 (by decide) (by decide) (by decide)) (agr_fallB hA nd dr) i (by omega)).1
  rw [i1 6 (by decide) (by decide), doR_n (by decide), hB 6 (by decide) (by decide) (by decide)] at h ⊢
  exact (hI.1.2.2.2.1 i (by have := hI.2.2.1; omega)).resolve_left h
-- what would be told after a fall
theorem step_3 {k x : Int32} (h : stepM k x = 3) : x = 3 := by
  unfold stepM at h
  by_cases h0 : k = 0
  · subst h0; exact absurd (show (0 : Int32) = 3 from h) (by decide)
  · rw [if_neg h0] at h
    by_cases h2 : k = 2
    · subst h2; exact absurd (show (1 : Int32) = 3 from h) (by decide)
    · rw [if_neg h2] at h
      by_cases h4 : k = 4
      · rw [if_pos h4] at h; exact absurd h (by decide)
      · rw [if_neg h4] at h; exact h
theorem is_3 {M : Nat → Nat → Int32} {d : Int32} {m : Nat} : ∀ e : Nat, isM M d (m + e) = 3 → isM M d m = 3
  | 0, h => h
  | e + 1, h => by
    rw [← Nat.add_assoc, isM] at h
    by_cases q : M 4 (m + e) = d
    · rw [if_pos q] at h; exact is_3 e (step_3 h)
    · rw [if_neg q] at h; exact is_3 e h
theorem forget_are {R F : Nat → Nat → Int32} {nd n n' dr : Nat} (hI : Inv R nd n dr) (hF : ∀ c, c < nd → (isM F (nI c) n' = 3 ↔ isM R (nI c) dr = 3)) : ∀ k : Nat, k ≤ nd → toForgetS R dr k + areM R n 3 k = areM F n' 3 k
  | 0, _ => rfl
  | k + 1, hk => by
    have ih := forget_are hI hF k (by omega)
    have hnd := hI.1.2.1
    have hn := hI.1.1
    have hdr := hI.2.2.1
    rw [toForgetS, areM, areM, at_lt (by decide) (by omega), hI.2.1 k (by omega), state_isM (by omega)]
    by_cases h : isM R (nI k) n = 3
    · have h2 : isM R (nI k) dr = 3 := is_3 (n - dr) (by rw [show dr + (n - dr) = n by omega]; exact h)
      rw [if_pos h, if_pos h, if_pos ((hF k (by omega)).mpr h2), ← ih, Int32.add_assoc]
    · rw [if_neg h, if_neg h, Int32.add_zero]
      by_cases h2 : isM R (nI k) dr = 3
      · rw [if_pos h2, if_pos ((hF k (by omega)).mpr h2), ← ih, Int32.add_assoc, Int32.add_comm 1, ← Int32.add_assoc]
      · rw [if_neg h2, if_neg (fun q => h2 ((hF k (by omega)).mp q)), ← ih, Int32.add_zero]
theorem areM_agr {R M : Nat → Nat → Int32} (h : Agr R M) (n : Nat) (x : Int32) (k : Nat) : areM M n x k = areM R n x k := areM_congr (eqn_agr h n) k
theorem would_eq {R M : Nat → Nat → Int32} {nd n dr j : Nat} (hI : Inv R nd n dr) (hA : Agr R M) (hj : j < 5) : wouldAnsS R nd n dr (nI j) = wouldTM M n nd dr (nI j) := by
  obtain ⟨s1, s2, s3, s4, s5⟩ := fall_start hI hA
  have hl := fall_all hI s1 nd (Nat.le_refl _)
  have hk : toTakeS R dr nd = (fallM3 M nd dr).2.2 := by
    have := hl.2.2.2.2.2.2.2.2.2.2.1
    rw [Nat.sub_self] at this
    rw [← this]
    exact Int32.zero_add _
  have hf : toForgetS R dr nd = areM (fallM3 M nd dr).1 (fallM3 M nd dr).2.1 3 nd - areM M n 3 nd := by
    have := forget_are (F := (fallP nd (fallD R nd dr) dr nd).1) (n' := (fallP nd (fallD R nd dr) dr nd).2) hI (fun c hc => by
      rw [hl.2.2.2.2.2.2.1 c hc, if_neg (show ¬ c < nd - nd by omega)]
      by_cases q : isM R (nI c) dr = 0
      · rw [if_pos q, q]
        exact ⟨fun z => absurd z (by decide), fun z => absurd z (by decide)⟩
      · rw [if_neg q]) nd (Nat.le_refl _)
    rw [areM_agr hA, show (fallM3 M nd dr).2.1 = (fallP nd (fallD R nd dr) dr nd).2 from hl.2.1, areM_agr hl.1, ← this, Int32.add_sub_cancel]
  unfold wouldAnsS wouldTM
  rw [nI_clamp (by omega), ← s4, ← hk, ← hf, s3]
  rcases (by omega : j = 0 ∨ j = 1 ∨ j = 2 ∨ j = 3 ∨ j = 4) with rfl | rfl | rfl | rfl | rfl <;> rfl
theorem left_eq {R M : Nat → Nat → Int32} {nd n dr : Nat} {p : Int32} (hI : Inv R nd n dr) (hA : Agr R M) (hp : vp_in p 8) : leftAnsS R nd dr p = (fallM3 M nd dr).1 0 p.toNatClampNeg := by
  obtain ⟨s1, s2, s3, s4, s5⟩ := fall_start hI hA
  have hl := fall_all hI s1 nd (Nat.le_refl _)
  have h := hl.2.2.2.2.2.2.2.2.2.2.2 p hp
  rw [Nat.sub_self, s5 p hp] at h
  unfold leftAnsS
  rw [← h]
  show (fallP nd (fallD R nd dr) dr nd).1 0 p.toNatClampNeg = _
  rw [hl.1 0 (by decide) (by decide)]
-- what is told
theorem many_agr {R M : Nat → Nat → Int32} (h : Agr R M) (d : Int32) : ∀ n : Nat, manyM M d n = manyM R d n
  | 0 => rfl
  | n + 1 => by rw [manyM, manyM, h 4 (by decide) (by decide), many_agr h d n]
theorem lastM_agr {R M : Nat → Nat → Int32} (h : Agr R M) (d : Int32) : ∀ n : Nat, lastM M d n = lastM R d n
  | 0 => rfl
  | n + 1 => by rw [lastM, lastM, h 4 (by decide) (by decide), lastM_agr h d n]
theorem keptM_agr {R M : Nat → Nat → Int32} (h : Agr R M) (d : Int32) (n : Nat) : keptM M n d n = keptM R n d n := keptM_congr (eqn_agr h n).1 (eqn_agr h n).2.1 (eqn_agr h n).2.2.2 (Nat.le_refl _)
theorem holds_eq {R M : Nat → Nat → Int32} {nd n dr c : Nat} (hI : Inv R nd n dr) (hA : Agr R M) (hc : c < nd) : ∀ k : Nat, potsHeldS R n (nI c) k = holdsM M n (nI c) k
  | 0 => rfl
  | k + 1 => by
    have hnd := hI.1.2.1
    rw [potsHeldS, holdsM, holds_eq hI hA hc k, holder_eq hI, heldB_congr (eqn_agr hA n)]
    by_cases h : Hld R n (nI k) c
    · have hb : ¬ heldB R n (nI k) (nI c) = 0 := fun q => heldB_iff.mp q h
      rcases holderM_spec (M := R) (n := n) (p := nI k) nd 0 with ⟨q, q2⟩ | ⟨c2, q1, q2, q3, q4⟩
      · exact absurd h (q2 c (by omega) (by omega))
      · rw [q3, hld_unq hI (by omega) hc q4 h, if_pos rfl, if_neg hb]
    · have hb : heldB R n (nI k) (nI c) = 0 := heldB_iff.mpr h
      rw [if_pos hb, Int32.add_zero]
      rcases holderM_spec (M := R) (n := n) (p := nI k) nd 0 with ⟨q, q2⟩ | ⟨c2, q1, q2, q3, q4⟩
      · rw [q, if_neg (fun z => nI_m1 (by omega) z.symm)]
      · rw [q3, if_neg (fun z => h (by rw [← nI_inj (by omega) (by omega) z]; exact q4))]
theorem pot_eq {R M : Nat → Nat → Int32} {nd n dr u j : Nat} (hI : Inv R nd n dr) (hA : Agr R M) (hu : u < 8) (hj : j < 5) : potAnsS R n (nI u) (nI j) = potTM M n nd (nI u) (nI j) := by
  have hn := hI.1.1
  unfold potAnsS potTM
  rw [nI_clamp (by omega), nI_clamp (by omega), at_lt (by decide) hu, at_lt (by decide) hu, at_lt (by decide) hu, holder_eq hI, last_latest hn, latestM_agr hA, holderM_congr (eqn_agr hA n), hA 0 (by decide) (by decide), hA 1 (by decide) (by decide), hA 2 (by decide) (by decide)]
  rcases (by omega : j = 0 ∨ j = 1 ∨ j = 2 ∨ j = 3 ∨ j = 4) with rfl | rfl | rfl | rfl | rfl <;> rfl
theorem dish_eq {R M : Nat → Nat → Int32} {nd n dr d j : Nat} (hI : Inv R nd n dr) (hA : Agr R M) (hd : d < nd) (hj : j < 5) : dishAnsS R n (nI d) (nI j) = dishTM M n (nI d) (nI j) := by
  have hn := hI.1.1
  have hnd := hI.1.2.1
  unfold dishAnsS dishTM
  rw [nI_clamp (by omega), at_lt (by decide) (by omega), hI.2.1 d hd, count_many hn, changes_kept hI.1.2.2.2.2.2.1 hn (Nat.le_refl _) (Nat.le_refl _), holds_eq hI hA hd, last_lastM hn, isM_agr hA, many_agr hA, keptM_agr hA, lastM_agr hA]
  rcases (by omega : j = 0 ∨ j = 1 ∨ j = 2 ∨ j = 3 ∨ j = 4) with rfl | rfl | rfl | rfl | rfl <;> rfl
theorem line_eq {R M : Nat → Nat → Int32} {n dr i j : Nat} (hA : Agr R M) (hn : n ≤ 120) (hi : i < n) (hj : j < 7) : lineAnsS R dr (nI i) (nI j) = lineTM M dr (nI i) (nI j) := by
  unfold lineAnsS lineTM
  rw [nI_clamp (by omega), nI_clamp (by omega), at_lt (by decide) (by omega), at_lt (by decide) (by omega), at_lt (by decide) (by omega), at_lt (by decide) (by omega), at_lt (by decide) (by omega), at_lt (by decide) (by omega), hA 4 (by decide) (by decide), hA 5 (by decide) (by decide), hA 6 (by decide) (by decide), hA 7 (by decide) (by decide), hA 8 (by decide) (by decide), hA 9 (by decide) (by decide)]
  rcases (by omega : j = 0 ∨ j = 1 ∨ j = 2 ∨ j = 3 ∨ j = 4 ∨ j = 5 ∨ j = 6) with rfl | rfl | rfl | rfl | rfl | rfl | rfl <;> rfl
theorem count_eq {R M : Nat → Nat → Int32} {nd n dr j : Nat} {fl : Int32} (hI : Inv R nd n dr) (hA : Agr R M) (hj : j < 11) : countAnsS R nd n dr fl (nI j) = countedM M nd n dr fl (nI j) := by
  have hnd := hI.1.2.1
  unfold countAnsS countedM
  rw [room_eq hI hA, hA 0 (by decide) (by decide), hA 1 (by decide) (by decide), count_are hnd hI.2.1 (Nat.le_refl _), count_are hnd hI.2.1 (Nat.le_refl _), count_are hnd hI.2.1 (Nat.le_refl _), count_are hnd hI.2.1 (Nat.le_refl _), areM_agr hA]
  rcases (by omega : j = 0 ∨ j = 1 ∨ j = 2 ∨ j = 3 ∨ j = 4 ∨ j = 5 ∨ j = 6 ∨ j = 7 ∨ j = 8 ∨ j = 9 ∨ j = 10) with rfl | rfl | rfl | rfl | rfl | rfl | rfl | rfl | rfl | rfl | rfl <;> rfl
theorem foldD_congr {f g : Nat → Int32} : ∀ (m : Nat) (d : Int64), (∀ k, k < m → f k = g k) → foldD f m d = foldD g m d
  | 0, _, _ => rfl
  | m + 1, d, h => by rw [foldD, foldD, h m (by omega), foldD_congr m d (fun k q => h k (by omega))]
theorem fold2_congr {f g : Nat → Nat → Int32} {m : Nat} : ∀ (p : Nat) (d d' : Int64), d = d' → (∀ u k, u < p → k < m → f u k = g u k) → fold2 f m p d = fold2 g m p d'
  | 0, _, _, e, _ => e
  | p + 1, d, d', e, h => by
    rw [fold2, fold2, fold2_congr p d d' e (fun u k q => h u k (by omega))]
    exact foldD_congr m _ (fun k q => h p k (by omega) q)
theorem digest_eq {R M : Nat → Nat → Int32} {nd n dr : Nat} {fl : Int32} (hI : Inv R nd n dr) (hA : Agr R M) : digestS R nd n dr fl = digestM M nd n dr fl := by
  have hn := hI.1.1
  unfold digestS digestM
  exact fold2_congr n _ _ (fold2_congr nd _ _ (fold2_congr 8 _ _ (foldD_congr 11 _ (fun k hk => count_eq hI hA hk)) (fun u k hu hk => pot_eq hI hA hu hk)) (fun u k hu hk => dish_eq hI hA hu hk)) (fun u k hu hk => line_eq hA hn hu hk)
theorem agr_init : Agr initR initR := fun _ _ _ => rfl
theorem sN_nd0 (M : Nat → Nat → Int32) (n : Nat) : sN M n 0 = 0 := rfl
theorem inv_init : Inv initR 0 0 0 := by
  refine ⟨⟨by omega, by omega, fun i hi => absurd hi (Nat.not_lt_zero _), fun i hi => absurd hi (Nat.not_lt_zero _), fun i hi => absurd hi (Nat.not_lt_zero _), fun i hi => absurd hi (Nat.not_lt_zero _), fun m hm => ?_⟩, fun d hd => absurd hd (Nat.not_lt_zero _), Nat.le_refl _, fun m hm i j hi => ?_⟩
  · rw [sN_nd0]; omega
  · omega
end PU9
