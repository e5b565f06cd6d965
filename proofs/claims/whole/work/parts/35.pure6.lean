section PU7
-- the codes of the class are the model's
theorem in_below {x c e : Int32} (h : c.toInt + 1 = e.toInt) : isInS x 0 c = isBelowS x e := by
  unfold isInS isBelowS
  by_cases h0 : x < 0
  · rw [if_pos h0, if_pos h0]
  · rw [if_neg h0, if_neg h0]
    by_cases h1 : c < x
    · rw [if_pos h1, if_pos (Int32.le_iff_toInt_le.mpr (by have := Int32.lt_iff_toInt_lt.mp h1; omega))]
    · rw [if_neg h1, if_neg (fun q => h1 (Int32.lt_iff_toInt_lt.mpr (by have := Int32.le_iff_toInt_le.mp q; omega)))]
theorem in_dish {x : Int32} {n : Nat} (hn : n ≤ 1000) : isInS x 0 (nI n - 1) = isBelowS x (nI n) := in_below (by rw [predI_toInt (by omega), nI_toInt (by omega)]; omega)
theorem in_pot (x : Int32) : isInS x 0 7 = isBelowS x 8 := in_below (by decide)
theorem in_4 (x : Int32) : isInS x 0 4 = isBelowS x 5 := in_below (by decide)
theorem in_6 (x : Int32) : isInS x 0 6 = isBelowS x 7 := in_below (by decide)
theorem in_10 (x : Int32) : isInS x 0 10 = isBelowS x 11 := in_below (by decide)
theorem potT_X (u : Int32) : potT u = potX u := by unfold potT potX; rw [in_pot]
theorem potqT_X (u w : Int32) : potqT u w = potqX u w := by unfold potqT potqX; rw [in_pot, in_4]
theorem dishqT_X {nd : Nat} (hnd : nd ≤ 20) (d w : Int32) : dishqT nd d w = dishqX nd d w := by unfold dishqT dishqX; rw [in_dish (by omega), in_4]
theorem lineqT_X {n : Nat} (hn : n ≤ 120) (u w : Int32) : lineqT n u w = lineqX n u w := by unfold lineqT lineqX; rw [in_dish (by omega), in_6]
theorem countqT_X (w : Int32) : countqT w = countqX w := by unfold countqT countqX; rw [in_10]
theorem wouldT_X (w : Int32) : wouldT w = wouldX w := by unfold wouldT wouldX; rw [in_4]
theorem below_ex {x : Int32} {z : Nat} (hz : z < 1000000) (h : ¬ isBelowS x (nI z) = 0) : ∃ j, j < z ∧ x = nI j := by
  obtain ⟨j, hj, e⟩ := vp_in_of (below_in hz h) (by omega)
  exact ⟨j, hj, e⟩
theorem open_is {R : Nat → Nat → Int32} {nd n d : Nat} (hnd : nd ≤ 20) (hD : DSt R nd n) (hd : d < nd) : isOpenS R (nI d) = if isM R (nI d) n = 0 then 1 else 0 := by
  unfold isOpenS
  rw [at_lt (by decide) (by omega), hD d hd]
theorem isM_agr {R M : Nat → Nat → Int32} (h : Agr R M) (d : Int32) (n : Nat) : isM M d n = isM R d n := isM_congr (eqn_agr h n).1 (eqn_agr h n).2.1
theorem open_T {R M : Nat → Nat → Int32} {nd n dr : Nat} (hI : Inv R nd n dr) (hA : Agr R M) (d : Int32) : openT M n nd d = openX R nd d := by
  unfold openT openX isDishS
  rw [in_dish (by have := hI.1.2.1; omega), isM_agr hA]
  by_cases h : isBelowS d (nI nd) = 0
  · rw [if_pos h, if_pos h]
  · rw [if_neg h, if_neg h]
    have hnd := hI.1.2.1
    obtain ⟨j, hj, rfl⟩ := below_ex (by omega) h
    rw [open_is hnd hI.2.1 hj]
    by_cases ho : isM R (nI j) n = 0
    · rw [if_pos ho, if_pos ho, if_neg (by decide)]
    · rw [if_neg ho, if_neg ho, if_pos rfl]
theorem open_ex {R : Nat → Nat → Int32} {nd n dr : Nat} {d : Int32} (hI : Inv R nd n dr) (h : openX R nd d = 0) : ∃ j, j < nd ∧ d = nI j ∧ isM R (nI j) n = 0 := by
  unfold openX isDishS at h
  have hnd := hI.1.2.1
  by_cases h1 : isBelowS d (nI nd) = 0
  · rw [if_pos h1] at h; exact absurd h (by decide)
  · rw [if_neg h1] at h
    obtain ⟨j, hj, rfl⟩ := below_ex (by omega) h1
    rw [open_is hnd hI.2.1 hj] at h
    refine ⟨j, hj, rfl, Classical.byContradiction fun ho => ?_⟩
    rw [if_neg ho, if_pos rfl] at h
    exact absurd h (by decide)
theorem room_eq {R M : Nat → Nat → Int32} {nd n dr : Nat} (hI : Inv R nd n dr) (hA : Agr R M) : roomS R n nd = roomM M n nd := by
  rw [room_roomM hI.1.2.2.2.2.2.1 hI.1.1 hI.1.2.1 hI.2.1 (Nat.le_refl _), roomM_congr (eqn_agr hA n)]
theorem room_n {R : Nat → Nat → Int32} {nd n dr : Nat} (hI : Inv R nd n dr) (h : 2 ≤ roomS R n nd) : n + sN R n nd + 2 ≤ 120 := by
  rw [room_roomM hI.1.2.2.2.2.2.1 hI.1.1 hI.1.2.1 hI.2.1 (Nat.le_refl _)] at h
  exact (room_ge hI.1.1 hI.1.2.1).mp h
theorem begin_T {R M : Nat → Nat → Int32} {nd n dr : Nat} (hI : Inv R nd n dr) (hA : Agr R M) : beginT M n nd = beginX R n nd := by
  unfold beginT beginX
  have hnd := hI.1.2.1
  rw [← room_eq hI hA]
  by_cases h : nd = 20
  · subst h
    rw [if_pos (show nI 20 = (20 : Int32) from rfl), if_neg (show ¬ nI 20 < (20 : Int32) by decide)]
  · rw [if_neg (show ¬ nI nd = (20 : Int32) from fun q => h (nI_inj (b := 20) (by omega) (by omega) q)), if_pos (show nI nd < (20 : Int32) from (nI_ltI (b := 20) (by omega) (by omega)).mpr (by omega))]
theorem begin_ok {R M : Nat → Nat → Int32} {nd n dr : Nat} (hI : Inv R nd n dr) (hA : Agr R M) (h : beginX R n nd = 0) :
    n < 120 ∧ nd < 20 ∧ Inv (chalkR (stepR R 3 20 (nI nd) 0) n (nI nd) 0) (nd + 1) (n + 1) dr ∧ Agr (chalkR (stepR R 3 20 (nI nd) 0) n (nI nd) 0) (chalkM M n (nI nd) 0) := by
  unfold beginX at h
  have hnd := hI.1.2.1
  have h20 : nd < 20 := Classical.byContradiction fun q => by
    have : nd = 20 := by omega
    subst this
    rw [if_neg (by decide)] at h
    exact absurd h (by decide)
  have hroom : 2 ≤ roomS R n nd := Classical.byContradiction fun q => by
    rw [if_pos (show nI nd < (20 : Int32) from (nI_ltI (b := 20) (by omega) (by omega)).mpr (by omega)), if_neg q] at h
    exact absurd h (by decide)
  have hr := room_n hI hroom
  have hn : n < 120 := by omega
  obtain ⟨hC, hD, hdr, hU⟩ := hI
  have hno : ∀ i, i < n → ¬ R 4 i = nI nd := fun i hi q => by
    obtain ⟨c, q1, q2⟩ := hC.2.2.1 i hi
    have := nI_inj (by omega) (by omega) (q2.symm.trans q)
    omega
  have hAp : App R (chalkR (stepR R 3 20 (nI nd) 0) n (nI nd) 0) n (nI nd) 0 (-1) (-1) := app_of_step (app_chalk hn (nI nd) (by decide)) (by decide)
  have hG := core_grow hC h20
  have hs := app_sN hG hAp (Nat.lt_succ_self nd) (fun q => absurd q (by decide))
  have w0 : wN R n nd = 0 := by unfold wN; rw [is_none hno, if_neg (by decide)]
  have s0 : sN R n (nd + 1) = sN R n nd + wN R n nd := rfl
  have w1 : wN (chalkR (stepR R 3 20 (nI nd) 0) n (nI nd) 0) (n + 1) nd = 1 := by
    unfold wN
    rw [app_is hAp, if_pos rfl, stepM_0, if_pos rfl, app_kNn hAp, if_neg (fun q => absurd q.2 (by decide)), app_kN hAp (nI nd) (fun i hi q => absurd q (by decide)) (Nat.le_refl _), kN_none hno (Nat.le_refl _)]
  refine ⟨hn, h20, ⟨core_app hG hAp hn (Nat.lt_succ_self nd) (Or.inl rfl) (fun q => absurd q (by decide)) (fun q => absurd q (by decide)) (by omega), fun c hc => ?_, by omega, unqA_app hAp hU (by simp) (fun _ => hno) (fun q => absurd q (by decide))⟩, ?_⟩
  · rw [app_is hAp, stepM_0, chalkR_n hn _ _ (by decide), stepR_lt (by decide) h20, setM_s]
    by_cases e : c = nd
    · subst e; rw [upd_s, if_pos rfl]
    · rw [upd_n e, if_neg (fun q => e (nI_inj (by omega) (by omega) q).symm)]
      exact hD c (by omega)
  · rw [stepR_lt (by decide) h20]
    exact agr_chalk (agr_skip hA (Or.inl rfl) nd 0) hn (nI nd) 0
-- who holds a pot
def Hld (R : Nat → Nat → Int32) (n : Nat) (p : Int32) (c : Nat) : Prop := (∃ i, i < n ∧ R 4 i = nI c ∧ R 5 i = 1 ∧ R 6 i = p) ∧ isM R (nI c) n = 0
theorem held_spec {M : Nat → Nat → Int32} {p d : Int32} : ∀ n : Nat, (heldM M p d n = 0 ∧ ∀ i, i < n → ¬ (M 4 i = d ∧ M 5 i = 1 ∧ M 6 i = p)) ∨ (heldM M p d n = 1 ∧ ∃ i, i < n ∧ M 4 i = d ∧ M 5 i = 1 ∧ M 6 i = p)
  | 0 => Or.inl ⟨rfl, fun i hi => absurd hi (Nat.not_lt_zero _)⟩
  | n + 1 => by
    by_cases h : M 4 n = d ∧ M 5 n = 1 ∧ M 6 n = p
    · refine Or.inr ⟨?_, n, by omega, h⟩
      rw [heldM, if_pos h.1, if_pos h.2.1, if_pos h.2.2]
      rcases held_spec (M := M) (p := p) (d := d) n with q | q <;> rw [q.1] <;> decide
    · have e : heldM M p d (n + 1) = heldM M p d n := by
        have o : heldM M p d n ||| 0 = heldM M p d n := by
          rcases held_spec (M := M) (p := p) (d := d) n with q | q <;> rw [q.1] <;> decide
        rw [heldM]
        by_cases h1 : M 4 n = d
        · rw [if_pos h1]
          by_cases h2 : M 5 n = 1
          · rw [if_pos h2, if_neg (fun h3 => h ⟨h1, h2, h3⟩), o]
          · rw [if_neg h2, o]
        · rw [if_neg h1, o]
      rw [e]
      rcases held_spec (M := M) (p := p) (d := d) n with q | ⟨q, i, hi, q2⟩
      · refine Or.inl ⟨q.1, fun i hi => ?_⟩
        by_cases ei : i = n
        · rw [ei]; exact h
        · exact q.2 i (by omega)
      · exact Or.inr ⟨q, i, by omega, q2⟩
theorem heldB_iff {M : Nat → Nat → Int32} {n : Nat} {p : Int32} {c : Nat} : heldB M n p (nI c) = 0 ↔ ¬ Hld M n p c := by
  unfold heldB Hld
  rcases held_spec (M := M) (p := p) (d := nI c) n with ⟨q, q2⟩ | ⟨q, q2⟩
  · rw [q, if_pos rfl]
    exact ⟨fun _ z => by obtain ⟨⟨i, hi, z1⟩, _⟩ := z; exact q2 i hi z1, fun _ => rfl⟩
  · rw [q, if_neg (by decide)]
    by_cases ho : isM M (nI c) n = 0
    · rw [if_pos ho]
      exact ⟨fun z => absurd z (by decide), fun z => absurd ⟨q2, ho⟩ z⟩
    · rw [if_neg ho]
      exact ⟨fun _ z => ho z.2, fun _ => rfl⟩
theorem holderM_spec {M : Nat → Nat → Int32} {n : Nat} {p : Int32} : ∀ k i : Nat, (holderM M n p k i = -1 ∧ ∀ c, i ≤ c → c < i + k → ¬ Hld M n p c) ∨ ∃ c, i ≤ c ∧ c < i + k ∧ holderM M n p k i = nI c ∧ Hld M n p c
  | 0, i => Or.inl ⟨rfl, fun c h1 h2 => by omega⟩
  | k + 1, i => by
    rw [holderM]
    by_cases h : heldB M n p (nI i) = 0
    · rw [if_pos h]
      rcases holderM_spec (M := M) (n := n) (p := p) k (i + 1) with ⟨q, q2⟩ | ⟨c, q1, q2, q3, q4⟩
      · refine Or.inl ⟨q, fun c h1 h2 => ?_⟩
        by_cases e : c = i
        · rw [e]; exact heldB_iff.mp h
        · exact q2 c (by omega) (by omega)
      · exact Or.inr ⟨c, by omega, by omega, q3, q4⟩
    · rw [if_neg h]
      exact Or.inr ⟨i, by omega, by omega, rfl, Classical.byContradiction fun q => h (heldB_iff.mpr q)⟩
theorem holderS_spec {R : Nat → Nat → Int32} {nd n : Nat} {p : Int32} (hC : Core R nd n) (hD : DSt R nd n) : ∀ k i : Nat, i + k ≤ n → (holderS R p k i = -1 ∧ ∀ l, i ≤ l → l < i + k → ¬ (R 5 l = 1 ∧ R 6 l = p ∧ isM R (R 4 l) n = 0)) ∨ ∃ l, i ≤ l ∧ l < i + k ∧ holderS R p k i = R 4 l ∧ R 5 l = 1 ∧ R 6 l = p ∧ isM R (R 4 l) n = 0
  | 0, i, _ => Or.inl ⟨rfl, fun c h1 h2 => by omega⟩
  | k + 1, i, hk => by
    have hn := hC.1
    obtain ⟨c, hc, hc2⟩ := hC.2.2.1 i (by omega)
    have ho := open_is hC.2.1 hD hc
    rw [holderS, at_lt (by decide) (by omega), at_lt (by decide) (by omega), at_lt (by decide) (by omega)]
    have more : ¬ (R 5 i = 1 ∧ R 6 i = p ∧ isM R (R 4 i) n = 0) → (holderS R p k (i + 1) = -1 ∧ ∀ l, i ≤ l → l < i + (k + 1) → ¬ (R 5 l = 1 ∧ R 6 l = p ∧ isM R (R 4 l) n = 0)) ∨ ∃ l, i ≤ l ∧ l < i + (k + 1) ∧ holderS R p k (i + 1) = R 4 l ∧ R 5 l = 1 ∧ R 6 l = p ∧ isM R (R 4 l) n = 0 := by
      intro hnot
      rcases holderS_spec (p := p) hC hD k (i + 1) (by omega) with ⟨q, q2⟩ | ⟨l, q1, q2, q3, q4⟩
      · refine Or.inl ⟨q, fun l h1 h2 => ?_⟩
        by_cases e : l = i
        · rw [e]; exact hnot
        · exact q2 l (by omega) (by omega)
      · exact Or.inr ⟨l, by omega, by omega, q3, q4⟩
    by_cases h5 : R 5 i = 1
    · rw [if_pos h5]
      by_cases h6 : R 6 i = p
      · rw [if_pos h6, hc2, ho]
        by_cases hop : isM R (nI c) n = 0
        · rw [if_pos hop, if_neg (by decide)]
          exact Or.inr ⟨i, by omega, by omega, hc2.symm, h5, h6, by rw [hc2]; exact hop⟩
        · rw [if_neg hop, if_pos rfl]
          exact more (fun q => hop (by rw [← hc2]; exact q.2.2))
      · rw [if_neg h6]
        exact more (fun q => h6 q.2.1)
    · rw [if_neg h5]
      exact more (fun q => h5 q.1)
theorem hld_unq {R : Nat → Nat → Int32} {nd n dr c c2 : Nat} {p : Int32} (hI : Inv R nd n dr) (hc : c < nd) (hc2 : c2 < nd) (h1 : Hld R n p c) (h2 : Hld R n p c2) : c = c2 := by
  obtain ⟨⟨i, hi, a1, a2, a3⟩, a4⟩ := h1
  obtain ⟨⟨j, hj, b1, b2, b3⟩, b4⟩ := h2
  have := hI.2.2.2 n (Nat.le_refl _) i j hi hj a2 b2 (a3.trans b3.symm) (by rw [a1]; exact a4) (by rw [b1]; exact b4)
  rw [a1, b1] at this
  have hnd := hI.1.2.1
  exact nI_inj (by omega) (by omega) this
theorem holder_eq {R : Nat → Nat → Int32} {nd n dr : Nat} (hI : Inv R nd n dr) (p : Int32) : holderS R p n 0 = holderM R n p nd 0 := by
  have hnd := hI.1.2.1
  rcases holderM_spec (M := R) (n := n) (p := p) nd 0 with ⟨q, q2⟩ | ⟨c, q1, q2, q3, q4⟩
  · rw [q]
    rcases holderS_spec (p := p) hI.1 hI.2.1 n 0 (by omega) with ⟨z, _⟩ | ⟨l, z1, z2, z3, z4, z5, z6⟩
    · exact z
    · obtain ⟨c, hc, hc2⟩ := hI.1.2.2.1 l (by omega)
      exact absurd ⟨⟨l, by omega, hc2, z4, z5⟩, by rw [← hc2]; exact z6⟩ (q2 c (by omega) (by omega))
  · rw [q3]
    obtain ⟨⟨i, hi, a1, a2, a3⟩, a4⟩ := q4
    rcases holderS_spec (p := p) hI.1 hI.2.1 n 0 (by omega) with ⟨_, z⟩ | ⟨l, z1, z2, z3, z4, z5, z6⟩
    · exact absurd ⟨a2, a3, by rw [a1]; exact a4⟩ (z i (by omega) (by omega))
    · obtain ⟨c2, hc, hc2⟩ := hI.1.2.2.1 l (by omega)
      have : c = c2 := hld_unq hI (by omega) hc ⟨⟨i, hi, a1, a2, a3⟩, a4⟩ ⟨⟨l, by omega, hc2, z4, z5⟩, by rw [← hc2]; exact z6⟩
      rw [z3, hc2, this]
theorem cook_T {R M : Nat → Nat → Int32} {nd n dr : Nat} (hI : Inv R nd n dr) (hA : Agr R M) (d u x : Int32) : cookT M n nd d u x = cookX R n nd d u x := by
  unfold cookT cookX isDishS isPotS
  have hnd := hI.1.2.1
  rw [in_dish (by omega), in_pot, isM_agr hA, holderM_congr (eqn_agr hA n), ← holder_eq hI, ← room_eq hI hA]
  by_cases h : isBelowS d (nI nd) = 0
  · rw [if_pos h, if_pos h]
  · rw [if_neg h, if_neg h]
    by_cases h2 : isBelowS u 8 = 0
    · rw [if_pos h2, if_pos h2]
    · rw [if_neg h2, if_neg h2]
      obtain ⟨j, hj, rfl⟩ := below_ex (by omega) h
      rw [open_is hnd hI.2.1 hj]
      unfold isInS
      by_cases h3 : x < 0
      · rw [if_pos h3, if_pos h3, if_pos rfl]
      · rw [if_neg h3, if_neg h3]
        by_cases h4 : (999 : Int32) < x
        · rw [if_pos h4, if_pos rfl, if_neg (fun q => absurd (Int32.lt_iff_toInt_lt.mp h4) (by have := Int32.le_iff_toInt_le.mp q; omega))]
        · have h5 : x ≤ 999 := Int32.le_iff_toInt_le.mpr (by have q4 : ¬ (999 : Int32).toInt < x.toInt := fun q => h4 (Int32.lt_iff_toInt_lt.mpr q); omega)
          rw [if_neg h4, if_neg (show ¬ (1 : Int32) = 0 by decide), if_pos h5]
          by_cases ho : isM R (nI j) n = 0
          · rw [if_pos ho, if_pos ho, if_neg (show ¬ (1 : Int32) = 0 by decide)]
          · rw [if_neg ho, if_neg ho, if_pos rfl]
theorem cook_ok {R M : Nat → Nat → Int32} {nd n dr : Nat} {d u x : Int32} (hI : Inv R nd n dr) (hA : Agr R M) (h : cookX R n nd d u x = 0) :
    n < 120 ∧ atS 8 (R 0) u = M 0 u.toNatClampNeg ∧ Inv (spoonsR R n d 1 u x) nd (n + 1) dr ∧ Agr (spoonsR R n d 1 u x) (spoonsM M n d 1 u x (-1)) := by
  unfold cookX isDishS isPotS at h
  have hnd := hI.1.2.1
  by_cases h1 : isBelowS d (nI nd) = 0
  · rw [if_pos h1] at h; exact absurd h (by decide)
  rw [if_neg h1] at h
  by_cases h2 : isBelowS u 8 = 0
  · rw [if_pos h2] at h; exact absurd h (by decide)
  rw [if_neg h2] at h
  by_cases h3 : x < 0
  · rw [if_pos h3] at h; exact absurd h (by decide)
  rw [if_neg h3] at h
  by_cases h4 : x ≤ 999
  · rw [if_pos h4] at h
    obtain ⟨j, hj, rfl⟩ := below_ex (by omega) h1
    have hp : vp_in u 8 := below_in (z := 8) (by decide) h2
    rw [open_is hnd hI.2.1 hj] at h
    by_cases ho : isM R (nI j) n = 0
    · rw [if_pos ho, if_neg (by decide)] at h
      have hh : (holderS R u n 0 = -1 ∨ holderS R u n 0 = nI j) ∧ 2 ≤ roomS R n nd := by
        by_cases a : holderS R u n 0 = -1
        · rw [if_pos a] at h
          by_cases b : 2 ≤ roomS R n nd
          · exact ⟨Or.inl a, b⟩
          · rw [if_neg b] at h; exact absurd h (by decide)
        · rw [if_neg a] at h
          by_cases a2 : holderS R u n 0 = nI j
          · rw [if_pos a2] at h
            by_cases b : 2 ≤ roomS R n nd
            · exact ⟨Or.inr a2, b⟩
            · rw [if_neg b] at h; exact absurd h (by decide)
          · rw [if_neg a2] at h; exact absurd h (by decide)
      have hr := room_n hI hh.2
      have hn : n < 120 := by omega
      have hho := hh.1
      rw [holder_eq hI] at hho
      have hun : ∀ i, i < n → R 5 i = 1 → R 6 i = u → isM R (R 4 i) n = 0 → R 4 i = nI j := by
        intro i hi k1 k2 k3
        obtain ⟨c, hc, hc2⟩ := hI.1.2.2.1 i hi
        have hH : Hld R n u c := ⟨⟨i, hi, hc2, k1, k2⟩, by rw [← hc2]; exact k3⟩
        rcases holderM_spec (M := R) (n := n) (p := u) nd 0 with ⟨q, q2⟩ | ⟨c2, q1, q2, q3, q4⟩
        · exact absurd hH (q2 c (by omega) (by omega))
        · have := hld_unq hI hc (by omega) hH q4
          rw [q3] at hho
          rcases hho with z | z
          · exact absurd z (nI_m1 (by omega))
          · rw [hc2, this, z]
      obtain ⟨hC, hD, hdr, hU⟩ := hI
      have hAp := app_spoons (R := R) hn (nI j) hp x
      have hs := app_sN hC hAp hj (fun q => absurd q (by decide))
      have w0 : wN R n j = 1 + kN R n (nI j) n := by unfold wN; rw [if_pos ho]
      have w1 : wN (spoonsR R n (nI j) 1 u x) (n + 1) j = 1 + (kN R n (nI j) n + 1) := by
        unfold wN
        rw [app_is hAp, if_pos rfl, stepM_1, if_pos ho, app_kNn hAp, if_pos ⟨rfl, rfl⟩, app_kN hAp (nI j) (fun i hi q => absurd q (by decide)) (Nat.le_refl _)]
      refine ⟨hn, ?_, ⟨core_app hC hAp hn hj (Or.inr hp) (fun _ => hp) (fun q => absurd q (by decide)) (by omega), fun c hc => ?_, by omega, unqA_app hAp hU (by simp) (fun q => absurd q (by decide)) (fun _ => hun)⟩, agr_spoons hA hn (nI j) 1 hp x⟩
      · rw [at_vp (by decide) hp, hA 0 (by decide) (by decide)]
      · have e3 : spoonsR R n (nI j) 1 u x 3 = R 3 := by
          rw [spoonsR_eq hn _ _ hp, setM_n (by decide), setM_n (by decide), setM_n (by decide), setM_n (by decide), chalkR_n hn _ _ (by decide)]
        rw [e3, app_is hAp, stepM_1, hD c hc]
        split <;> rfl
    · rw [if_neg ho, if_pos rfl] at h; exact absurd h (by decide)
  · rw [if_neg h4] at h; exact absurd h (by decide)
theorem dryN_le {dr e n : Nat} (h1 : dr ≤ n) (h2 : e ≤ n) : dryN dr e ≤ n := by
  unfold dryN
  split <;> omega
theorem finish_ok {R M : Nat → Nat → Int32} {nd n dr : Nat} {d : Int32} (hI : Inv R nd n dr) (hA : Agr R M) (h : openX R nd d = 0) :
    n < 120 ∧ Inv (stepR (chalkR R n d 2) 3 20 d 1) nd (n + 1) (dryN dr (n + 1)) ∧ Agr (stepR (chalkR R n d 2) 3 20 d 1) (chalkM M n d 2) := by
  obtain ⟨j, hj, rfl, ho⟩ := open_ex hI h
  obtain ⟨hC, hD, hdr, hU⟩ := hI
  have hnd := hC.2.1
  have hko := kp_open hC hj ho
  have hn : n < 120 := by omega
  have hAp : App R (stepR (chalkR R n (nI j) 2) 3 20 (nI j) 1) n (nI j) 2 (-1) (-1) := app_step (app_chalk hn (nI j) (by decide)) (by decide)
  have hst : stepR (chalkR R n (nI j) 2) 3 20 (nI j) 1 = setM (chalkR R n (nI j) 2) 3 j 1 := stepR_lt (by decide) (by omega)
  have hs := app_sN hC hAp hj (fun q => absurd q (by decide))
  have w0 : wN R n j = 1 + kN R n (nI j) n := by unfold wN; rw [if_pos ho]
  have w1 : wN (stepR (chalkR R n (nI j) 2) 3 20 (nI j) 1) (n + 1) j = 0 := by
    unfold wN
    rw [app_is hAp, if_pos rfl, stepM_2, if_neg (by decide)]
  have hb := hC.2.2.2.2.2.2 n (Nat.le_refl _)
  refine ⟨hn, ⟨core_app hC hAp hn hj (Or.inl rfl) (fun q => absurd q (by decide)) (fun q => absurd q (by decide)) (by omega), fun c hc => ?_, dryN_le (by omega) (Nat.le_refl _), unqA_app hAp hU (by simp) (fun q => absurd q (by decide)) (fun q => absurd q (by decide))⟩, ?_⟩
  · rw [app_is hAp, stepM_2, hst, setM_s, chalkR_n hn _ _ (by decide)]
    by_cases e : c = j
    · subst e; rw [upd_s, if_pos rfl]
    · rw [upd_n e, if_neg (fun q => e (nI_inj (by omega) (by omega) q).symm)]
      exact hD c hc
  · rw [hst]
    exact agr_skip (agr_chalk hA hn (nI j) 2) (Or.inl rfl) j 1
theorem drop_ok {R M : Nat → Nat → Int32} {nd n dr : Nat} {d : Int32} (hI : Inv R nd n dr) (hA : Agr R M) (h : openX R nd d = 0) :
    undoOk M n d ∧ undoMN M n d = undoN R n d ∧ undoMC M n d = undoC R n d ∧ Inv (undoR R n d) nd (undoN R n d) dr ∧ Agr (undoR R n d) (undoMR M n d) := by
  obtain ⟨j, hj, rfl, ho⟩ := open_ex hI h
  obtain ⟨hC, hD, hdr, hU⟩ := hI
  obtain ⟨e1, e2, e3, e4, e5, e6, e7, e8, e9, _⟩ := undo_end hA hC hU hj ho
  exact ⟨e1, e3, e4, ⟨e5, e9 hD, by omega, e6⟩, e2⟩
theorem inv_rows {R R' : Nat → Nat → Int32} {nd n dr dr' : Nat} (h : ∀ k, (k = 3 ∨ k = 4 ∨ k = 5 ∨ k = 6 ∨ k = 9 ∨ k = 10) → R' k = R k) (hdr : dr' ≤ n) (hI : Inv R nd n dr) : Inv R' nd n dr' := by
  obtain ⟨⟨c1, c2, c3, c4, c5, c6, c7⟩, hD, _, hU⟩ := hI
  have r3 := h 3 (by simp)
  have r4 := h 4 (by simp)
  have r5 := h 5 (by simp)
  have r6 := h 6 (by simp)
  have r9 := h 9 (by simp)
  have r10 := h 10 (by simp)
  have hE : Eqn R' R n := ⟨fun i _ => by rw [r4], fun i _ => by rw [r5], fun i _ => by rw [r6], fun i _ => by rw [r9]⟩
  refine ⟨⟨c1, c2, by rw [r4]; exact c3, by rw [r6]; exact c4, by rw [r5, r6]; exact c5, ?_, fun m hm => ?_⟩, fun d hd => ?_, hdr, unqA_congr hE hU⟩
  · unfold TBk
    rw [r5, r9, r10]
    exact c6
  · rw [sN_congr (hE.le hm) nd]; exact c7 m hm
  · rw [r3, isM_congr hE.1 hE.2.1]; exact hD d hd
theorem pot_vp {u : Int32} (h : potX u = 0) : vp_in u 8 := by
  unfold potX isPotS at h
  by_cases h2 : isBelowS u 8 = 0
  · rw [if_pos h2] at h; exact absurd h (by decide)
  · exact below_in (z := 8) (by decide) h2
theorem latestM_agr {R M : Nat → Nat → Int32} (h : Agr R M) (p : Int32) (n : Nat) : latestM M p n = latestM R p n := latestM_congr (eqn_agr h n)
theorem latN_agr {R M : Nat → Nat → Int32} (h : Agr R M) (p : Int32) : ∀ n : Nat, latN M p n = latN R p n
  | 0 => rfl
  | n + 1 => by
    unfold latN
    rw [h 6 (by decide) (by decide), latN_agr h p n]
theorem shelve_ok {R M : Nat → Nat → Int32} {nd n dr : Nat} {u : Int32} (hI : Inv R nd n dr) (hA : Agr R M) (h : potX u = 0) :
    latN M u n = lastN1 (R 6) u n ∧ Inv (stepR (stepR R 1 8 u (atS 8 (R 0) u)) 2 8 u (lastS (R 6) u n)) nd n (dryN dr (lastN1 (R 6) u n)) ∧ Agr (stepR (stepR R 1 8 u (atS 8 (R 0) u)) 2 8 u (lastS (R 6) u n)) (setM (setM M 1 u.toNatClampNeg (M 0 u.toNatClampNeg)) 2 u.toNatClampNeg (latestM M u n)) := by
  have hp := pot_vp h
  have hn := hI.1.1
  rw [stepR_vp (by decide) hp, stepR_vp (by decide) hp, at_vp (by decide) hp, latN_agr hA, lastN_latN hn, last_latest hn, latestM_agr hA, hA 0 (by decide) (by decide)]
  refine ⟨rfl, inv_rows (fun k hk => ?_) (dryN_le hI.2.2.1 (latN_le R u n)) hI, agr_set (agr_set hA 1 _ _) 2 _ _⟩
  rw [setM_n (by omega), setM_n (by omega)]
theorem blow_ok {R : Nat → Nat → Int32} {nd n dr : Nat} (hI : Inv R nd n dr) : Inv R nd n (dryN dr n) := ⟨hI.1, hI.2.1, dryN_le hI.2.2.1 (Nat.le_refl _), hI.2.2.2⟩
end PU7
