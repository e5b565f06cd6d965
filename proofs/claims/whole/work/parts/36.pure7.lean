section PU8
-- the spoons that an undoing leaves
def lu (R : Nat → Nat → Int32) (n : Nat) (d p : Int32) : Nat → Int32 → Int32
  | 0, acc => acc
  | i + 1, acc => lu R n d p i (if R 6 i = p then (if keptB R n i d = 0 then acc else R 7 i) else acc)
theorem spoonsAfter_lu {R : Nat → Nat → Int32} {n e : Nat} {d p : Int32} (hT : TBk R n) (hn : n ≤ 120) (he : e ≤ n) : ∀ (i : Nat) (acc : Int32), i ≤ e → spoonsAfterS R e d p i acc = lu R e d p i acc
  | 0, _, _ => rfl
  | i + 1, acc, hi => by
    rw [spoonsAfterS, lu, at_lt (by decide) (by omega), at_lt (by decide) (by omega), change_kept hT hn he (by omega), spoonsAfter_lu hT hn he i _ (by omega)]
theorem lu_congr {R R' : Nat → Nat → Int32} {n n' : Nat} {d p : Int32} : ∀ (i : Nat) (acc : Int32), i ≤ n → i ≤ n' → (∀ j, j < i → R 6 j = R' 6 j) → (∀ j, j < i → R 7 j = R' 7 j) → (∀ j, j < i → (Kp R n j d ↔ Kp R' n' j d)) → lu R n d p i acc = lu R' n' d p i acc
  | 0, _, _, _, _, _, _ => rfl
  | i + 1, acc, h1, h2, h6, h7, hK => by
    rw [lu, lu, h6 i (by omega), h7 i (by omega), keptB_iff2 (by omega) (by omega) (hK i (by omega)), lu_congr i _ (by omega) (by omega) (fun j q => h6 j (by omega)) (fun j q => h7 j (by omega)) (fun j q => hK j (by omega))]
theorem lu_more {R : Nat → Nat → Int32} {n m : Nat} {d p : Int32} (h : ∀ j, m ≤ j → j < n → ¬ Kp R n j d) : ∀ (e : Nat) (acc : Int32), m + e ≤ n → lu R n d p (m + e) acc = lu R n d p m acc
  | 0, _, _ => rfl
  | e + 1, acc, he => by
    have k : keptB R n (m + e) d = 0 := (keptB_iff (by omega)).mpr (h _ (by omega) (by omega))
    rw [← Nat.add_assoc, lu, k, if_pos rfl]
    have : (if R 6 (m + e) = p then acc else acc) = acc := by split <;> rfl
    rw [this, lu_more h e acc (by omega)]
theorem lu_undo {R M : Nat → Nat → Int32} {nd n d : Nat} {p : Int32} (hA : Agr R M) (hC : Core R nd n) (hd : d < nd) (ho : isM R (nI d) n = 0) (hp : vp_in p 8) : ∀ k : Nat, k ≤ n → lu R n (nI d) p (n - k) ((undoP R n (nI d) k).1 0 p.toNatClampNeg) = lu R n (nI d) p n (R 0 p.toNatClampNeg)
  | 0, _ => rfl
  | k + 1, hk => by
    rw [← lu_undo hA hC hd ho hp k (by omega)]
    have hI := undo_all hA hC hd ho k (by omega)
    unfold UndoI at hI
    rw [undoP]
    obtain ⟨U, hUe⟩ : ∃ z, z = undoP R n (nI d) k := ⟨_, rfl⟩
    obtain ⟨V, hVe⟩ : ∃ z, z = undoM M n (nI d) k := ⟨_, rfl⟩
    rw [← hUe, ← hVe] at hI
    rw [← hUe]
    obtain ⟨a1, a2, a3, a4, a5, a6, a7, a8, a9, a10, a11, a12, a14, a13⟩ := hI
    obtain ⟨i, hi⟩ : ∃ z, z = n - 1 - k := ⟨_, rfl⟩
    rw [← hi]
    have hin : i < n := by omega
    have hch : isChangeS U.1 (nI i) (nI d) (nI U.2.1) = keptB R n i (nI d) := by
      rw [change_kept a4.2.2.2.2.2.1 a4.1 (Nat.le_refl _) (by omega)]
      exact keptB_iff2 (by omega) hin (a8 i (by omega))
    rw [show n - k = i + 1 by omega, show n - (k + 1) = i by omega, lu, hch]
    have e6 := a7 6 (by decide) (by decide) i hin
    have e7 := a7 7 (by decide) (by decide) i hin
    by_cases hz : keptB R n i (nI d) = 0
    · rw [if_pos hz, if_pos hz]
      have : (if R 6 i = p then U.1 0 p.toNatClampNeg else U.1 0 p.toNatClampNeg) = U.1 0 p.toNatClampNeg := by split <;> rfl
      rw [this]
    · rw [if_neg hz, if_neg hz]
      have hK : Kp U.1 U.2.1 i (nI d) := Classical.byContradiction fun q => hz ((keptB_iff hin).mpr (fun z => q ((a8 i (by omega)).mpr z)))
      obtain ⟨t1, t2, t3, t4⟩ := take_core a4 hd (by omega) hK ((a6 _).trans ho)
      have hrow : takeBackR U.1 U.2.1 (nI i) 0 = upd (U.1 0) (U.1 6 i).toNatClampNeg (U.1 7 i) := by
        rw [take_eq t1 (by omega) t2]
        unfold chalkM
        simp [setM, va_up]
      show lu R n (nI d) p i (takeBackR U.1 U.2.1 (nI i) 0 p.toNatClampNeg) = _
      rw [hrow, e6, e7]
      rw [e6] at t2
      obtain ⟨x, hx, hx2⟩ := vp_in_of hp (by omega)
      obtain ⟨y, hy, hy2⟩ := vp_in_of t2 (by omega)
      rw [hy2, hx2, nI_clamp (by omega), nI_clamp (by omega)]
      by_cases e : y = x
      · rw [if_pos (by rw [e]), e, upd_s]
      · rw [if_neg (fun q => e (nI_inj (by omega) (by omega) q)), upd_n (fun q => e q.symm)]
-- the wipe
theorem wipe1_n {R : Nat → Nat → Int32} {dr k : Nat} (hk : ¬ k = 10) : ∀ i : Nat, wipe1R R dr i k = R k
  | 0 => rfl
  | i + 1 => by
    rw [wipe1R]
    split
    · exact wipe1_n hk i
    · rw [stepR_n hk]; exact wipe1_n hk i
theorem wipe1_10 {R : Nat → Nat → Int32} {dr : Nat} : ∀ i : Nat, i ≤ 120 → ∀ j, wipe1R R dr i 10 j = if j < i then (if R 10 j < nI dr then R 10 j else -1) else R 10 j
  | 0, _, j => by rw [if_neg (Nat.not_lt_zero _)]; rfl
  | i + 1, hi, j => by
    have ih := wipe1_10 (R := R) (dr := dr) i (by omega)
    rw [wipe1R, at_lt (by decide) (by omega), ih i, if_neg (Nat.lt_irrefl i)]
    by_cases h : R 10 i < nI dr
    · rw [if_pos h, ih j]
      by_cases e : j = i
      · subst e; rw [if_neg (Nat.lt_irrefl j), if_pos (Nat.lt_succ_self j), if_pos h]
      · by_cases q : j < i
        · rw [if_pos q, if_pos (show j < i + 1 by omega)]
        · rw [if_neg q, if_neg (show ¬ j < i + 1 by omega)]
    · rw [if_neg h, stepR_lt (by decide) (by omega), setM_s]
      by_cases e : j = i
      · subst e; rw [upd_s, if_pos (Nat.lt_succ_self j), if_neg h]
      · rw [upd_n e, ih j]
        by_cases q : j < i
        · rw [if_pos q, if_pos (show j < i + 1 by omega)]
        · rw [if_neg q, if_neg (show ¬ j < i + 1 by omega)]
theorem wipe2_n {R : Nat → Nat → Int32} {dr k : Nat} (hk : ¬ k = 3) : ∀ d : Nat, wipe2R R dr d k = R k
  | 0 => rfl
  | d + 1 => by
    rw [wipe2R, stepR_n hk]
    exact wipe2_n hk d
theorem wipe2_3 {R : Nat → Nat → Int32} {dr : Nat} (hdr : dr ≤ 120) : ∀ d : Nat, d ≤ 20 → ∀ c, c < d → wipe2R R dr d 3 c = isM R (nI c) dr
  | 0, _, c, hc => absurd hc (Nat.not_lt_zero _)
  | d + 1, hd, c, hc => by
    rw [wipe2R, stepR_lt (by decide) (by omega), setM_s]
    by_cases e : c = d
    · subst e
      rw [upd_s, state_isM hdr]
      exact isM_congr (fun i _ => by rw [wipe2_n (by decide)]) (fun i _ => by rw [wipe2_n (by decide)])
    · rw [upd_n e]
      exact wipe2_3 hdr d (by omega) c (by omega)
theorem wipe_n {R : Nat → Nat → Int32} {nd dr k : Nat} (h3 : ¬ k = 3) (h10 : ¬ k = 10) : wipeR R nd dr k = R k := by
  unfold wipeR
  rw [wipe2_n h3, wipe1_n h10]
theorem wipe_eqn (R : Nat → Nat → Int32) (nd dr m : Nat) : Eqn (wipeR R nd dr) R m :=
  ⟨fun i _ => by rw [wipe_n (by decide) (by decide)], fun i _ => by rw [wipe_n (by decide) (by decide)], fun i _ => by rw [wipe_n (by decide) (by decide)], fun i _ => by rw [wipe_n (by decide) (by decide)]⟩
theorem wipe_inv {R : Nat → Nat → Int32} {nd n dr : Nat} (hI : Inv R nd n dr) : Inv (wipeR R nd dr) nd dr dr := by
  obtain ⟨⟨c1, c2, c3, c4, c5, c6, c7⟩, hD, hdr, hU⟩ := hI
  have e4 : wipeR R nd dr 4 = R 4 := wipe_n (by decide) (by decide)
  have e5 : wipeR R nd dr 5 = R 5 := wipe_n (by decide) (by decide)
  have e6 : wipeR R nd dr 6 = R 6 := wipe_n (by decide) (by decide)
  have e9 : wipeR R nd dr 9 = R 9 := wipe_n (by decide) (by decide)
  have e10 : ∀ j, j < dr → wipeR R nd dr 10 j = if R 10 j < nI dr then R 10 j else -1 := fun j hj => by
    unfold wipeR
    rw [wipe2_n (by decide), wipe1_10 dr (by omega) j, if_pos hj]
  refine ⟨⟨by omega, c2, fun i hi => ?_, fun i hi => ?_, fun i hi => ?_, fun i hi => ?_, fun m hm => ?_⟩, fun d hd => ?_, Nat.le_refl _, unqA_congr (wipe_eqn R nd dr dr) (fun m hm => hU m (by omega))⟩
  · rw [e4]; exact c3 i (by omega)
  · rw [e6]; exact c4 i (by omega)
  · rw [e5, e6]; exact c5 i (by omega)
  · rw [e5, e9, e10 i hi]
    obtain ⟨t1, t2⟩ := c6 i (by omega)
    by_cases h : R 10 i < nI dr
    · rw [if_pos h]
      refine ⟨?_, fun j h1 h2 => t2 j h1 (by omega)⟩
      rcases t1 with t1 | ⟨j, q1, q2, q3⟩
      · exact Or.inl t1
      · rw [q3] at h
        exact Or.inr ⟨j, q1, (nI_ltI (by omega) (by omega)).mp h, q3⟩
    · rw [if_neg h]
      refine ⟨Or.inl rfl, fun j h1 h2 => ?_⟩
      refine ⟨fun q => absurd q.symm (nI_m1 (by omega)), fun q => absurd ((t2 j h1 (by omega)).mpr q) (fun z => ?_)⟩
      rw [z] at h
      exact h ((nI_ltI (by omega) (by omega)).mpr h2)
  · rw [sN_congr (wipe_eqn R nd dr m) nd]; exact c7 m (by omega)
  · rw [isM_congr (wipe_eqn R nd dr dr).1 (wipe_eqn R nd dr dr).2.1]
    unfold wipeR
    rw [wipe2_3 (by omega) nd c2 d hd]
    exact isM_congr (fun i _ => by rw [wipe1_n (by decide)]) (fun i _ => by rw [wipe1_n (by decide)])
-- the doing anew
theorem fall1_n {M : Nat → Nat → Int32} {k : Nat} (hk : ¬ k = 0) : ∀ i : Nat, fall1M M i k = M k
  | 0 => rfl
  | i + 1 => by rw [fall1M, setM_n hk]; exact fall1_n hk i
theorem fall1_0 {M : Nat → Nat → Int32} : ∀ i : Nat, ∀ j, fall1M M i 0 j = if j < i then M 1 j else M 0 j
  | 0, j => by rw [if_neg (Nat.not_lt_zero _)]; rfl
  | i + 1, j => by
    rw [fall1M, setM_s, fall1_n (k := 1) (by decide)]
    by_cases e : j = i
    · subst e; rw [upd_s, if_pos (Nat.lt_succ_self j)]
    · rw [upd_n e, fall1_0 i j]
      by_cases q : j < i
      · rw [if_pos q, if_pos (show j < i + 1 by omega)]
      · rw [if_neg q, if_neg (show ¬ j < i + 1 by omega)]
theorem fallB_0 (R : Nat → Nat → Int32) (nd dr : Nat) (j : Nat) : fallB R nd dr 0 j = if j < 8 then R 1 j else R 0 j := by
  unfold fallB
  rw [show va_up (wipeR R nd dr) 0 (va_cpy (wipeR R nd dr 1) (wipeR R nd dr 0) 0 0 8) 0 = va_cpy (wipeR R nd dr 1) (wipeR R nd dr 0) 0 0 8 from if_pos rfl, wipe_n (by decide) (by decide), wipe_n (by decide) (by decide)]
  unfold va_cpy
  by_cases h : j < 8
  · rw [if_pos h, if_pos (by omega)]; simp
  · rw [if_neg h, if_neg (by omega)]
theorem fallB_n {R : Nat → Nat → Int32} {nd dr k : Nat} (hk : ¬ k = 0) : fallB R nd dr k = wipeR R nd dr k := if_neg hk
theorem agr_fallB {R M : Nat → Nat → Int32} (h : Agr R M) (nd dr : Nat) : Agr (fallB R nd dr) (fall1M M 8) := by
  intro k h3 h10
  by_cases h0 : k = 0
  · subst h0
    funext j
    rw [fallB_0, fall1_0, h 0 (by decide) (by decide), h 1 (by decide) (by decide)]
  · rw [fallB_n h0, wipe_n h3 h10, fall1_n h0, h k h3 h10]
theorem doR_n {R : Nat → Nat → Int32} {k : Nat} (hk : ¬ k = 0) : ∀ i : Nat, doR R i k = R k
  | 0 => rfl
  | i + 1 => by
    rw [doR]
    split
    · exact doR_n hk i
    · rw [stepR_n hk]; exact doR_n hk i
theorem todo_congr {R R' : Nat → Nat → Int32} (h2 : R 2 = R' 2) (h6 : R 6 = R' 6) (i : Int32) : isToDoS R i = isToDoS R' i := by
  unfold isToDoS
  rw [h2, h6]
/-- class and model do the same anew: the states, how many, which first, and what each pot has then -/
theorem do_all {R M B : Nat → Nat → Int32} {dr : Nat} (hdr : dr ≤ 120) (h6 : ∀ i, i < dr → R 6 i = -1 ∨ vp_in (R 6 i) 8) (b2 : B 2 = R 2) (b6 : B 6 = R 6) (b8 : B 8 = R 8) (hA : Agr B M) : ∀ i : Nat, i ≤ dr →
    Agr (doR B i) (fall2M M i).1 ∧ (fall2M M i).2.1 = doC B i ∧ (fall2M M i).2.1 = toDoS R i ∧ (if (fall2M M i).2.2 = -1 then firstToDoS R (dr - i) i else (fall2M M i).2.2) = firstToDoS R dr 0 ∧ ∀ p, vp_in p 8 → B 0 p.toNatClampNeg = atS 8 (R 1) p → doR B i 0 p.toNatClampNeg = left1S R p i
  | 0, _ => ⟨hA, rfl, rfl, by rw [fall2M, if_pos rfl]; rfl, fun p hp h => h⟩
  | i + 1, hi => by
    obtain ⟨i1, i2, i3, i4, i5⟩ := do_all hdr h6 b2 b6 b8 hA i (by omega)
    have hf : firstToDoS R (dr - i) i = if isToDoS R (nI i) = 0 then firstToDoS R (dr - (i + 1)) (i + 1) else nI i := by
      rw [show dr - i = (dr - (i + 1)) + 1 by omega, firstToDoS]
    have td : isToDoS (doR B i) (nI i) = isToDoS R (nI i) := todo_congr (by rw [doR_n (by decide), b2]) (by rw [doR_n (by decide), b6]) _
    have m6 : (fall2M M i).1 6 = R 6 := by rw [i1 6 (by decide) (by decide), doR_n (by decide), b6]
    have m2 : (fall2M M i).1 2 = R 2 := by rw [i1 2 (by decide) (by decide), doR_n (by decide), b2]
    have m8 : (fall2M M i).1 8 = R 8 := by rw [i1 8 (by decide) (by decide), doR_n (by decide), b8]
    have d6 : doR B i 6 = R 6 := by rw [doR_n (by decide), b6]
    have d8 : doR B i 8 = R 8 := by rw [doR_n (by decide), b8]
    have skip : isToDoS R (nI i) = 0 → (fall2M M (i + 1) = fall2M M i) → _ := fun (hz : isToDoS R (nI i) = 0) (he : fall2M M (i + 1) = fall2M M i) => (show Agr (doR B (i + 1)) (fall2M M (i + 1)).1 ∧ (fall2M M (i + 1)).2.1 = doC B (i + 1) ∧ (fall2M M (i + 1)).2.1 = toDoS R (i + 1) ∧ (if (fall2M M (i + 1)).2.2 = -1 then firstToDoS R (dr - (i + 1)) (i + 1) else (fall2M M (i + 1)).2.2) = firstToDoS R dr 0 ∧ ∀ p, vp_in p 8 → B 0 p.toNatClampNeg = atS 8 (R 1) p → doR B (i + 1) 0 p.toNatClampNeg = left1S R p (i + 1) by
      rw [he, doR, doC, toDoS, td, if_pos hz, if_pos hz, if_pos hz]
      rw [hf, if_pos hz] at i4
      refine ⟨i1, i2, i3, i4, fun p hp h => ?_⟩
      rw [i5 p hp h, left1S, if_pos hz]
      split <;> rfl)
    by_cases h1 : R 6 i = -1
    · have hz : isToDoS R (nI i) = 0 := by unfold isToDoS; rw [at_lt (by decide) (by omega), if_pos h1]
      exact skip hz (by rw [fall2M, if_pos (by rw [m6]; exact h1)])
    · have hv : vp_in (R 6 i) 8 := (h6 i (by omega)).resolve_left h1
      by_cases h2 : R 2 (R 6 i).toNatClampNeg < nI i
      · have hz : isToDoS R (nI i) = 1 := by
          unfold isToDoS
          rw [at_lt (by decide) (by omega), if_neg h1, at_vp (by decide) hv, if_neg (fun q => by
            have a := Int32.le_iff_toInt_le.mp q
            have b := Int32.lt_iff_toInt_lt.mp h2
            omega)]
        have nz : ¬ isToDoS R (nI i) = 0 := by rw [hz]; decide
        have he : fall2M M (i + 1) = (setM (fall2M M i).1 0 (R 6 i).toNatClampNeg (R 8 i), (fall2M M i).2.1 + 1, if (fall2M M i).2.2 = -1 then nI i else (fall2M M i).2.2) := by
          rw [fall2M, m6, m2, m8, if_neg h1, if_pos h2]
        rw [he, doR, doC, toDoS, td, if_neg nz, if_neg nz, if_neg nz, d6, d8, at_lt (by decide) (by omega), at_lt (by decide) (by omega), stepR_vp (by decide) hv]
        rw [hf, if_neg nz] at i4
        refine ⟨agr_set i1 0 _ _, by rw [i2], by rw [i3], ?_, fun p hp h => ?_⟩
        · rw [← i4]
          show (if (if (fall2M M i).2.2 = -1 then nI i else (fall2M M i).2.2) = -1 then _ else (if (fall2M M i).2.2 = -1 then nI i else (fall2M M i).2.2)) = _
          by_cases q : (fall2M M i).2.2 = -1
          · rw [if_pos q, if_neg (nI_m1 (by omega))]
          · rw [if_neg q, if_neg q]
        · rw [setM_s, left1S, at_lt (by decide) (by omega), at_lt (by decide) (by omega), if_neg nz, ← i5 p hp h]
          obtain ⟨x, hx, hx2⟩ := vp_in_of hp (by omega)
          obtain ⟨y, hy, hy2⟩ := vp_in_of hv (by omega)
          rw [hy2, hx2, nI_clamp (by omega), nI_clamp (by omega)]
          by_cases e : y = x
          · rw [if_pos (by rw [e]), e, upd_s]
          · rw [if_neg (fun q => e (nI_inj (by omega) (by omega) q)), upd_n (fun q => e q.symm)]
      · have hz : isToDoS R (nI i) = 0 := by
          unfold isToDoS
          rw [at_lt (by decide) (by omega), if_neg h1, at_vp (by decide) hv, if_pos (Int32.le_iff_toInt_le.mpr (by
            have b : ¬ (R 2 (R 6 i).toNatClampNeg).toInt < (nI i).toInt := fun q => h2 (Int32.lt_iff_toInt_lt.mpr q)
            omega))]
        exact skip hz (by rw [fall2M, m6, m2, if_neg h1, if_neg h2])
end PU8
