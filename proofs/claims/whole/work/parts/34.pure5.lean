section PU6
/-- .. nor did they ever -/
def UnqA (R : Nat → Nat → Int32) (n : Nat) : Prop := ∀ m, m ≤ n → Unq R m
/-- what holds of the class's rows between the calls -/
def Inv (R : Nat → Nat → Int32) (nd n dr : Nat) : Prop := Core R nd n ∧ DSt R nd n ∧ dr ≤ n ∧ UnqA R n
theorem stepM_1 (x : Int32) : stepM 1 x = x := rfl
theorem stepM_3 (x : Int32) : stepM 3 x = x := rfl
theorem stepM_4 (x : Int32) : stepM 4 x = 2 := rfl
theorem stepM_2 (x : Int32) : stepM 2 x = 1 := rfl
theorem stepM_0 (x : Int32) : stepM 0 x = 0 := rfl
theorem isM_ext {R U : Nat → Nat → Int32} {n n' : Nat} {c : Int32} (h4 : ∀ i, i < n → U 4 i = R 4 i) (h5 : ∀ i, i < n → U 5 i = R 5 i) (h3 : ∀ j, n ≤ j → j < n' → U 5 j = 3) : ∀ e : Nat, n + e ≤ n' → isM U c (n + e) = isM R c n
  | 0, _ => isM_congr h4 h5
  | e + 1, he => by
    rw [← Nat.add_assoc, isM, h3 (n + e) (by omega) (by omega), isM_ext h4 h5 h3 e (by omega), stepM_3]
    split <;> rfl
theorem unq_congr {R R' : Nat → Nat → Int32} {n : Nat} (h : Eqn R' R n) (hU : Unq R n) : Unq R' n := by
  intro i j hi hj k1 k2 k3 k4 k5
  rw [h.1 i hi, isM_congr h.1 h.2.1] at k4
  rw [h.1 j hj, isM_congr h.1 h.2.1] at k5
  rw [h.2.2.1 i hi, h.2.2.1 j hj] at k3
  rw [h.2.1 i hi] at k1
  rw [h.2.1 j hj] at k2
  rw [h.1 i hi, h.1 j hj]
  exact hU i j hi hj k1 k2 k3 k4 k5
theorem unqA_congr {R R' : Nat → Nat → Int32} {n : Nat} (h : Eqn R' R n) (hU : UnqA R n) : UnqA R' n := fun m hm => unq_congr (h.le hm) (hU m hm)
theorem unq_app {R R' : Nat → Nat → Int32} {n : Nat} {d k p t : Int32} (h : App R R' n d k p t) (hU : Unq R n) (hk : k = 0 ∨ k = 1 ∨ k = 2 ∨ k = 3 ∨ k = 4) (h0 : k = 0 → ∀ i, i < n → ¬ R 4 i = d) (h1 : k = 1 → ∀ i, i < n → R 5 i = 1 → R 6 i = p → isM R (R 4 i) n = 0 → R 4 i = d) : Unq R' (n + 1) := by
  have op : ∀ i, i < n → isM R' (R' 4 i) (n + 1) = 0 → isM R (R 4 i) n = 0 := by
    intro i hi q
    rw [h.1.1 i hi, app_is h] at q
    by_cases e : d = R 4 i
    · rw [if_pos e] at q
      rcases hk with hk | hk | hk | hk | hk
      · exact absurd e.symm (h0 hk i hi)
      · rw [hk, stepM_1] at q; exact q
      · rw [hk, stepM_2] at q; exact absurd q (by decide)
      · rw [hk, stepM_3] at q; exact q
      · rw [hk, stepM_4] at q; exact absurd q (by decide)
    · rw [if_neg e] at q; exact q
  intro i j hi hj k1 k2 k3 k4 k5
  by_cases ei : i = n
  · by_cases ej : j = n
    · rw [ei, ej]
    · have hj2 : j < n := by omega
      rw [ei, h.2.2.1] at k1
      rw [h.1.2.1 j hj2] at k2
      rw [ei, h.2.2.2.1, h.1.2.2.1 j hj2] at k3
      have := h1 k1 j hj2 k2 k3.symm (op j hj2 k5)
      rw [ei, h.2.1, h.1.1 j hj2, this]
  · have hi2 : i < n := by omega
    by_cases ej : j = n
    · rw [ej, h.2.2.1] at k2
      rw [h.1.2.1 i hi2] at k1
      rw [ej, h.2.2.2.1, h.1.2.2.1 i hi2] at k3
      have := h1 k2 i hi2 k1 k3 (op i hi2 k4)
      rw [ej, h.2.1, h.1.1 i hi2, this]
    · have hj2 : j < n := by omega
      have o1 := op i hi2 k4
      have o2 := op j hj2 k5
      rw [h.1.2.2.1 i hi2, h.1.2.2.1 j hj2] at k3
      rw [h.1.2.1 i hi2] at k1
      rw [h.1.2.1 j hj2] at k2
      rw [h.1.1 i hi2, h.1.1 j hj2]
      exact hU i j hi2 hj2 k1 k2 k3 o1 o2
theorem unqA_app {R R' : Nat → Nat → Int32} {n : Nat} {d k p t : Int32} (h : App R R' n d k p t) (hU : UnqA R n) (hk : k = 0 ∨ k = 1 ∨ k = 2 ∨ k = 3 ∨ k = 4) (h0 : k = 0 → ∀ i, i < n → ¬ R 4 i = d) (h1 : k = 1 → ∀ i, i < n → R 5 i = 1 → R 6 i = p → isM R (R 4 i) n = 0 → R 4 i = d) : UnqA R' (n + 1) := by
  intro m hm
  by_cases e : m = n + 1
  · rw [e]; exact unq_app h (hU n (Nat.le_refl _)) hk h0 h1
  · exact unq_congr (h.1.le (by omega)) (hU m (by omega))
theorem chalkR_n {R : Nat → Nat → Int32} {n : Nat} (hn : n < 120) (d k : Int32) {j : Nat} (hj : j < 4) : chalkR R n d k j = R j := by
  rw [chalkR_eq hn]
  unfold chalkM
  rw [setM_n (by omega), setM_n (by omega), setM_n (by omega), setM_n (by omega), setM_n (by omega), setM_n (by omega), setM_n (by omega)]
theorem chalkR_lt {R : Nat → Nat → Int32} {n : Nat} (hn : n < 120) (d k : Int32) {j i : Nat} (hi : i < n) : chalkR R n d k j i = R j i := by
  rw [chalkR_eq hn]
  unfold chalkM setM
  simp only [va_up]
  have e : ¬ i = n := by omega
  by_cases j10 : j = 10
  · subst j10; simp [upd, e]
  · by_cases j9 : j = 9
    · subst j9; simp [upd, e]
    · by_cases j8 : j = 8
      · subst j8; simp [upd, e]
      · by_cases j7 : j = 7
        · subst j7; simp [upd, e]
        · by_cases j6 : j = 6
          · subst j6; simp [upd, e]
          · by_cases j5 : j = 5
            · subst j5; simp [upd, e]
            · by_cases j4 : j = 4
              · subst j4; simp [upd, e]
              · simp [j10, j9, j8, j7, j6, j5, j4]
theorem undo_end {R M : Nat → Nat → Int32} {nd n d : Nat} (hA : Agr R M) (hC : Core R nd n) (hU : UnqA R n) (hd : d < nd) (ho : isM R (nI d) n = 0) :
    undoOk M n (nI d) ∧ Agr (undoR R n (nI d)) (undoMR M n (nI d)) ∧ undoMN M n (nI d) = undoN R n (nI d) ∧ undoMC M n (nI d) = undoC R n (nI d) ∧ Core (undoR R n (nI d)) nd (undoN R n (nI d)) ∧ UnqA (undoR R n (nI d)) (undoN R n (nI d)) ∧ n ≤ undoN R n (nI d) ∧ (∀ c, isM (undoR R n (nI d)) c (undoN R n (nI d)) = if nI d = c then 2 else isM R c n) ∧ (DSt R nd n → DSt (undoR R n (nI d)) nd (undoN R n (nI d))) ∧ undoC R n (nI d) = nI (kN R n (nI d) n) ∧ (∀ i c, i < n → ¬ c = nI d → (Kp (undoR R n (nI d)) (undoN R n (nI d)) i c ↔ Kp R n i c)) ∧ (∀ j, n ≤ j → j < undoN R n (nI d) → undoR R n (nI d) 4 j = nI d) ∧ (∀ j, ¬ j = 0 → ¬ j = 3 → ¬ j = 10 → ∀ i, i < n → undoR R n (nI d) j i = R j i) ∧ undoR R n (nI d) 1 = R 1 ∧ undoR R n (nI d) 2 = R 2 ∧ undoR R n (nI d) 0 = (undoP R n (nI d) n).1 0 := by
  have all := undo_all hA hC hd ho
  have ok : undoOk M n (nI d) := by
    refine ⟨fun k hk => ?_, fun k hk hz => (undo_step hd hk ho (all k (by omega))).2 hz⟩
    have h := all k hk
    have h4 := h.2.2.2.1
    have := kp_open h4 hd ((h.2.2.2.2.2.1 _).trans ho)
    rw [h.2.1]
    omega
  have hIn := all n (Nat.le_refl _)
  unfold UndoI at hIn
  unfold undoR undoMR undoMN undoN undoMC undoC
  obtain ⟨U, hUe⟩ : ∃ z, z = undoP R n (nI d) n := ⟨_, rfl⟩
  obtain ⟨V, hVe⟩ : ∃ z, z = undoM M n (nI d) n := ⟨_, rfl⟩
  rw [← hUe, ← hVe] at hIn
  rw [← hUe, ← hVe]
  obtain ⟨a1, a2, a3, a4, a5, a6, a7, a8, a9, a10, a11, a12, a14, a13⟩ := hIn
  have hop := (a6 (nI d)).trans ho
  have hn : U.2.1 < 120 := by have := kp_open a4 hd hop; omega
  have hAc : App U.1 (chalkR U.1 U.2.1 (nI d) 4) U.2.1 (nI d) 4 (-1) (-1) := app_chalk hn (nI d) (by decide)
  have hAp : App U.1 (stepR (chalkR U.1 U.2.1 (nI d) 4) 3 20 (nI d) 2) U.2.1 (nI d) 4 (-1) (-1) := app_step hAc (by decide)
  have hst : stepR (chalkR U.1 U.2.1 (nI d) 4) 3 20 (nI d) 2 = setM (chalkR U.1 U.2.1 (nI d) 4) 3 d 2 := stepR_lt (by decide) (by have := hC.2.1; omega)
  have his : ∀ c, isM (stepR (chalkR U.1 U.2.1 (nI d) 4) 3 20 (nI d) 2) c (U.2.1 + 1) = if nI d = c then 2 else isM R c n := fun c => by rw [app_is hAp, stepM_4, a6 c]
  have hUU : UnqA U.1 U.2.1 := by
    intro m hm
    have hE : Eqn U.1 R n := ⟨fun i hi => a7 4 (by decide) (by decide) i hi, fun i hi => a7 5 (by decide) (by decide) i hi, fun i hi => a7 6 (by decide) (by decide) i hi, fun i hi => a7 9 (by decide) (by decide) i hi⟩
    by_cases e : m ≤ n
    · exact unq_congr (hE.le e) (hU m e)
    · intro i j hi hj k1 k2 k3 k4 k5
      have hi2 : i < n := Classical.byContradiction fun q => by
        rw [(a14 i (by omega) (by omega)).2] at k1; exact absurd k1 (by decide)
      have hj2 : j < n := Classical.byContradiction fun q => by
        rw [(a14 j (by omega) (by omega)).2] at k2; exact absurd k2 (by decide)
      have hx : ∀ c, isM U.1 c m = isM R c n := fun c => by
        have := isM_ext (c := c) hE.1 hE.2.1 (fun j q1 q2 => (a14 j q1 q2).2) (m - n) (by omega)
        rw [show n + (m - n) = m by omega] at this
        exact this
      rw [hx, hE.1 i hi2] at k4
      rw [hx, hE.1 j hj2] at k5
      rw [hE.2.2.1 i hi2, hE.2.2.1 j hj2] at k3
      rw [hE.2.1 i hi2] at k1
      rw [hE.2.1 j hj2] at k2
      rw [hE.1 i hi2, hE.1 j hj2]
      exact hU n (Nat.le_refl _) i j hi2 hj2 k1 k2 k3 k4 k5
  have hsn := app_sN a4 hAp hd (fun q => absurd q (by decide))
  have hw1 : wN U.1 U.2.1 d = 1 + kN U.1 U.2.1 (nI d) U.2.1 := by unfold wN; rw [if_pos hop]
  have hw2 : wN (stepR (chalkR U.1 U.2.1 (nI d) 4) 3 20 (nI d) 2) (U.2.1 + 1) d = 0 := by unfold wN; rw [his, if_pos rfl, if_neg (by decide)]
  have hb := a4.2.2.2.2.2.2 U.2.1 (Nat.le_refl _)
  refine ⟨ok, ?_, by rw [a2], a3, core_app a4 hAp hn hd (Or.inl rfl) (fun q => absurd q (by decide)) (fun q => absurd q (by decide)) (by omega), unqA_app hAp hUU (by simp) (fun q => absurd q (by decide)) (fun q => absurd q (by decide)), by omega, his, fun hD c hc => ?_, ?_, fun i c hi hc => ?_, fun j h1 h2 => ?_, fun j j0 j3 j10 i hi => ?_, ?_, ?_, ?_⟩
  · rw [hst, a2]
    exact agr_skip (agr_chalk a1 hn (nI d) 4) (Or.inl rfl) d 2
  · rw [his]
    rw [hst, setM_s, chalkR_n hn _ _ (by decide), a12]
    by_cases e : c = d
    · subst e; rw [upd_s, if_pos rfl]
    · have hC2 := hC.2.1
      rw [upd_n e, if_neg (fun q => e (nI_inj (by omega) (by omega) q).symm)]
      exact hD c hc
  · rw [← a13, Nat.sub_self]
    exact (Int32.add_zero _).symm
  · rw [app_kp hAp (by omega), ← a9 i c hi hc]
    exact ⟨fun q => q.1, fun q => ⟨q, fun z => absurd z.1 (by decide)⟩⟩
  · by_cases e : j = U.2.1
    · rw [e]; exact hAp.2.1
    · rw [hAp.1.1 j (by omega)]; exact (a14 j h1 (by omega)).1
  · rw [hst, setM_n j3, chalkR_lt hn _ _ (by omega)]
    exact a7 j j0 j10 i hi
  · rw [hst, setM_n (by decide), chalkR_n hn _ _ (by decide), a10]
  · rw [hst, setM_n (by decide), chalkR_n hn _ _ (by decide), a11]
  · rw [hst, setM_n (by decide), chalkR_n hn _ _ (by decide)]
end PU6
