section PU5
theorem kp_open {R : Nat → Nat → Int32} {nd n d : Nat} (hC : Core R nd n) (hd : d < nd) : isM R (nI d) n = 0 → n + 1 + kN R n (nI d) n ≤ 120 := by
  intro ho
  have h := hC.2.2.2.2.2.2 n (Nat.le_refl _)
  have : ∀ k : Nat, d < k → wN R n d ≤ sN R n k := by
    intro k
    induction k with
    | zero => intro q; omega
    | succ k ih =>
      intro q
      rw [sN]
      by_cases e : k = d
      · subst e; omega
      · have := ih (by omega); omega
  have h2 := this nd hd
  unfold wN at h2
  rw [if_pos ho] at h2
  omega
/-- one line taken back -/
theorem take_core {R : Nat → Nat → Int32} {nd n d i : Nat} (hC : Core R nd n) (hd : d < nd) (hi : i < n) (hK : Kp R n i (nI d)) (ho : isM R (nI d) n = 0) : n < 120 ∧ vp_in (R 6 i) 8 ∧ App R (takeBackR R n (nI i)) n (nI d) 3 (R 6 i) (nI i) ∧ Core (takeBackR R n (nI i)) nd (n + 1) := by
  have hn : n < 120 := by have := kp_open hC hd ho; omega
  have hp : vp_in (R 6 i) 8 := hC.2.2.2.2.1 i hi hK.2.1
  have hA := app_take hn hi hp
  rw [hK.1] at hA
  refine ⟨hn, hp, hA, core_app hC hA hn hd (Or.inr hp) (fun h => absurd h (by decide)) (fun _ => ⟨i, hi, rfl, hK⟩) ?_⟩
  have hs := app_sN hC hA hd (fun _ => ⟨i, hi, rfl, hK.1⟩)
  have hr := hC.2.2.2.2.2.2 n (Nat.le_refl _)
  have k3 := app_kN3 hA (by omega) hi (nI d) hK (Nat.le_refl _)
  rw [if_pos hi] at k3
  have w1 : wN R n d = 1 + kN R n (nI d) n := by unfold wN; rw [if_pos ho]
  have w2 : wN (takeBackR R n (nI i)) (n + 1) d = 1 + kN (takeBackR R n (nI i)) (n + 1) (nI d) n := by
    unfold wN
    rw [app_is hA, if_pos rfl, ho, if_pos (by decide), app_kNn hA, if_neg (fun q => absurd q.2 (by decide)), Nat.add_zero]
  omega
/-- an undoing, k lines looked at: class and model go together -/
def UndoI (R M : Nat → Nat → Int32) (nd n d k : Nat) : Prop :=
  Agr (undoP R n (nI d) k).1 (undoM M n (nI d) k).1 ∧ (undoM M n (nI d) k).2.1 = (undoP R n (nI d) k).2.1 ∧ (undoM M n (nI d) k).2.2 = (undoP R n (nI d) k).2.2 ∧
  Core (undoP R n (nI d) k).1 nd (undoP R n (nI d) k).2.1 ∧ n ≤ (undoP R n (nI d) k).2.1 ∧
  (∀ c, isM (undoP R n (nI d) k).1 c (undoP R n (nI d) k).2.1 = isM R c n) ∧
  (∀ j, ¬ j = 0 → ¬ j = 10 → ∀ i, i < n → (undoP R n (nI d) k).1 j i = R j i) ∧
  (∀ i, i < n - k → (Kp (undoP R n (nI d) k).1 (undoP R n (nI d) k).2.1 i (nI d) ↔ Kp R n i (nI d))) ∧
  (∀ i c, i < n → ¬ c = nI d → (Kp (undoP R n (nI d) k).1 (undoP R n (nI d) k).2.1 i c ↔ Kp R n i c)) ∧
  (undoP R n (nI d) k).1 1 = R 1 ∧ (undoP R n (nI d) k).1 2 = R 2 ∧ (undoP R n (nI d) k).1 3 = R 3 ∧
  (∀ j, n ≤ j → j < (undoP R n (nI d) k).2.1 → (undoP R n (nI d) k).1 4 j = nI d ∧ (undoP R n (nI d) k).1 5 j = 3) ∧
  (undoP R n (nI d) k).2.2 + nI (kN R n (nI d) (n - k)) = nI (kN R n (nI d) n)
theorem undo_step {R M : Nat → Nat → Int32} {nd n d k : Nat} (hd : d < nd) (hk : k < n) (ho : isM R (nI d) n = 0) (hI : UndoI R M nd n d k) : UndoI R M nd n d (k + 1) ∧ (¬ keptB (undoM M n (nI d) k).1 (undoM M n (nI d) k).2.1 (n - 1 - k) (nI d) = 0 → vp_in ((undoM M n (nI d) k).1 6 (n - 1 - k)) 8) := by
  unfold UndoI at hI ⊢
  rw [undoP, undoM]
  obtain ⟨U, hU⟩ : ∃ z, z = undoP R n (nI d) k := ⟨_, rfl⟩
  obtain ⟨V, hV⟩ : ∃ z, z = undoM M n (nI d) k := ⟨_, rfl⟩
  rw [← hU, ← hV] at hI
  rw [← hU, ← hV]
  obtain ⟨a1, a2, a3, a4, a5, a6, a7, a8, a9, a10, a11, a12, a14, a13⟩ := hI
  obtain ⟨i, hi⟩ : ∃ z, z = n - 1 - k := ⟨_, rfl⟩
  rw [← hi]
  have hin : i < n := by omega
  have hnk : n - k = i + 1 := by omega
  have hnk1 : n - (k + 1) = i := by omega
  have hU120 : U.2.1 ≤ 120 := a4.1
  have hagr := eqn_agr a1 U.2.1
  have hch : isChangeS U.1 (nI i) (nI d) (nI U.2.1) = keptB V.1 V.2.1 i (nI d) := by
    rw [change_kept a4.2.2.2.2.2.1 a4.1 (Nat.le_refl _) (by omega), a2]
    exact (keptB_congr (by omega) hagr.1 hagr.2.1 hagr.2.2.2).symm
  have hkR : keptB V.1 V.2.1 i (nI d) = keptB R n i (nI d) := by
    rw [a2, keptB_congr (by omega) hagr.1 hagr.2.1 hagr.2.2.2]
    exact keptB_iff2 (by omega) hin (a8 i (by omega))
  rw [hch, hnk1]
  rw [hnk, kN] at a13
  by_cases hz : keptB V.1 V.2.1 i (nI d) = 0
  · rw [if_pos hz, if_pos hz]
    rw [if_pos (hkR ▸ hz), Nat.add_zero] at a13
    exact ⟨⟨a1, a2, a3, a4, a5, a6, a7, fun j hj => a8 j (by omega), a9, a10, a11, a12, a14, a13⟩, fun q => absurd hz q⟩
  · rw [if_neg hz, if_neg hz]
    have hKU : Kp U.1 U.2.1 i (nI d) := by
      have hz2 : ¬ keptB U.1 U.2.1 i (nI d) = 0 := by
        rw [← keptB_congr (M := V.1) (by omega) hagr.1 hagr.2.1 hagr.2.2.2, ← a2]; exact hz
      exact Classical.byContradiction fun q => hz2 ((keptB_iff (by omega)).mpr q)
    obtain ⟨t1, t2, t3, t4⟩ := take_core a4 hd (by omega) hKU ((a6 _).trans ho)
    have v4 := a1 4 (by decide) (by decide)
    have v6 := a1 6 (by decide) (by decide)
    have v7 := a1 7 (by decide) (by decide)
    have e4 : U.1 4 i = nI d := hKU.1
    have ht := agr_take a1 t1 (show i < U.2.1 by omega) t2
    rw [e4] at ht
    have rows : ∀ j, ¬ j = 0 → ¬ j = 10 → ∀ x, x < U.2.1 → takeBackR U.1 U.2.1 (nI i) j x = U.1 j x := by
      intro j j0 j10 x hx
      rw [take_eq t1 (by omega) t2]
      unfold chalkM
      have hxn : ¬ x = U.2.1 := by omega
      by_cases j4 : j = 4
      · subst j4; simp [setM, va_up, upd, hxn]
      · by_cases j5 : j = 5
        · subst j5; simp [setM, va_up, upd, hxn]
        · by_cases j6 : j = 6
          · subst j6; simp [setM, va_up, upd, hxn]
          · by_cases j7 : j = 7
            · subst j7; simp [setM, va_up, upd, hxn]
            · by_cases j8 : j = 8
              · subst j8; simp [setM, va_up, upd, hxn]
              · by_cases j9 : j = 9
                · subst j9; simp [setM, va_up, upd, hxn]
                · simp [setM, va_up, j0, j10, j4, j5, j6, j7, j8, j9]
    have rowz : ∀ j, (j = 1 ∨ j = 2 ∨ j = 3) → takeBackR U.1 U.2.1 (nI i) j = U.1 j := by
      intro j hj
      rw [take_eq t1 (by omega) t2]
      unfold chalkM
      rcases hj with rfl | rfl | rfl <;> simp [setM, va_up]
    refine ⟨⟨?_, by rw [a2], by rw [a3], t4, by show n ≤ U.2.1 + 1; omega, fun c => ?_, fun j j0 j10 x hx => ?_, fun x hx => ?_, fun x c hx hc => ?_, (rowz 1 (by simp)).trans a10, (rowz 2 (by simp)).trans a11, (rowz 3 (by simp)).trans a12, fun j h1 h2 => ?_, ?_⟩, fun _ => ?_⟩
    · show Agr (takeBackR U.1 U.2.1 (nI i)) (spoonsM V.1 V.2.1 (nI d) 3 (V.1 6 i) (V.1 7 i) (nI i))
      rw [a2, v6, v7]; exact ht
    · show isM (takeBackR U.1 U.2.1 (nI i)) c (U.2.1 + 1) = _
      rw [app_is t3, ← a6 c]
      by_cases e : nI d = c
      · rw [if_pos e]; rfl
      · rw [if_neg e]
    · show takeBackR U.1 U.2.1 (nI i) j x = R j x
      rw [rows j j0 j10 x (by omega)]; exact a7 j j0 j10 x hx
    · show Kp (takeBackR U.1 U.2.1 (nI i)) (U.2.1 + 1) x (nI d) ↔ _
      rw [app_kp t3 (by omega), ← a8 x (by omega)]
      exact ⟨fun q => q.1, fun q => ⟨q, fun z => by have := nI_inj (by omega) (by omega) z.2; omega⟩⟩
    · show Kp (takeBackR U.1 U.2.1 (nI i)) (U.2.1 + 1) x c ↔ _
      rw [app_kp t3 (by omega), ← a9 x c hx hc]
      refine ⟨fun q => q.1, fun q => ⟨q, fun z => ?_⟩⟩
      have := nI_inj (by omega) (by omega) z.2
      subst this
      exact hc (q.1.symm.trans e4)
    · show takeBackR U.1 U.2.1 (nI i) 4 j = nI d ∧ takeBackR U.1 U.2.1 (nI i) 5 j = 3
      have h2' : j < U.2.1 + 1 := h2
      by_cases e : j = U.2.1
      · subst e; exact ⟨t3.2.1, t3.2.2.1⟩
      · rw [rows 4 (by decide) (by decide) j (by omega), rows 5 (by decide) (by decide) j (by omega)]
        exact a14 j h1 (by omega)
    · show U.2.2 + 1 + nI (kN R n (nI d) i) = _
      rw [if_neg (hkR ▸ hz), nI_succ] at a13
      rw [← a13, Int32.add_assoc, Int32.add_comm 1]
    · rw [v6]; exact t2
theorem undo_all {R M : Nat → Nat → Int32} {nd n d : Nat} (hA : Agr R M) (hC : Core R nd n) (hd : d < nd) (ho : isM R (nI d) n = 0) : ∀ k : Nat, k ≤ n → UndoI R M nd n d k
  | 0, _ => by
    unfold UndoI
    rw [undoP, undoM]
    exact ⟨hA, rfl, rfl, hC, Nat.le_refl _, fun _ => rfl, fun _ _ _ _ _ => rfl, fun _ _ => Iff.rfl, fun _ _ _ _ => Iff.rfl, rfl, rfl, rfl, fun j h1 h2 => by have h2' : j < n := h2; omega, by rw [Nat.sub_zero]; exact Int32.zero_add _⟩
  | k + 1, hk => (undo_step hd (by omega) ho (undo_all hA hC hd ho k (by omega))).1
end PU5
