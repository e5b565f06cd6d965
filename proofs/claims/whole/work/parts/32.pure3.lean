section PU4
def Core (R : Nat → Nat → Int32) (nd n : Nat) : Prop :=
  n ≤ 120 ∧ nd ≤ 20 ∧ (∀ i, i < n → ∃ d, d < nd ∧ R 4 i = nI d) ∧ (∀ i, i < n → R 6 i = -1 ∨ vp_in (R 6 i) 8) ∧ (∀ i, i < n → R 5 i = 1 → vp_in (R 6 i) 8) ∧ TBk R n ∧ ∀ m, m ≤ n → m + sN R m nd ≤ 120
theorem app_tbk {R R' : Nat → Nat → Int32} {n : Nat} {d k p t : Int32} (h : App R R' n d k p t) (hT : TBk R n) (hn : n < 1000000) (hk : k = 3 → ∃ i, i < n ∧ t = nI i ∧ Kp R n i d) : TBk R' (n + 1) := by
  obtain ⟨hE, h4, h5, h6, h9, h10, h10n⟩ := h
  intro i hi
  by_cases e : i = n
  · subst e
    exact ⟨Or.inl h10n, fun j h1 h2 => by omega⟩
  · have hi2 : i < n := by omega
    obtain ⟨a1, a2⟩ := hT i hi2
    rw [h10 i hi2]
    by_cases c : k = 3 ∧ t = nI i
    · rw [if_pos c]
      refine ⟨Or.inr ⟨n, hi2, by omega, rfl⟩, fun j h1 h2 => ?_⟩
      by_cases ej : j = n
      · subst ej
        rw [h5, h9]
        exact ⟨fun _ => c, fun _ => rfl⟩
      · have hj : j < n := by omega
        rw [hE.2.1 j hj, hE.2.2.2 j hj]
        obtain ⟨i', hi', ht', hK⟩ := hk c.1
        have : i = i' := nI_inj (by omega) (by omega) (c.2.symm.trans ht')
        subst this
        exact ⟨fun q => absurd (nI_inj (by omega) (by omega) q) (fun z => by omega), fun q => absurd q (hK.2.2 j h1 hj)⟩
    · rw [if_neg c]
      refine ⟨?_, fun j h1 h2 => ?_⟩
      · rcases a1 with a1 | ⟨j, b1, b2, b3⟩
        · exact Or.inl a1
        · exact Or.inr ⟨j, b1, by omega, b3⟩
      · by_cases ej : j = n
        · subst ej
          rw [h5, h9]
          refine ⟨fun q => ?_, fun q => absurd q c⟩
          rcases a1 with a1 | ⟨j', b1, b2, b3⟩
          · rw [a1] at q; exact absurd q.symm (nI_m1 hn)
          · rw [b3] at q; exact absurd (nI_inj (by omega) (by omega) q) (by omega)
        · have hj : j < n := by omega
          rw [hE.2.1 j hj, hE.2.2.2 j hj]
          exact a2 j h1 hj
theorem core_app {R R' : Nat → Nat → Int32} {nd n d : Nat} {k p t : Int32} (hC : Core R nd n) (h : App R R' n (nI d) k p t) (hn : n < 120) (hd : d < nd) (hp : p = -1 ∨ vp_in p 8) (hp1 : k = 1 → vp_in p 8) (hk : k = 3 → ∃ i, i < n ∧ t = nI i ∧ Kp R n i (nI d)) (hr : n + 1 + sN R' (n + 1) nd ≤ 120) : Core R' nd (n + 1) := by
  obtain ⟨c1, c2, c3, c4, c5, c6, c7⟩ := hC
  have hh := h
  obtain ⟨hE, h4, h5, h6, h9, h10, h10n⟩ := h
  refine ⟨by omega, c2, fun i hi => ?_, fun i hi => ?_, fun i hi => ?_, app_tbk hh c6 (by omega) hk, fun m hm => ?_⟩
  · by_cases e : i = n
    · subst e; exact ⟨d, hd, h4⟩
    · rw [hE.1 i (by omega)]; exact c3 i (by omega)
  · by_cases e : i = n
    · subst e; rw [h6]; exact hp
    · rw [hE.2.2.1 i (by omega)]; exact c4 i (by omega)
  · by_cases e : i = n
    · subst e; rw [h5, h6]; exact hp1
    · rw [hE.2.2.1 i (by omega), hE.2.1 i (by omega)]; exact c5 i (by omega)
  · by_cases e : m = n + 1
    · subst e; exact hr
    · rw [sN_congr (hE.le (by omega)) nd]; exact c7 m (by omega)
/-- the sum behind a line more of the dish d -/
theorem app_sN {R R' : Nat → Nat → Int32} {nd n d : Nat} {k p t : Int32} (hC : Core R nd n) (h : App R R' n (nI d) k p t) (hd : d < nd) (hk : k = 3 → ∃ i, i < n ∧ t = nI i ∧ R 4 i = nI d) : sN R' (n + 1) nd + wN R n d = sN R n nd + wN R' (n + 1) d := by
  have h1 := hC.1
  have h2 := hC.2.1
  have key : ∀ k : Nat, k ≤ 20 → (k ≤ d → sN R' (n + 1) k = sN R n k) ∧ (d < k → sN R' (n + 1) k + wN R n d = sN R n k + wN R' (n + 1) d) := by
    intro k
    induction k with
    | zero => exact fun _ => ⟨fun _ => rfl, fun q => absurd q (Nat.not_lt_zero _)⟩
    | succ j ih =>
      intro hj
      obtain ⟨i1, i2⟩ := ih (by omega)
      rw [sN, sN]
      refine ⟨fun q => ?_, fun q => ?_⟩
      · rw [i1 (by omega), app_other h (by omega) hk (by omega) j (by omega) (by omega)]
      · by_cases e : j = d
        · subst e
          have := i1 (Nat.le_refl _)
          omega
        · have a := i2 (by omega)
          have b := app_other h (by omega) hk (by omega) j (by omega) e
          omega
  exact (key nd h2).2 hd
/-- no line of d: forgotten -/
theorem is_none {M : Nat → Nat → Int32} {d : Int32} : ∀ {n : Nat}, (∀ i, i < n → ¬ M 4 i = d) → isM M d n = 3
  | 0, _ => rfl
  | n + 1, h => by
    unfold isM
    rw [if_neg (h n (by omega)), is_none (fun i q => h i (by omega))]
theorem kN_none {M : Nat → Nat → Int32} {n : Nat} {d : Int32} (h : ∀ i, i < n → ¬ M 4 i = d) : ∀ {k : Nat}, k ≤ n → kN M n d k = 0
  | 0, _ => rfl
  | k + 1, hk => by
    unfold kN
    rw [kN_none h (by omega), if_pos ((keptB_iff (by omega)).mpr (fun q => h k (by omega) q.1))]
theorem core_grow {R : Nat → Nat → Int32} {nd n : Nat} (hC : Core R nd n) (hd : nd < 20) : Core R (nd + 1) n := by
  obtain ⟨c1, c2, c3, c4, c5, c6, c7⟩ := hC
  refine ⟨c1, by omega, fun i hi => ?_, c4, c5, c6, fun m hm => ?_⟩
  · obtain ⟨d, q1, q2⟩ := c3 i hi
    exact ⟨d, by omega, q2⟩
  · have hno : ∀ i, i < m → ¬ R 4 i = nI nd := fun i hi q => by
      obtain ⟨d, q1, q2⟩ := c3 i (by omega)
      have := nI_inj (by omega) (by omega) (q2.symm.trans q)
      omega
    rw [sN]
    have : wN R m nd = 0 := by
      unfold wN
      rw [is_none hno, if_neg (by decide)]
    have := c7 m hm
    omega
/-- two open dishes don't hold one pot -/
def Unq (R : Nat → Nat → Int32) (n : Nat) : Prop := ∀ i j, i < n → j < n → R 5 i = 1 → R 5 j = 1 → R 6 i = R 6 j → isM R (R 4 i) n = 0 → isM R (R 4 j) n = 0 → R 4 i = R 4 j
-- rows of what is chalked
theorem upd_lt {f : Nat → Int32} {n i : Nat} {x : Int32} (h : i < n) : upd f n x i = f i := upd_n (by omega)
theorem app_chalk {R : Nat → Nat → Int32} {n : Nat} (hn : n < 120) (d : Int32) {k : Int32} (hk : ¬ k = 3) : App R (chalkR R n d k) n d k (-1) (-1) := by
  rw [chalkR_eq hn]
  unfold chalkM
  refine ⟨⟨fun i hi => ?_, fun i hi => ?_, fun i hi => ?_, fun i hi => ?_⟩, ?_, ?_, ?_, ?_, fun i hi => ?_, ?_⟩
  all_goals simp [setM, va_up, upd]
  all_goals first | omega | (intro h; omega) | (rw [if_neg (show ¬ i = n by omega)]) | skip
  all_goals first | done | (rw [if_neg (show ¬ (k = 3 ∧ (-1 : Int32) = nI i) from fun q => hk q.1)]) | skip
theorem app_step {R R' : Nat → Nat → Int32} {n : Nat} {d k p t : Int32} (h : App R R' n d k p t) {j z : Nat} {i x : Int32} (hj : ¬ j = 4 ∧ ¬ j = 5 ∧ ¬ j = 6 ∧ ¬ j = 9 ∧ ¬ j = 10) : App R (stepR R' j z i x) n d k p t := by
  obtain ⟨⟨e1, e2, e3, e4⟩, h4, h5, h6, h9, h10, h10n⟩ := h
  have r : ∀ k, (k = 4 ∨ k = 5 ∨ k = 6 ∨ k = 9 ∨ k = 10) → stepR R' j z i x k = R' k := fun k hk => stepR_n (by omega)
  exact ⟨⟨fun a b => by rw [r 4 (by simp)]; exact e1 a b, fun a b => by rw [r 5 (by simp)]; exact e2 a b, fun a b => by rw [r 6 (by simp)]; exact e3 a b, fun a b => by rw [r 9 (by simp)]; exact e4 a b⟩, by rw [r 4 (by simp)]; exact h4, by rw [r 5 (by simp)]; exact h5, by rw [r 6 (by simp)]; exact h6, by rw [r 9 (by simp)]; exact h9, fun a b => by rw [r 10 (by simp)]; exact h10 a b, by rw [r 10 (by simp)]; exact h10n⟩
theorem app_of_step {R R' : Nat → Nat → Int32} {n : Nat} {d k p t : Int32} {j z : Nat} {i x : Int32} (h : App (stepR R j z i x) R' n d k p t) (hj : ¬ j = 4 ∧ ¬ j = 5 ∧ ¬ j = 6 ∧ ¬ j = 9 ∧ ¬ j = 10) : App R R' n d k p t := by
  obtain ⟨⟨e1, e2, e3, e4⟩, h4, h5, h6, h9, h10, h10n⟩ := h
  rw [stepR_n (by omega)] at e1 e2 e3 e4
  refine ⟨⟨e1, e2, e3, e4⟩, h4, h5, h6, h9, fun a b => ?_, h10n⟩
  rw [h10 a b, stepR_n (by omega)]
theorem app_spoons {R : Nat → Nat → Int32} {n : Nat} (hn : n < 120) (d : Int32) {p : Int32} (hp : vp_in p 8) (x : Int32) : App R (spoonsR R n d 1 p x) n d 1 p (-1) := by
  rw [spoonsR_eq hn d 1 hp, chalkR_eq hn]
  unfold chalkM
  refine ⟨⟨fun i hi => ?_, fun i hi => ?_, fun i hi => ?_, fun i hi => ?_⟩, ?_, ?_, ?_, ?_, fun i hi => ?_, ?_⟩
  all_goals simp [setM, va_up, upd]
  all_goals first | omega | (intro h; omega) | (rw [if_neg (show ¬ i = n by omega), if_neg (show ¬ i = n by omega)]) | skip
theorem take_eq {R : Nat → Nat → Int32} {n i : Nat} (hn : n < 120) (hi : i < n) (hp : vp_in (R 6 i) 8) :
    takeBackR R n (nI i) = setM (setM (setM (setM (setM (setM (setM (chalkM R n (R 4 i) 3) 10 n (-1)) 6 n (R 6 i)) 7 n (R 0 (R 6 i).toNatClampNeg)) 8 n (R 7 i)) 0 (R 6 i).toNatClampNeg (R 7 i)) 9 n (nI i)) 10 i (nI n) := by
  unfold takeBackR
  rw [at_lt (by decide) (by omega), at_lt (by decide) (by omega), at_lt (by decide) (by omega), stepR_lt (k := 9) (by decide) hn, stepR_lt (k := 10) (by decide) (by omega), spoonsR_eq hn _ 3 hp, chalkR_eq hn]
theorem app_take {R : Nat → Nat → Int32} {n i : Nat} (hn : n < 120) (hi : i < n) (hp : vp_in (R 6 i) 8) : App R (takeBackR R n (nI i)) n (R 4 i) 3 (R 6 i) (nI i) := by
  rw [take_eq hn hi hp]
  unfold chalkM
  refine ⟨⟨fun j hj => ?_, fun j hj => ?_, fun j hj => ?_, fun j hj => ?_⟩, ?_, ?_, ?_, ?_, fun j hj => ?_, ?_⟩
  all_goals simp [setM, va_up, upd]
  all_goals first | omega | (intro h; omega) | (rw [if_neg (show ¬ j = n by omega), if_neg (show ¬ j = n by omega)]) | skip
  by_cases e : j = i
  · subst e; simp
  · rw [if_neg e, if_neg (show ¬ j = n by omega), if_neg (fun h => e (nI_inj (by omega) (by omega) h).symm)]
theorem agr_take {R M : Nat → Nat → Int32} (h : Agr R M) {n i : Nat} (hn : n < 120) (hi : i < n) (hp : vp_in (R 6 i) 8) : Agr (takeBackR R n (nI i)) (spoonsM M n (R 4 i) 3 (R 6 i) (R 7 i) (nI i)) := by
  rw [take_eq hn hi hp]
  intro j h3 h10
  have hr := h j h3 h10
  have h0 := h 0 (by decide) (by decide)
  unfold spoonsM chalkM
  simp only [setM, va_up]
  by_cases j0 : j = 0
  · subst j0; simp [hr]
  · by_cases j4 : j = 4
    · subst j4; simp [hr]
    · by_cases j5 : j = 5
      · subst j5; simp [hr]
      · by_cases j6 : j = 6
        · subst j6; simp [hr]
        · by_cases j7 : j = 7
          · subst j7; simp [hr, h0]
          · by_cases j8 : j = 8
            · subst j8; simp [hr]
            · by_cases j9 : j = 9
              · subst j9; simp [hr]
              · simp [j0, j4, j5, j6, j7, j8, j9, h10, hr]
end PU4
