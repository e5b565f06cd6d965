section PU1
theorem below_nI {i z : Nat} (hi : i < 1000000) (hz : z < 1000000) : isBelowS (nI i) (nI z) = if i < z then 1 else 0 := by
  unfold isBelowS
  rw [if_neg (nI_pos (by omega))]
  by_cases h : i < z
  · rw [if_pos h, if_neg (nI_ge h (by omega))]
  · rw [if_neg h, if_pos (nI_le (by omega) (by omega))]
theorem below_m1 (e : Int32) : isBelowS (-1) e = 0 := by
  unfold isBelowS
  rw [if_pos (by decide)]
theorem below_vp {x : Int32} {z : Nat} (hz : z < 1000000) (h : vp_in x z) : isBelowS x (nI z) = 1 := by
  obtain ⟨j, hj, rfl⟩ := vp_in_of h (by omega)
  rw [below_nI (by omega) hz, if_pos hj]
theorem at_lt {z i : Nat} {f : Nat → Int32} (hz : z < 1000000) (h : i < z) : atS z f (nI i) = f i := by
  unfold atS
  rw [below_nI (by omega) hz, if_pos h, if_neg (by decide), nI_clamp (by omega)]
theorem at_ge {z i : Nat} {f : Nat → Int32} (hz : z < 1000000) (hi : i < 1000000) (h : z ≤ i) : atS z f (nI i) = -1 := by
  unfold atS
  rw [below_nI hi hz, if_neg (show ¬ i < z by omega), if_pos rfl]
theorem at_m1 (z : Nat) (f : Nat → Int32) : atS z f (-1) = -1 := by
  unfold atS
  rw [below_m1, if_pos rfl]
theorem at_vp {z : Nat} {x : Int32} {f : Nat → Int32} (hz : z < 1000000) (h : vp_in x z) : atS z f x = f x.toNatClampNeg := by
  unfold atS
  rw [below_vp hz h, if_neg (by decide)]
theorem put_lt {z i : Nat} {f : Nat → Int32} {x : Int32} (hz : z < 1000000) (h : i < z) : putS z f (nI i) x = upd f i x := by
  unfold putS
  rw [below_nI (by omega) hz, if_pos h, if_neg (by decide), nI_clamp (by omega)]
theorem put_vp {z : Nat} {p : Int32} {f : Nat → Int32} {x : Int32} (hz : z < 1000000) (h : vp_in p z) : putS z f p x = upd f p.toNatClampNeg x := by
  unfold putS
  rw [below_vp hz h, if_neg (by decide)]
theorem nI_inj {a b : Nat} (ha : a < 1000000) (hb : b < 1000000) (h : nI a = nI b) : a = b := (nI_eq (by omega) (by omega)).mp h
theorem nI_m1 {a : Nat} (ha : a < 1000000) : ¬ nI a = -1 := fun h => absurd (show nI a < 0 by rw [h]; decide) (nI_pos (by omega))
theorem upd_s (f : Nat → Int32) (k : Nat) (x : Int32) : upd f k x k = x := if_pos rfl
theorem upd_n {f : Nat → Int32} {k j : Nat} {x : Int32} (h : ¬ j = k) : upd f k x j = f j := if_neg h
theorem setM_n {M : Nat → Nat → Int32} {k i j : Nat} {x : Int32} (h : ¬ j = k) : setM M k i x j = M j := if_neg h
theorem setM_s (M : Nat → Nat → Int32) (k i : Nat) (x : Int32) : setM M k i x k = upd (M k) i x := if_pos rfl
theorem stepR_n {R : Nat → Nat → Int32} {k z j : Nat} {i x : Int32} (h : ¬ j = k) : stepR R k z i x j = R j := if_neg h
theorem stepR_s (R : Nat → Nat → Int32) (k z : Nat) (i x : Int32) : stepR R k z i x k = putS z (R k) i x := if_pos rfl
theorem stepR_lt {R : Nat → Nat → Int32} {k z i : Nat} {x : Int32} (hz : z < 1000000) (h : i < z) : stepR R k z (nI i) x = setM R k i x := by
  unfold stepR setM
  rw [put_lt hz h]
theorem stepR_vp {R : Nat → Nat → Int32} {k z : Nat} {p x : Int32} (hz : z < 1000000) (h : vp_in p z) : stepR R k z p x = setM R k p.toNatClampNeg x := by
  unfold stepR setM
  rw [put_vp hz h]
/-- the rows that class and model share -/
def Agr (R M : Nat → Nat → Int32) : Prop := ∀ k, ¬ k = 3 → ¬ k = 10 → M k = R k
theorem agr_set {R M : Nat → Nat → Int32} (h : Agr R M) (k i : Nat) (x : Int32) : Agr (setM R k i x) (setM M k i x) := by
  intro j h3 h10
  by_cases e : j = k
  · subst e; rw [setM_s, setM_s, h j h3 h10]
  · rw [setM_n e, setM_n e, h j h3 h10]
theorem agr_skip {R M : Nat → Nat → Int32} (h : Agr R M) {k : Nat} (hk : k = 3 ∨ k = 10) (i : Nat) (x : Int32) : Agr (setM R k i x) M := by
  intro j h3 h10
  rw [setM_n (by omega), h j h3 h10]
theorem chalkR_eq {R : Nat → Nat → Int32} {n : Nat} (hn : n < 120) (d k : Int32) : chalkR R n d k = setM (chalkM R n d k) 10 n (-1) := by
  unfold chalkR chalkM
  rw [stepR_lt (by decide) hn, stepR_lt (by decide) hn, stepR_lt (by decide) hn, stepR_lt (by decide) hn, stepR_lt (by decide) hn, stepR_lt (by decide) hn, stepR_lt (by decide) hn]
theorem agr_chalkM {R M : Nat → Nat → Int32} (h : Agr R M) (n : Nat) (d k : Int32) : Agr (chalkM R n d k) (chalkM M n d k) :=
  agr_set (agr_set (agr_set (agr_set (agr_set (agr_set h 4 n d) 5 n k) 6 n (-1)) 7 n (-1)) 8 n (-1)) 9 n (-1)
theorem agr_chalk {R M : Nat → Nat → Int32} (h : Agr R M) {n : Nat} (hn : n < 120) (d k : Int32) : Agr (chalkR R n d k) (chalkM M n d k) := by
  rw [chalkR_eq hn]
  exact agr_skip (agr_chalkM h n d k) (Or.inr rfl) n (-1)
theorem spoonsR_eq {R : Nat → Nat → Int32} {n : Nat} (hn : n < 120) (d k : Int32) {p : Int32} (hp : vp_in p 8) (x : Int32) :
    spoonsR R n d k p x = setM (setM (setM (setM (chalkR R n d k) 6 n p) 7 n (R 0 p.toNatClampNeg)) 8 n x) 0 p.toNatClampNeg x := by
  have e0 : chalkR R n d k 0 = R 0 := by
    rw [chalkR_eq hn]
    unfold chalkM
    rw [setM_n (by decide), setM_n (by decide), setM_n (by decide), setM_n (by decide), setM_n (by decide), setM_n (by decide), setM_n (by decide)]
  have e6 : stepR (chalkR R n d k) 6 120 (nI n) p = setM (chalkR R n d k) 6 n p := stepR_lt (by decide) hn
  have e60 : setM (chalkR R n d k) 6 n p 0 = R 0 := by rw [setM_n (by decide), e0]
  unfold spoonsR
  rw [e6, e60, at_vp (by decide) hp, stepR_vp (by decide) hp, stepR_lt (k := 7) (by decide) hn, stepR_lt (k := 8) (by decide) hn]
/-- a change of a pot: what the class chalks is what the model does (its line takes nothing back: -1) -/
theorem agr_spoons {R M : Nat → Nat → Int32} (h : Agr R M) {n : Nat} (hn : n < 120) (d k : Int32) {p : Int32} (hp : vp_in p 8) (x : Int32) : Agr (spoonsR R n d k p x) (spoonsM M n d k p x (-1)) := by
  rw [spoonsR_eq hn d k hp]
  have h0 := agr_chalk h hn d k
  intro j h3 h10
  have h1 := h0 j h3 h10
  have e0 : chalkM M n d k 0 = R 0 := by
    unfold chalkM
    rw [setM_n (by decide), setM_n (by decide), setM_n (by decide), setM_n (by decide), setM_n (by decide), setM_n (by decide), h 0 (by decide) (by decide)]
  have e9 : upd (chalkM M n d k 9) n (-1) = chalkM M n d k 9 := by
    unfold chalkM
    rw [setM_s]
    funext i
    unfold upd
    split <;> rfl
  unfold spoonsM
  by_cases j0 : j = 0
  · subst j0; rw [setM_s, setM_s, setM_n (by decide), setM_n (by decide), setM_n (by decide), setM_n (by decide), setM_n (by decide), setM_n (by decide), setM_n (by decide), h1]
  · rw [setM_n j0, setM_n j0]
    by_cases j9 : j = 9
    · subst j9; rw [setM_s, setM_n (by decide), setM_n (by decide), setM_n (by decide), setM_n (by decide), setM_n (by decide), setM_n (by decide), e9, h1]
    · rw [setM_n j9]
      by_cases j8 : j = 8
      · subst j8; rw [setM_s, setM_s, setM_n (by decide), setM_n (by decide), setM_n (by decide), setM_n (by decide), h1]
      · rw [setM_n j8, setM_n j8]
        by_cases j7 : j = 7
        · subst j7; rw [setM_s, setM_s, setM_n (by decide), setM_n (by decide), setM_n (by decide), h1, e0]
        · rw [setM_n j7, setM_n j7]
          by_cases j6 : j = 6
          · subst j6; rw [setM_s, setM_s, h1]
          · rw [setM_n j6, setM_n j6, h1]
end PU1
section PU2
-- the model's words, over rows that agree where they are read
theorem stepM_eq (k st : Int32) : stateAfterS k st = stepM k st := by
  unfold stateAfterS stepM
  by_cases h0 : k = 0
  · subst h0; rfl
  · rw [if_neg h0, if_neg h0]
    by_cases h2 : k = 2
    · subst h2; rfl
    · rw [if_neg h2, if_neg h2]
theorem isM_congr {M M' : Nat → Nat → Int32} {d : Int32} : ∀ {n : Nat}, (∀ i, i < n → M 4 i = M' 4 i) → (∀ i, i < n → M 5 i = M' 5 i) → isM M d n = isM M' d n
  | 0, _, _ => rfl
  | n + 1, h4, h5 => by
    unfold isM
    rw [h4 n (by omega), h5 n (by omega), isM_congr (fun i h => h4 i (by omega)) (fun i h => h5 i (by omega))]
theorem takenF_congr {M M' : Nat → Nat → Int32} {j : Nat} : ∀ {k i : Nat}, (∀ l, l < i + k → M 5 l = M' 5 l) → (∀ l, l < i + k → M 9 l = M' 9 l) → takenF M j k i = takenF M' j k i
  | 0, _, _, _ => rfl
  | k + 1, i, h5, h9 => by
    unfold takenF
    rw [h5 i (by omega), h9 i (by omega), takenF_congr (fun l h => h5 l (by omega)) (fun l h => h9 l (by omega))]
theorem keptB_congr {M M' : Nat → Nat → Int32} {n j : Nat} {d : Int32} (hj : j < n) (h4 : ∀ i, i < n → M 4 i = M' 4 i) (h5 : ∀ i, i < n → M 5 i = M' 5 i) (h9 : ∀ i, i < n → M 9 i = M' 9 i) : keptB M n j d = keptB M' n j d := by
  unfold keptB takenM
  rw [h4 j hj, h5 j hj, takenF_congr (M := M) (M' := M') (fun l h => h5 l (by omega)) (fun l h => h9 l (by omega))]
theorem keptM_congr {M M' : Nat → Nat → Int32} {n : Nat} {d : Int32} (h4 : ∀ i, i < n → M 4 i = M' 4 i) (h5 : ∀ i, i < n → M 5 i = M' 5 i) (h9 : ∀ i, i < n → M 9 i = M' 9 i) : ∀ {k : Nat}, k ≤ n → keptM M n d k = keptM M' n d k
  | 0, _ => rfl
  | k + 1, hk => by
    unfold keptM
    rw [keptB_congr (by omega) h4 h5 h9, keptM_congr h4 h5 h9 (by omega)]
/-- the lines' rows agree up to n -/
def Eqn (M M' : Nat → Nat → Int32) (n : Nat) : Prop := (∀ i, i < n → M 4 i = M' 4 i) ∧ (∀ i, i < n → M 5 i = M' 5 i) ∧ (∀ i, i < n → M 6 i = M' 6 i) ∧ ∀ i, i < n → M 9 i = M' 9 i
theorem Eqn.le {M M' : Nat → Nat → Int32} {n m : Nat} (h : Eqn M M' n) (hm : m ≤ n) : Eqn M M' m := ⟨fun i q => h.1 i (by omega), fun i q => h.2.1 i (by omega), fun i q => h.2.2.1 i (by omega), fun i q => h.2.2.2 i (by omega)⟩
theorem eqn_agr {R M : Nat → Nat → Int32} (h : Agr R M) (n : Nat) : Eqn M R n := ⟨fun i _ => by rw [h 4 (by decide) (by decide)], fun i _ => by rw [h 5 (by decide) (by decide)], fun i _ => by rw [h 6 (by decide) (by decide)], fun i _ => by rw [h 9 (by decide) (by decide)]⟩
theorem roomM_congr {M M' : Nat → Nat → Int32} {n : Nat} (h : Eqn M M' n) : ∀ d : Nat, roomM M n d = roomM M' n d
  | 0 => rfl
  | d + 1 => by
    unfold roomM
    rw [isM_congr h.1 h.2.1, keptM_congr h.1 h.2.1 h.2.2.2 (Nat.le_refl _), roomM_congr h d]
theorem heldM_congr {M M' : Nat → Nat → Int32} {p d : Int32} : ∀ {n : Nat}, Eqn M M' n → heldM M p d n = heldM M' p d n
  | 0, _ => rfl
  | n + 1, h => by
    unfold heldM
    rw [h.1 n (by omega), h.2.1 n (by omega), h.2.2.1 n (by omega), heldM_congr (h.le (by omega))]
theorem heldB_congr {M M' : Nat → Nat → Int32} {p d : Int32} {n : Nat} (h : Eqn M M' n) : heldB M n p d = heldB M' n p d := by
  unfold heldB
  rw [heldM_congr h, isM_congr h.1 h.2.1]
theorem holderM_congr {M M' : Nat → Nat → Int32} {p : Int32} {n : Nat} (h : Eqn M M' n) : ∀ k i : Nat, holderM M n p k i = holderM M' n p k i
  | 0, _ => rfl
  | k + 1, i => by
    unfold holderM
    rw [heldB_congr h, holderM_congr h k (i + 1)]
theorem latestM_congr {M M' : Nat → Nat → Int32} {p : Int32} : ∀ {n : Nat}, Eqn M M' n → latestM M p n = latestM M' p n
  | 0, _ => rfl
  | n + 1, h => by
    unfold latestM
    rw [h.2.2.1 n (by omega), latestM_congr (h.le (by omega))]
theorem areM_congr {M M' : Nat → Nat → Int32} {x : Int32} {n : Nat} (h : Eqn M M' n) : ∀ d : Nat, areM M n x d = areM M' n x d
  | 0 => rfl
  | d + 1 => by
    unfold areM
    rw [isM_congr h.1 h.2.1, areM_congr h d]
-- what the class reads is what the model reads
theorem state_isM {R : Nat → Nat → Int32} {d : Int32} : ∀ {e : Nat}, e ≤ 120 → stateByS R d e = isM R d e
  | 0, _ => rfl
  | e + 1, he => by
    unfold stateByS isM
    rw [at_lt (by decide) (by omega), at_lt (by decide) (by omega), stepM_eq, state_isM (by omega)]
theorem last_latest {R : Nat → Nat → Int32} {p : Int32} : ∀ {n : Nat}, n ≤ 120 → lastS (R 6) p n = latestM R p n
  | 0, _ => rfl
  | n + 1, hn => by
    unfold lastS latestM
    rw [at_lt (by decide) (by omega), last_latest (by omega)]
theorem lastN_latN {R : Nat → Nat → Int32} {p : Int32} : ∀ {n : Nat}, n ≤ 120 → lastN1 (R 6) p n = latN R p n
  | 0, _ => rfl
  | n + 1, hn => by
    unfold lastN1 latN
    rw [at_lt (by decide) (by omega), lastN_latN (by omega)]
theorem last_lastM {R : Nat → Nat → Int32} {d : Int32} : ∀ {n : Nat}, n ≤ 120 → lastS (R 4) d n = lastM R d n
  | 0, _ => rfl
  | n + 1, hn => by
    unfold lastS lastM
    rw [at_lt (by decide) (by omega), last_lastM (by omega)]
theorem count_many {R : Nat → Nat → Int32} {d : Int32} : ∀ {n : Nat}, n ≤ 120 → countS 120 (R 4) d n = manyM R d n
  | 0, _ => rfl
  | n + 1, hn => by
    unfold countS manyM
    rw [at_lt (by decide) (by omega), count_many (by omega)]
/-- dish states are what the lines tell -/
def DSt (R : Nat → Nat → Int32) (nd n : Nat) : Prop := ∀ d, d < nd → R 3 d = isM R (nI d) n
theorem count_are {R : Nat → Nat → Int32} {x : Int32} {n nd : Nat} (hd : nd ≤ 20) (h : DSt R nd n) : ∀ {k : Nat}, k ≤ nd → countS 20 (R 3) x k = areM R n x k
  | 0, _ => rfl
  | k + 1, hk => by
    unfold countS areM
    rw [at_lt (by decide) (by omega), h k (by omega), count_are hd h (by omega), Int32.add_zero]
/-- taken back, in words -/
theorem takenF_spec {M : Nat → Nat → Int32} {j : Nat} : ∀ {k i : Nat}, takenF M j k i = 0 ↔ ∀ l, i ≤ l → l < i + k → ¬ (M 5 l = 3 ∧ M 9 l = nI j)
  | 0, i => ⟨fun _ l h1 h2 => by omega, fun _ => rfl⟩
  | k + 1, i => by
    have ih := takenF_spec (M := M) (j := j) (k := k) (i := i + 1)
    unfold takenF
    by_cases h5 : M 5 i = 3
    · rw [if_pos h5]
      by_cases h9 : M 9 i = nI j
      · rw [if_pos h9]
        exact ⟨fun h => absurd h (by decide), fun h => absurd ⟨h5, h9⟩ (h i (Nat.le_refl _) (by omega))⟩
      · rw [if_neg h9, ih]
        refine ⟨fun h l h1 h2 => ?_, fun h l h1 h2 => h l (by omega) (by omega)⟩
        by_cases e : l = i
        · subst e; exact fun q => h9 q.2
        · exact h l (by omega) (by omega)
    · rw [if_neg h5, ih]
      refine ⟨fun h l h1 h2 => ?_, fun h l h1 h2 => h l (by omega) (by omega)⟩
      by_cases e : l = i
      · subst e; exact fun q => h5 q.1
      · exact h l (by omega) (by omega)
/-- a change of d that is not taken back -/
def Kp (M : Nat → Nat → Int32) (n j : Nat) (d : Int32) : Prop := M 4 j = d ∧ M 5 j = 1 ∧ ∀ l, j < l → l < n → ¬ (M 5 l = 3 ∧ M 9 l = nI j)
theorem keptB_iff {M : Nat → Nat → Int32} {n j : Nat} {d : Int32} (hj : j < n) : keptB M n j d = 0 ↔ ¬ Kp M n j d := by
  have ht : takenM M n j = 0 ↔ ∀ l, j < l → l < n → ¬ (M 5 l = 3 ∧ M 9 l = nI j) := by
    unfold takenM
    rw [takenF_spec]
    exact ⟨fun h l h1 h2 => h l (by omega) (by omega), fun h l h1 h2 => h l (by omega) (by omega)⟩
  unfold keptB Kp
  by_cases h4 : M 4 j = d
  · rw [if_pos h4]
    by_cases h5 : M 5 j = 1
    · rw [if_pos h5]
      by_cases h9 : takenM M n j = 0
      · rw [if_pos h9]
        exact ⟨fun h => absurd h (by decide), fun h => absurd ⟨h4, h5, ht.mp h9⟩ h⟩
      · rw [if_neg h9]
        exact ⟨fun _ q => h9 (ht.mpr q.2.2), fun _ => rfl⟩
    · rw [if_neg h5]
      exact ⟨fun _ q => h5 q.2.1, fun _ => rfl⟩
  · rw [if_neg h4]
    exact ⟨fun _ q => h4 q.1, fun _ => rfl⟩
theorem keptB_01 (M : Nat → Nat → Int32) (n j : Nat) (d : Int32) : keptB M n j d = 0 ∨ keptB M n j d = 1 := by
  unfold keptB
  split
  · split
    · split
      · exact Or.inr rfl
      · exact Or.inl rfl
    · exact Or.inl rfl
  · exact Or.inl rfl
/-- who took a line back stands beside it -/
def TBk (R : Nat → Nat → Int32) (n : Nat) : Prop := ∀ i, i < n → (R 10 i = -1 ∨ ∃ j, i < j ∧ j < n ∧ R 10 i = nI j) ∧ ∀ j, i < j → j < n → (R 10 i = nI j ↔ R 5 j = 3 ∧ R 9 j = nI i)
theorem change_kept {R : Nat → Nat → Int32} {n e i : Nat} {d : Int32} (hT : TBk R n) (hn : n ≤ 120) (he : e ≤ n) (hi : i < e) : isChangeS R (nI i) d (nI e) = keptB R e i d := by
  have hb : isBelowS (R 10 i) (nI e) = 0 ↔ takenM R e i = 0 := by
    unfold takenM
    rw [takenF_spec]
    obtain ⟨h1, h2⟩ := hT i (by omega)
    rcases h1 with h1 | ⟨j, hj1, hj2, h1⟩
    · rw [h1, below_m1]
      refine ⟨fun _ l q1 q2 q3 => ?_, fun _ => rfl⟩
      have := (h2 l (by omega) (by omega)).mpr q3
      rw [h1] at this
      exact nI_m1 (a := l) (by omega) this.symm
    · rw [h1, below_nI (by omega) (by omega)]
      by_cases hje : j < e
      · rw [if_pos hje]
        exact ⟨fun h => absurd h (by decide), fun h => absurd ((h2 j hj1 hj2).mp h1) (h j (by omega) (by omega))⟩
      · rw [if_neg hje]
        refine ⟨fun _ l q1 q2 q3 => ?_, fun _ => rfl⟩
        have := (h2 l (by omega) (by omega)).mpr q3
        rw [h1] at this
        have := nI_inj (by omega) (by omega) this
        omega
  unfold isChangeS keptB
  rw [at_lt (by decide) (by omega), at_lt (by decide) (by omega), at_lt (by decide) (by omega)]
  by_cases h4 : R 4 i = d
  · rw [if_pos h4, if_pos h4]
    by_cases h5 : R 5 i = 1
    · rw [if_pos h5, if_pos h5]
      by_cases h9 : takenM R e i = 0
      · rw [if_pos h9, if_pos (hb.mpr h9)]
      · rw [if_neg h9, if_neg (fun q => h9 (hb.mp q))]
    · rw [if_neg h5, if_neg h5]
  · rw [if_neg h4, if_neg h4]
theorem changes_kept {R : Nat → Nat → Int32} {n e : Nat} {d : Int32} (hT : TBk R n) (hn : n ≤ 120) (he : e ≤ n) : ∀ {k : Nat}, k ≤ e → changesS R d (nI e) k = keptM R e d k
  | 0, _ => rfl
  | k + 1, hk => by
    unfold changesS keptM
    rw [change_kept hT hn he (by omega), changes_kept hT hn he (by omega), Int32.add_zero]
theorem room_roomM {R : Nat → Nat → Int32} {n nd : Nat} (hT : TBk R n) (hn : n ≤ 120) (hd : nd ≤ 20) (hS : DSt R nd n) : ∀ {k : Nat}, k ≤ nd → roomS R n k = roomM R n k
  | 0, _ => rfl
  | k + 1, hk => by
    unfold roomS roomM isOpenS
    rw [at_lt (by decide) (by omega), hS k (by omega), changes_kept hT hn (Nat.le_refl _) (Nat.le_refl _), room_roomM hT hn hd hS (by omega)]
    by_cases h : isM R (nI k) n = 0
    · rw [if_pos h, if_pos h, if_neg (by decide)]
    · rw [if_neg h, if_neg h, if_pos rfl, Int32.sub_zero]
end PU2
