section PU3
def kN (M : Nat → Nat → Int32) (n : Nat) (d : Int32) : Nat → Nat
  | 0 => 0
  | k + 1 => kN M n d k + (if keptB M n k d = 0 then 0 else 1)
theorem kept_kN (M : Nat → Nat → Int32) (n : Nat) (d : Int32) : ∀ k : Nat, keptM M n d k = nI (kN M n d k)
  | 0 => rfl
  | k + 1 => by
    unfold keptM kN
    rw [kept_kN M n d k]
    split
    · rw [Int32.add_zero, Nat.add_zero]
    · exact (nI_succ _).symm
theorem kN_le (M : Nat → Nat → Int32) (n : Nat) (d : Int32) : ∀ k : Nat, kN M n d k ≤ k
  | 0 => Nat.le_refl _
  | k + 1 => by
    unfold kN
    have := kN_le M n d k
    split <;> omega
def wN (M : Nat → Nat → Int32) (n d : Nat) : Nat := if isM M (nI d) n = 0 then 1 + kN M n (nI d) n else 0
def sN (M : Nat → Nat → Int32) (n : Nat) : Nat → Nat
  | 0 => 0
  | d + 1 => sN M n d + wN M n d
theorem wN_le (M : Nat → Nat → Int32) (n d : Nat) : wN M n d ≤ n + 1 := by
  unfold wN
  have := kN_le M n (nI d) n
  split <;> omega
theorem sN_le (M : Nat → Nat → Int32) (n : Nat) : ∀ k : Nat, sN M n k ≤ k * (n + 1)
  | 0 => Nat.zero_le _
  | k + 1 => by
    unfold sN
    have h1 := sN_le M n k
    have h2 := wN_le M n k
    rw [Nat.add_mul, Nat.one_mul]
    omega
theorem room_sN (M : Nat → Nat → Int32) (n : Nat) : ∀ k : Nat, roomM M n k = 120 - nI (n + sN M n k)
  | 0 => rfl
  | k + 1 => by
    unfold roomM sN wN
    rw [room_sN M n k, kept_kN]
    split
    · rw [show (1 : Int32) + nI (kN M n (nI k) n) = nI (1 + kN M n (nI k) n) from nI_add 1 _, show n + (sN M n k + (1 + kN M n (nI k) n)) = (n + sN M n k) + (1 + kN M n (nI k) n) by omega, ← nI_add (n + sN M n k), Int32.sub_sub]
    · rw [Int32.sub_zero, Nat.add_zero]
theorem sN_b {M : Nat → Nat → Int32} {n k : Nat} (hn : n ≤ 120) (hk : k ≤ 20) : sN M n k ≤ 2420 := by
  have h1 := sN_le M n k
  have h2 : k * (n + 1) ≤ 20 * 121 := Nat.mul_le_mul hk (by omega)
  omega
theorem room_ge {M : Nat → Nat → Int32} {n k : Nat} (hn : n ≤ 120) (hk : k ≤ 20) : 2 ≤ roomM M n k ↔ n + sN M n k + 2 ≤ 120 := by
  have hb := sN_b (M := M) hn hk
  rw [room_sN, Int32.le_iff_toInt_le, show (120 : Int32) = nI 120 from rfl, pk_sub_toInt (by omega) (by omega)]
  have e2 : (2 : Int32).toInt = 2 := rfl
  rw [e2]
  omega
theorem sN_congr {M M' : Nat → Nat → Int32} {n : Nat} (h : Eqn M M' n) : ∀ k : Nat, sN M n k = sN M' n k
  | 0 => rfl
  | k + 1 => by
    have hk : ∀ d : Int32, ∀ j : Nat, j ≤ n → kN M n d j = kN M' n d j := by
      intro d j
      induction j with
      | zero => intro _; rfl
      | succ j ih =>
        intro hj
        unfold kN
        rw [ih (by omega), keptB_congr (by omega) h.1 h.2.1 h.2.2.2]
    unfold sN wN
    rw [sN_congr h k, isM_congr h.1 h.2.1, hk _ n (Nat.le_refl _)]
/-- the sum over the dishes, one of them changed -/
theorem sN_one {M M' : Nat → Nat → Int32} {n n' d : Nat} (h : ∀ c, ¬ c = d → wN M' n' c = wN M n c) : ∀ k : Nat, (k ≤ d → sN M' n' k = sN M n k) ∧ (d < k → sN M' n' k + wN M n d = sN M n k + wN M' n' d)
  | 0 => ⟨fun _ => rfl, fun q => absurd q (Nat.not_lt_zero _)⟩
  | k + 1 => by
    obtain ⟨h1, h2⟩ := sN_one h k
    unfold sN
    refine ⟨fun q => ?_, fun q => ?_⟩
    · rw [h1 (by omega), h k (by omega)]
    · by_cases e : k = d
      · subst e
        have := h1 (Nat.le_refl _)
        omega
      · have := h2 (by omega)
        have := h k e
        omega
/-- a line more: R' is R with a line n of dish d, kind k, pot p, that takes t back -/
def App (R R' : Nat → Nat → Int32) (n : Nat) (d k p t : Int32) : Prop :=
  Eqn R' R n ∧ R' 4 n = d ∧ R' 5 n = k ∧ R' 6 n = p ∧ R' 9 n = t ∧ (∀ i, i < n → R' 10 i = if k = 3 ∧ t = nI i then nI n else R 10 i) ∧ R' 10 n = -1
theorem keptB_iff2 {M M' : Nat → Nat → Int32} {n n' j j' : Nat} {d d' : Int32} (hj : j < n) (hj' : j' < n') (h : Kp M n j d ↔ Kp M' n' j' d') : keptB M n j d = keptB M' n' j' d' := by
  rcases keptB_01 M n j d with h1 | h1 <;> rcases keptB_01 M' n' j' d' with h2 | h2
  · rw [h1, h2]
  · exact absurd ((keptB_iff hj').mpr (fun q => (keptB_iff hj).mp h1 (h.mpr q))) (by rw [h2]; decide)
  · exact absurd ((keptB_iff hj).mpr (fun q => (keptB_iff hj').mp h2 (h.mp q))) (by rw [h1]; decide)
  · rw [h1, h2]
theorem app_is {R R' : Nat → Nat → Int32} {n : Nat} {d k p t : Int32} (h : App R R' n d k p t) (c : Int32) : isM R' c (n + 1) = if d = c then stepM k (isM R c n) else isM R c n := by
  rw [isM, h.2.1, h.2.2.1, isM_congr h.1.1 h.1.2.1]
theorem app_kp {R R' : Nat → Nat → Int32} {n : Nat} {d k p t : Int32} (h : App R R' n d k p t) {i : Nat} (hi : i < n) (c : Int32) : Kp R' (n + 1) i c ↔ (Kp R n i c ∧ ¬ (k = 3 ∧ t = nI i)) := by
  unfold Kp
  rw [h.1.1 i hi, h.1.2.1 i hi]
  refine ⟨fun ⟨q1, q2, q3⟩ => ⟨⟨q1, q2, fun l h1 h2 h3 => ?_⟩, fun q => ?_⟩, fun ⟨⟨q1, q2, q3⟩, q4⟩ => ⟨q1, q2, fun l h1 h2 h3 => ?_⟩⟩
  · exact q3 l h1 (by omega) (by rw [h.1.2.1 l h2, h.1.2.2.2 l h2]; exact h3)
  · exact q3 n hi (by omega) (by rw [h.2.2.1, h.2.2.2.2.1]; exact q)
  · by_cases e : l = n
    · subst e; rw [h.2.2.1, h.2.2.2.2.1] at h3; exact q4 h3
    · have hl : l < n := by omega
      rw [h.1.2.1 l hl, h.1.2.2.2 l hl] at h3
      exact q3 l h1 hl h3
theorem app_kpn {R R' : Nat → Nat → Int32} {n : Nat} {d k p t : Int32} (h : App R R' n d k p t) (c : Int32) : Kp R' (n + 1) n c ↔ (d = c ∧ k = 1) := by
  unfold Kp
  rw [h.2.1, h.2.2.1]
  exact ⟨fun q => ⟨q.1, q.2.1⟩, fun q => ⟨q.1, q.2, fun l h1 h2 => by omega⟩⟩
/-- kept changes of a dish that the new line doesn't take from -/
theorem app_kN {R R' : Nat → Nat → Int32} {n : Nat} {d k p t : Int32} (h : App R R' n d k p t) (c : Int32) (hc : ∀ i, i < n → k = 3 → t = nI i → ¬ Kp R n i c) : ∀ {j : Nat}, j ≤ n → kN R' (n + 1) c j = kN R n c j
  | 0, _ => rfl
  | j + 1, hj => by
    unfold kN
    rw [app_kN h c hc (by omega), keptB_iff2 (by omega) (by omega) ((app_kp h (by omega) c).trans ⟨fun q => q.1, fun q => ⟨q, fun z => hc j (by omega) z.1 z.2 q⟩⟩)]
theorem app_kNn {R R' : Nat → Nat → Int32} {n : Nat} {d k p t : Int32} (h : App R R' n d k p t) (c : Int32) : kN R' (n + 1) c (n + 1) = kN R' (n + 1) c n + (if d = c ∧ k = 1 then 1 else 0) := by
  rw [kN]
  congr 1
  by_cases e : d = c ∧ k = 1
  · rw [if_pos e, if_neg (fun q => (keptB_iff (by omega)).mp q ((app_kpn h c).mpr e))]
  · rw [if_neg e, if_pos ((keptB_iff (by omega)).mpr (fun q => e ((app_kpn h c).mp q)))]
/-- .. and of the dish that it takes from -/
theorem app_kN3 {R R' : Nat → Nat → Int32} {n : Nat} {d p : Int32} {i : Nat} (h : App R R' n d 3 p (nI i)) (hn : n < 1000000) (hi : i < n) (c : Int32) (hk : Kp R n i c) : ∀ {j : Nat}, j ≤ n → kN R' (n + 1) c j + (if i < j then 1 else 0) = kN R n c j
  | 0, _ => rfl
  | j + 1, hj => by
    have ih := app_kN3 h hn hi c hk (j := j) (by omega)
    rw [kN, kN]
    by_cases e : j = i
    · subst e
      have k1 : keptB R' (n + 1) j c = 0 := (keptB_iff (by omega)).mpr (fun q => ((app_kp h hi c).mp q).2 ⟨rfl, rfl⟩)
      have k2 : ¬ keptB R n j c = 0 := fun q => (keptB_iff hi).mp q hk
      rw [if_pos k1, if_neg k2, if_pos (by omega)]
      rw [if_neg (by omega)] at ih
      omega
    · have k1 : keptB R' (n + 1) j c = keptB R n j c := keptB_iff2 (by omega) (by omega) ((app_kp h (by omega) c).trans ⟨fun q => q.1, fun q => ⟨q, fun z => e (nI_inj (by omega) (by omega) z.2).symm⟩⟩)
      rw [k1, ← ih]
      by_cases e2 : i < j
      · rw [if_pos e2, if_pos (show i < j + 1 by omega)]; omega
      · rw [if_neg e2, if_neg (show ¬ i < j + 1 by omega)]; omega
theorem app_other {R R' : Nat → Nat → Int32} {n : Nat} {d : Nat} {k p t : Int32} (h : App R R' n (nI d) k p t) (hd : d < 1000000) (hk : k = 3 → ∃ i, i < n ∧ t = nI i ∧ R 4 i = nI d) (hn : n < 1000000) (c : Nat) (hc : c < 1000000) (hcd : ¬ c = d) : wN R' (n + 1) c = wN R n c := by
  have e : ¬ nI d = nI c := fun q => hcd (nI_inj hd hc q).symm
  unfold wN
  rw [app_is h, if_neg e, app_kNn h, if_neg (show ¬ (nI d = nI c ∧ k = 1) from fun q => e q.1), Nat.add_zero, app_kN h (nI c) (fun i hi h3 ht q => by
    obtain ⟨i', hi', ht', h4⟩ := hk h3
    have : i = i' := nI_inj (by omega) (by omega) (ht.symm.trans ht')
    subst this
    exact e (h4.symm.trans q.1)) (Nat.le_refl _)]
end PU3
