def isInS (v lo hi : Int32) : Int32 := if v < lo then 0 else if hi < v then 0 else 1
def latN (M : Nat → Nat → Int32) (p : Int32) : Nat → Nat
  | 0 => 0
  | i + 1 => if M 6 i = p then i + 1 else latN M p i
theorem latN_eq (M : Nat → Nat → Int32) (p : Int32) : ∀ i, latestM M p i + 1 = nI (latN M p i)
  | 0 => by show (-1 : Int32) + 1 = Int32.ofNat 0; decide
  | i + 1 => by
    unfold latestM latN
    split
    · exact (nI_succ i).symm
    · exact latN_eq M p i
theorem latN_le (M : Nat → Nat → Int32) (p : Int32) : ∀ i, latN M p i ≤ i
  | 0 => Nat.le_refl _
  | i + 1 => by
    unfold latN
    split
    · exact Nat.le_refl _
    · exact Nat.le_succ_of_le (latN_le M p i)
theorem isIn_vp {x : Int32} {hi : Int32} {z : Nat} (hz : hi.toInt + 1 = z) (h : ¬ isInS x 0 hi = 0) : vp_in x z := by
  unfold isInS at h
  split at h
  · exact absurd rfl h
  · split at h
    · exact absurd rfl h
    · next h1 h2 =>
      rw [vp_in_iff]
      have e1 : ¬ x.toInt < (0 : Int32).toInt := fun q => h1 (Int32.lt_iff_toInt_lt.mpr q)
      have e2 : ¬ hi.toInt < x.toInt := fun q => h2 (Int32.lt_iff_toInt_lt.mpr q)
      have e3 : (0 : Int32).toInt = 0 := rfl
      rw [e3] at e1
      omega
theorem nar_isIn (x l h : Int32) : narrow .boolean (.int (isInS x l h)) = .int (isInS x l h) := by
  unfold isInS
  split
  · rfl
  · split <;> rfl
-- the code of what a call throws, 0 for none
def beginT (M : Nat → Nat → Int32) (n nd : Nat) : Int32 := if nI nd = 20 then 1 else if 2 ≤ roomM M n nd then 0 else 1
def cookT (M : Nat → Nat → Int32) (n nd : Nat) (d p x : Int32) : Int32 :=
  if isInS d 0 (nI nd - 1) = 0 then 1 else if isInS p 0 7 = 0 then 1 else if isInS x 0 999 = 0 then 2 else if isM M d n = 0 then (if holderM M n p nd 0 = -1 then (if 2 ≤ roomM M n nd then 0 else 3) else if holderM M n p nd 0 = d then (if 2 ≤ roomM M n nd then 0 else 3) else 3) else 3
def openT (M : Nat → Nat → Int32) (n nd : Nat) (d : Int32) : Int32 := if isInS d 0 (nI nd - 1) = 0 then 1 else if isM M d n = 0 then 0 else 2
def potT (p : Int32) : Int32 := if isInS p 0 7 = 0 then 1 else 0
def potqT (p w : Int32) : Int32 := if isInS p 0 7 = 0 then 1 else if isInS w 0 4 = 0 then 1 else 0
def dishqT (nd : Nat) (d w : Int32) : Int32 := if isInS d 0 (nI nd - 1) = 0 then 1 else if isInS w 0 4 = 0 then 1 else 0
def lineqT (n : Nat) (i w : Int32) : Int32 := if isInS i 0 (nI n - 1) = 0 then 1 else if isInS w 0 6 = 0 then 1 else 0
def countqT (w : Int32) : Int32 := if isInS w 0 10 = 0 then 1 else 0
def wouldT (w : Int32) : Int32 := if isInS w 0 4 = 0 then 1 else 0
-- what is told
def potTM (M : Nat → Nat → Int32) (n nd : Nat) (p w : Int32) : Int32 := upd (upd (upd (upd (upd (fun _ => 0) 0 (M 0 p.toNatClampNeg)) 1 (M 1 p.toNatClampNeg)) 2 (M 2 p.toNatClampNeg)) 3 (holderM M n p nd 0)) 4 (latestM M p n) w.toNatClampNeg
def manyM (M : Nat → Nat → Int32) (d : Int32) : Nat → Int32
  | 0 => 0
  | i + 1 => if M 4 i = d then manyM M d i + 1 else manyM M d i
def lastM (M : Nat → Nat → Int32) (d : Int32) : Nat → Int32
  | 0 => -1
  | i + 1 => if M 4 i = d then nI i else lastM M d i
def holdsM (M : Nat → Nat → Int32) (n : Nat) (d : Int32) : Nat → Int32
  | 0 => 0
  | i + 1 => if heldB M n (nI i) d = 0 then holdsM M n d i + 0 else holdsM M n d i + 1
def dishTM (M : Nat → Nat → Int32) (n : Nat) (d w : Int32) : Int32 := upd (upd (upd (upd (upd (fun _ => 0) 0 (isM M d n)) 1 (manyM M d n)) 2 (keptM M n d n)) 3 (holdsM M n d 8)) 4 (lastM M d n) w.toNatClampNeg
def lineTM (M : Nat → Nat → Int32) (dr : Nat) (i w : Int32) : Int32 := upd (upd (upd (upd (upd (upd (upd (fun _ => 0) 0 (M 4 i.toNatClampNeg)) 1 (M 5 i.toNatClampNeg)) 2 (M 6 i.toNatClampNeg)) 3 (M 7 i.toNatClampNeg)) 4 (M 8 i.toNatClampNeg)) 5 (M 9 i.toNatClampNeg)) 6 (if nI dr ≤ i then 0 else 1) w.toNatClampNeg
def countedM (M : Nat → Nat → Int32) (nd n dr : Nat) (fl w : Int32) : Int32 := if w = 0 then nI n else if w = 1 then nI dr else if w = 2 then nI nd else if w = 3 then areM M n (w - 3) nd else if w = 4 then areM M n (w - 3) nd else if w = 5 then areM M n (w - 3) nd else if w = 6 then areM M n (w - 3) nd else if w = 7 then roomM M n nd else if w = 8 then sumS (M 0) 8 else if w = 9 then sumS (M 1) 8 else fl
theorem predI_toInt {n : Nat} (hn : n ≤ 1000000) : (nI n - 1).toInt = (n : Int) - 1 := by
  cases n with
  | zero => decide
  | succ n => rw [nI_pred, nI_toInt (by omega)]; omega
theorem isIn_line {u : Int32} {n : Nat} (hn : n ≤ 120) (h : ¬ isInS u 0 (nI n - 1) = 0) : vp_in u 120 := by
  unfold isInS at h
  split at h
  · exact absurd rfl h
  · split at h
    · exact absurd rfl h
    · next h1 h2 =>
      rw [vp_in_iff]
      have e1 : ¬ u.toInt < (0 : Int32).toInt := fun q => h1 (Int32.lt_iff_toInt_lt.mpr q)
      have e2 : ¬ (nI n - 1).toInt < u.toInt := fun q => h2 (Int32.lt_iff_toInt_lt.mpr q)
      rw [predI_toInt (by omega)] at e2
      have e3 : (0 : Int32).toInt = 0 := rfl
      rw [e3] at e1
      omega
