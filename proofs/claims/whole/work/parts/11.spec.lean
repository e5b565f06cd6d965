theorem add_m1 (x : Int32) : x + (-1) = x - 1 := by rw [Int32.sub_eq_add_neg]
theorem sub1_add1 (x : Int32) : x - 1 + 1 = x := by rw [Int32.sub_add_cancel]
theorem sw_of {x c : Int32} (h : x.toInt = c.toInt) : x = c := Int32.toInt_inj.mp h
theorem sw_ne {x c : Int32} {lo hi : Int} (h : x.toInt < lo ∨ hi < x.toInt) (hc : ¬ (c.toInt < lo ∨ hi < c.toInt)) : ¬ x = c := fun e => hc (e ▸ h)
theorem sw_3 {x : Int32} (h1 : ¬ x.toInt < 0) (h2 : ¬ 3 < x.toInt) : x = 0 ∨ x = 1 ∨ x = 2 ∨ x = 3 := by
  rcases (by omega : x.toInt = 0 ∨ x.toInt = 1 ∨ x.toInt = 2 ∨ x.toInt = 3) with h | h | h | h
  · exact Or.inl (sw_of h)
  · exact Or.inr (Or.inl (sw_of h))
  · exact Or.inr (Or.inr (Or.inl (sw_of h)))
  · exact Or.inr (Or.inr (Or.inr (sw_of h)))
theorem sw_4 {x : Int32} (h1 : ¬ x.toInt < 0) (h2 : ¬ 4 < x.toInt) : x = 0 ∨ x = 1 ∨ x = 2 ∨ x = 3 ∨ x = 4 := by
  by_cases h : 3 < x.toInt
  · exact Or.inr (Or.inr (Or.inr (Or.inr (sw_of (by show x.toInt = 4; omega)))))
  · rcases sw_3 h1 h with h | h | h | h <;> simp [h]
theorem sw_5 {x : Int32} (h1 : ¬ x.toInt < 0) (h2 : ¬ 5 < x.toInt) : x = 0 ∨ x = 1 ∨ x = 2 ∨ x = 3 ∨ x = 4 ∨ x = 5 := by
  by_cases h : 4 < x.toInt
  · exact Or.inr (Or.inr (Or.inr (Or.inr (Or.inr (sw_of (by show x.toInt = 5; omega))))))
  · rcases sw_4 h1 h with h | h | h | h | h <;> simp [h]
theorem sw_9 {x : Int32} (h1 : ¬ x.toInt < 0) (h2 : ¬ 9 < x.toInt) : x = 0 ∨ x = 1 ∨ x = 2 ∨ x = 3 ∨ x = 4 ∨ x = 5 ∨ x = 6 ∨ x = 7 ∨ x = 8 ∨ x = 9 := by
  by_cases h : 5 < x.toInt
  · rcases (by omega : x.toInt = 6 ∨ x.toInt = 7 ∨ x.toInt = 8 ∨ x.toInt = 9) with h | h | h | h
    · have := sw_of (c := 6) h; simp [this]
    · have := sw_of (c := 7) h; simp [this]
    · have := sw_of (c := 8) h; simp [this]
    · have := sw_of (c := 9) h; simp [this]
  · rcases sw_5 h1 h with h | h | h | h | h | h <;> simp [h]
-- what the class's methods answer, in the words of its rows
def isBelowS (x e : Int32) : Int32 := if x < 0 then 0 else if e ≤ x then 0 else 1
def atS (z : Nat) (f : Nat → Int32) (i : Int32) : Int32 := if isBelowS i (nI z) = 0 then -1 else f i.toNatClampNeg
def putS (z : Nat) (f : Nat → Int32) (i x : Int32) : Nat → Int32 := if isBelowS i (nI z) = 0 then f else upd f i.toNatClampNeg x
def sumS (f : Nat → Int32) : Nat → Int32
  | 0 => 0
  | i + 1 => sumS f i + f i
abbrev isPotS (p : Int32) : Int32 := isBelowS p 8
abbrev isDishS (nd : Nat) (d : Int32) : Int32 := isBelowS d (nI nd)
def isOpenS (R : Nat → Nat → Int32) (d : Int32) : Int32 := if atS 20 (R 3) d = 0 then 1 else 0
def isChangeS (R : Nat → Nat → Int32) (i d e : Int32) : Int32 := if atS 120 (R 4) i = d then (if atS 120 (R 5) i = 1 then (if isBelowS (atS 120 (R 10) i) e = 0 then 1 else 0) else 0) else 0
def changesS (R : Nat → Nat → Int32) (d e : Int32) : Nat → Int32
  | 0 => 0
  | i + 1 => if isChangeS R (nI i) d e = 0 then changesS R d e i else changesS R d e i + 1
def stateAfterS (k st : Int32) : Int32 := if k = 0 then 0 else if k = 2 then 1 else if k = 4 then 2 else st
def stateByS (R : Nat → Nat → Int32) (d : Int32) : Nat → Int32
  | 0 => 3
  | i + 1 => if atS 120 (R 4) (nI i) = d then stateAfterS (atS 120 (R 5) (nI i)) (stateByS R d i) else stateByS R d i
def countS (z : Nat) (f : Nat → Int32) (x : Int32) : Nat → Int32
  | 0 => 0
  | i + 1 => if atS z f (nI i) = x then countS z f x i + 1 else countS z f x i
def lastS (f : Nat → Int32) (x : Int32) : Nat → Int32
  | 0 => -1
  | i + 1 => if atS 120 f (nI i) = x then nI i else lastS f x i
def holderS (R : Nat → Nat → Int32) (p : Int32) : Nat → Nat → Int32
  | 0, _ => -1
  | k + 1, i => if atS 120 (R 5) (nI i) = 1 then (if atS 120 (R 6) (nI i) = p then (if isOpenS R (atS 120 (R 4) (nI i)) = 0 then holderS R p k (i + 1) else atS 120 (R 4) (nI i)) else holderS R p k (i + 1)) else holderS R p k (i + 1)
def potsHeldS (R : Nat → Nat → Int32) (n : Nat) (d : Int32) : Nat → Int32
  | 0 => 0
  | i + 1 => if holderS R (nI i) n 0 = d then potsHeldS R n d i + 1 else potsHeldS R n d i
def roomS (R : Nat → Nat → Int32) (n : Nat) : Nat → Int32
  | 0 => 120 - nI n
  | d + 1 => if isOpenS R (nI d) = 0 then roomS R n d else roomS R n d - (1 + changesS R (nI d) (nI n) n)
def isToDoS (R : Nat → Nat → Int32) (i : Int32) : Int32 := if atS 120 (R 6) i = -1 then 0 else if i ≤ atS 8 (R 2) (atS 120 (R 6) i) then 0 else 1
def toDoS (R : Nat → Nat → Int32) : Nat → Int32
  | 0 => 0
  | i + 1 => if isToDoS R (nI i) = 0 then toDoS R i else toDoS R i + 1
def firstToDoS (R : Nat → Nat → Int32) : Nat → Nat → Int32
  | 0, _ => -1
  | k + 1, i => if isToDoS R (nI i) = 0 then firstToDoS R k (i + 1) else nI i
def toTakeS (R : Nat → Nat → Int32) (dr : Nat) : Nat → Int32
  | 0 => 0
  | d + 1 => if stateByS R (nI d) dr = 0 then toTakeS R dr d + changesS R (nI d) (nI dr) dr else toTakeS R dr d
def toForgetS (R : Nat → Nat → Int32) (dr : Nat) : Nat → Int32
  | 0 => 0
  | d + 1 => if atS 20 (R 3) (nI d) = 3 then toForgetS R dr d else if stateByS R (nI d) dr = 3 then toForgetS R dr d + 1 else toForgetS R dr d
def spoonsAfterS (R : Nat → Nat → Int32) (dr : Nat) (d p : Int32) : Nat → Int32 → Int32
  | 0, acc => acc
  | i + 1, acc => spoonsAfterS R dr d p i (if atS 120 (R 6) (nI i) = p then (if isChangeS R (nI i) d (nI dr) = 0 then acc else atS 120 (R 7) (nI i)) else acc)
def left1S (R : Nat → Nat → Int32) (p : Int32) : Nat → Int32
  | 0 => atS 8 (R 1) p
  | i + 1 => if atS 120 (R 6) (nI i) = p then (if isToDoS R (nI i) = 0 then left1S R p i else atS 120 (R 8) (nI i)) else left1S R p i
def left2S (R : Nat → Nat → Int32) (dr : Nat) (p : Int32) : Nat → Int32 → Int32
  | 0, acc => acc
  | d + 1, acc => left2S R dr p d (if stateByS R (nI d) dr = 0 then spoonsAfterS R dr (nI d) p dr acc else acc)
def potAnsS (R : Nat → Nat → Int32) (n : Nat) (p w : Int32) : Int32 := if w = 0 then atS 8 (R 0) p else if w = 1 then atS 8 (R 1) p else if w = 2 then atS 8 (R 2) p else if w = 3 then holderS R p n 0 else lastS (R 6) p n
def dishAnsS (R : Nat → Nat → Int32) (n : Nat) (d w : Int32) : Int32 := if w = 0 then atS 20 (R 3) d else if w = 1 then countS 120 (R 4) d n else if w = 2 then changesS R d (nI n) n else if w = 3 then potsHeldS R n d 8 else lastS (R 4) d n
def lineAnsS (R : Nat → Nat → Int32) (dr : Nat) (i w : Int32) : Int32 := if w = 0 then atS 120 (R 4) i else if w = 1 then atS 120 (R 5) i else if w = 2 then atS 120 (R 6) i else if w = 3 then atS 120 (R 7) i else if w = 4 then atS 120 (R 8) i else if w = 5 then atS 120 (R 9) i else if nI dr ≤ i then 0 else 1
def countAnsS (R : Nat → Nat → Int32) (nd n dr : Nat) (fl w : Int32) : Int32 := if w = 0 then nI n else if w = 1 then nI dr else if w = 2 then nI nd else if w = 3 then countS 20 (R 3) 0 nd else if w = 4 then countS 20 (R 3) 1 nd else if w = 5 then countS 20 (R 3) 2 nd else if w = 6 then countS 20 (R 3) 3 nd else if w = 7 then roomS R n nd else if w = 8 then sumS (R 0) 8 else if w = 9 then sumS (R 1) 8 else fl
theorem below_in {x : Int32} {z : Nat} (hz : z < 1000000) (h : ¬ isBelowS x (nI z) = 0) : vp_in x z := by
  unfold isBelowS at h
  split at h
  · exact absurd rfl h
  · split at h
    · exact absurd rfl h
    · next h1 h2 =>
      rw [vp_in_iff]
      have e1 : ¬ x.toInt < (0 : Int32).toInt := fun q => h1 (Int32.lt_iff_toInt_lt.mpr q)
      have e2 : ¬ (nI z).toInt ≤ x.toInt := fun q => h2 (Int32.le_iff_toInt_le.mpr q)
      rw [nI_toInt (by omega)] at e2
      have e3 : (0 : Int32).toInt = 0 := rfl
      rw [e3] at e1
      omega
theorem nar_below (x e : Int32) : narrow .boolean (.int (isBelowS x e)) = .int (isBelowS x e) := by
  unfold isBelowS
  split
  · rfl
  · split <;> rfl
-- the class's cells
abbrev cC (h : Nat) (a : Nat → Nat) (cy : ClassId) (R : Nat → Nat → Int32) (nd n dr : Nat) (fl : Int32) : va_W :=
  [(h, .inr (0, [.ref (a 0), .ref (a 1), .ref (a 2), .ref (a 3), .int (nI nd), .ref (a 4), .ref (a 5), .ref (a 6), .ref (a 7), .ref (a 8), .ref (a 9), .ref (a 10), .int (nI n), .int (nI dr), .int fl])),
   (a 0, .inl (cy, 8, .inl (R 0))), (a 1, .inl (cy, 8, .inl (R 1))), (a 2, .inl (cy, 8, .inl (R 2))), (a 3, .inl (cy, 20, .inl (R 3))), (a 4, .inl (cy, 120, .inl (R 4))), (a 5, .inl (cy, 120, .inl (R 5))), (a 6, .inl (cy, 120, .inl (R 6))), (a 7, .inl (cy, 120, .inl (R 7))), (a 8, .inl (cy, 120, .inl (R 8))), (a 9, .inl (cy, 120, .inl (R 9))), (a 10, .inl (cy, 120, .inl (R 10)))]
-- what the class's methods write
def stepR (R : Nat → Nat → Int32) (k z : Nat) (i x : Int32) : Nat → Nat → Int32 := va_up R k (putS z (R k) i x)
def chalkR (R : Nat → Nat → Int32) (n : Nat) (d k : Int32) : Nat → Nat → Int32 :=
  stepR (stepR (stepR (stepR (stepR (stepR (stepR R 4 120 (nI n) d) 5 120 (nI n) k) 6 120 (nI n) (-1)) 7 120 (nI n) (-1)) 8 120 (nI n) (-1)) 9 120 (nI n) (-1)) 10 120 (nI n) (-1)
def spoonsR (R : Nat → Nat → Int32) (n : Nat) (d k p x : Int32) : Nat → Nat → Int32 :=
  stepR (stepR (stepR (stepR (chalkR R n d k) 6 120 (nI n) p) 7 120 (nI n) (atS 8 (stepR (chalkR R n d k) 6 120 (nI n) p 0) p)) 8 120 (nI n) x) 0 8 p x
def takeBackR (R : Nat → Nat → Int32) (n : Nat) (i : Int32) : Nat → Nat → Int32 :=
  stepR (stepR (spoonsR R n (atS 120 (R 4) i) 3 (atS 120 (R 6) i) (atS 120 (R 7) i)) 9 120 (nI n) i) 10 120 i (nI n)
def undoP (R : Nat → Nat → Int32) (n : Nat) (d : Int32) : Nat → (Nat → Nat → Int32) × Nat × Int32
  | 0 => (R, n, 0)
  | k + 1 => if isChangeS (undoP R n d k).1 (nI (n - 1 - k)) d (nI (undoP R n d k).2.1) = 0 then undoP R n d k else (takeBackR (undoP R n d k).1 (undoP R n d k).2.1 (nI (n - 1 - k)), (undoP R n d k).2.1 + 1, (undoP R n d k).2.2 + 1)
def undoR (R : Nat → Nat → Int32) (n : Nat) (d : Int32) : Nat → Nat → Int32 :=
  stepR (chalkR (undoP R n d n).1 (undoP R n d n).2.1 d 4) 3 20 d 2
def undoN (R : Nat → Nat → Int32) (n : Nat) (d : Int32) : Nat := (undoP R n d n).2.1 + 1
def undoC (R : Nat → Nat → Int32) (n : Nat) (d : Int32) : Int32 := (undoP R n d n).2.2
def wipe1R (R : Nat → Nat → Int32) (dr : Nat) : Nat → Nat → Nat → Int32
  | 0 => R
  | i + 1 => if atS 120 (wipe1R R dr i 10) (nI i) < nI dr then wipe1R R dr i else stepR (wipe1R R dr i) 10 120 (nI i) (-1)
def wipe2R (R : Nat → Nat → Int32) (dr : Nat) : Nat → Nat → Nat → Int32
  | 0 => R
  | d + 1 => stepR (wipe2R R dr d) 3 20 (nI d) (stateByS (wipe2R R dr d) (nI d) dr)
def wipeR (R : Nat → Nat → Int32) (nd dr : Nat) : Nat → Nat → Int32 := wipe2R (wipe1R R dr dr) dr nd
def doR (R : Nat → Nat → Int32) : Nat → Nat → Nat → Int32
  | 0 => R
  | i + 1 => if isToDoS (doR R i) (nI i) = 0 then doR R i else stepR (doR R i) 0 8 (atS 120 (doR R i 6) (nI i)) (atS 120 (doR R i 8) (nI i))
def doC (R : Nat → Nat → Int32) : Nat → Int32
  | 0 => 0
  | i + 1 => if isToDoS (doR R i) (nI i) = 0 then doC R i else doC R i + 1
def fallP (nd : Nat) (R : Nat → Nat → Int32) (n : Nat) : Nat → (Nat → Nat → Int32) × Nat
  | 0 => (R, n)
  | k + 1 => if isOpenS (fallP nd R n k).1 (nI (nd - 1 - k)) = 0 then fallP nd R n k else (undoR (fallP nd R n k).1 (fallP nd R n k).2 (nI (nd - 1 - k)), undoN (fallP nd R n k).1 (fallP nd R n k).2 (nI (nd - 1 - k)))
def fallB (R : Nat → Nat → Int32) (nd dr : Nat) : Nat → Nat → Int32 := va_up (wipeR R nd dr) 0 (va_cpy (wipeR R nd dr 1) (wipeR R nd dr 0) 0 0 8)
abbrev fallD (R : Nat → Nat → Int32) (nd dr : Nat) : Nat → Nat → Int32 := doR (fallB R nd dr) dr
def dryN (dr e : Nat) : Nat := if dr < e then e else dr
theorem max_nI {a b : Nat} (ha : a < 1000000) (hb : b < 1000000) : (if nI a < nI b then nI b else nI a) = nI (dryN a b) := by
  unfold dryN
  by_cases h : a < b
  · rw [if_pos h, if_pos ((nI_ltI (by omega) (by omega)).mpr h)]
  · rw [if_neg h, if_neg (fun q => h ((nI_ltI (by omega) (by omega)).mp q))]
def lastN1 (f : Nat → Int32) (x : Int32) : Nat → Nat
  | 0 => 0
  | i + 1 => if atS 120 f (nI i) = x then i + 1 else lastN1 f x i
theorem lastN1_eq (f : Nat → Int32) (x : Int32) : ∀ i, lastS f x i + 1 = nI (lastN1 f x i)
  | 0 => by show (-1 : Int32) + 1 = Int32.ofNat 0; decide
  | i + 1 => by
    unfold lastS lastN1
    split
    · exact (nI_succ i).symm
    · exact lastN1_eq f x i
theorem lastN1_le (f : Nat → Int32) (x : Int32) : ∀ i, lastN1 f x i ≤ i
  | 0 => Nat.le_refl _
  | i + 1 => by
    unfold lastN1
    split
    · exact Nat.le_refl _
    · exact Nat.le_succ_of_le (lastN1_le f x i)
