def beginX (R : Nat → Nat → Int32) (n nd : Nat) : Int32 := if nI nd < 20 then (if 2 ≤ roomS R n nd then 0 else 1) else 1
def cookX (R : Nat → Nat → Int32) (n nd : Nat) (d u x : Int32) : Int32 :=
  if isDishS nd d = 0 then 1 else if isPotS u = 0 then 1 else if x < 0 then 2 else if x ≤ 999 then (if isOpenS R d = 0 then 3 else if holderS R u n 0 = -1 then (if 2 ≤ roomS R n nd then 0 else 3) else if holderS R u n 0 = d then (if 2 ≤ roomS R n nd then 0 else 3) else 3) else 2
def openX (R : Nat → Nat → Int32) (nd : Nat) (d : Int32) : Int32 := if isDishS nd d = 0 then 1 else if isOpenS R d = 0 then 2 else 0
def potX (u : Int32) : Int32 := if isPotS u = 0 then 1 else 0
def potqX (u w : Int32) : Int32 := if isPotS u = 0 then 1 else if isBelowS w 5 = 0 then 1 else 0
def dishqX (nd : Nat) (d w : Int32) : Int32 := if isDishS nd d = 0 then 1 else if isBelowS w 5 = 0 then 1 else 0
def lineqX (n : Nat) (i w : Int32) : Int32 := if isBelowS i (nI n) = 0 then 1 else if isBelowS w 7 = 0 then 1 else 0
def countqX (w : Int32) : Int32 := if isBelowS w 11 = 0 then 1 else 0
def wouldX (w : Int32) : Int32 := if isBelowS w 5 = 0 then 1 else 0
def wouldAnsS (R : Nat → Nat → Int32) (nd n dr : Nat) (w : Int32) : Int32 := if w = 0 then nI n - nI dr else if w = 1 then toDoS R dr else if w = 2 then toTakeS R dr nd else if w = 3 then firstToDoS R dr 0 else toForgetS R dr nd
def leftAnsS (R : Nat → Nat → Int32) (nd dr : Nat) (p : Int32) : Int32 := left2S R dr p nd (left1S R p dr)
