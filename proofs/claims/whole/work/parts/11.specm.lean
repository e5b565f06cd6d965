-- the model's cells: a state at q (rows b k), the outer object at mo
abbrev cS (q : Nat) (b : Nat → Nat) (cy : ClassId) (M : Nat → Nat → Int32) (n dr : Nat) (an fi ba : Int32) (mo : Nat) : va_W :=
  [(q, .inr (1, [.int (nI n), .int (nI dr), .ref (b 0), .ref (b 1), .ref (b 2), .ref (b 4), .ref (b 5), .ref (b 6), .ref (b 7), .ref (b 8), .ref (b 9), .int an, .int fi, .int ba, .ref mo])),
   (b 0, .inl (cy, 8, .inl (M 0))), (b 1, .inl (cy, 8, .inl (M 1))), (b 2, .inl (cy, 8, .inl (M 2))), (b 4, .inl (cy, 120, .inl (M 4))), (b 5, .inl (cy, 120, .inl (M 5))), (b 6, .inl (cy, 120, .inl (M 6))), (b 7, .inl (cy, 120, .inl (M 7))), (b 8, .inl (cy, 120, .inl (M 8))), (b 9, .inl (cy, 120, .inl (M 9)))]
abbrev cM (mo : Nat) (th : Int32) (nd : Nat) (fl : Int32) (sq tq : Nat) : Nat × va_E := (mo, .inr (2, [.int th, .int (nI nd), .int fl, .ref sq, .ref tq]))
abbrev cSM (q : Nat) (b : Nat → Nat) (cy : ClassId) (M : Nat → Nat → Int32) (n dr : Nat) (an fi ba : Int32) (mo : Nat) (th : Int32) (nd : Nat) (fl : Int32) (sq tq : Nat) : va_W :=
  [(q, .inr (1, [.int (nI n), .int (nI dr), .ref (b 0), .ref (b 1), .ref (b 2), .ref (b 4), .ref (b 5), .ref (b 6), .ref (b 7), .ref (b 8), .ref (b 9), .int an, .int fi, .int ba, .ref mo])),
   (b 0, .inl (cy, 8, .inl (M 0))), (b 1, .inl (cy, 8, .inl (M 1))), (b 2, .inl (cy, 8, .inl (M 2))), (b 4, .inl (cy, 120, .inl (M 4))), (b 5, .inl (cy, 120, .inl (M 5))), (b 6, .inl (cy, 120, .inl (M 6))), (b 7, .inl (cy, 120, .inl (M 7))), (b 8, .inl (cy, 120, .inl (M 8))), (b 9, .inl (cy, 120, .inl (M 9))),
   (mo, .inr (2, [.int th, .int (nI nd), .int fl, .ref sq, .ref tq]))]
-- what the model's methods answer
def stepM (k prev : Int32) : Int32 := if k = 0 then (if k = 2 then (if k = 4 then 2 else 1) else (if k = 4 then 2 else 0)) else (if k = 2 then (if k = 4 then 2 else 1) else (if k = 4 then 2 else prev))
def isM (M : Nat → Nat → Int32) (d : Int32) : Nat → Int32
  | 0 => 3
  | i + 1 => if M 4 i = d then stepM (M 5 i) (isM M d i) else isM M d i
def takenF (M : Nat → Nat → Int32) (j : Nat) : Nat → Nat → Int32
  | 0, _ => 0
  | k + 1, i => if M 5 i = 3 then (if M 9 i = nI j then 1 else takenF M j k (i + 1)) else takenF M j k (i + 1)
def takenM (M : Nat → Nat → Int32) (n j : Nat) : Int32 := takenF M j (n - (j + 1)) (j + 1)
def keptB (M : Nat → Nat → Int32) (n j : Nat) (d : Int32) : Int32 := if M 4 j = d then (if M 5 j = 1 then (if takenM M n j = 0 then 1 else 0) else 0) else 0
def keptM (M : Nat → Nat → Int32) (n : Nat) (d : Int32) : Nat → Int32
  | 0 => 0
  | i + 1 => if keptB M n i d = 0 then keptM M n d i + 0 else keptM M n d i + 1
def roomM (M : Nat → Nat → Int32) (n : Nat) : Nat → Int32
  | 0 => 120 - nI n
  | d + 1 => if isM M (nI d) n = 0 then roomM M n d - (1 + keptM M n (nI d) n) else roomM M n d - 0
def heldM (M : Nat → Nat → Int32) (p d : Int32) : Nat → Int32
  | 0 => 0
  | i + 1 => if M 4 i = d then (if M 5 i = 1 then (if M 6 i = p then heldM M p d i ||| 1 else heldM M p d i ||| 0) else heldM M p d i ||| 0) else heldM M p d i ||| 0
def heldB (M : Nat → Nat → Int32) (n : Nat) (p d : Int32) : Int32 := if heldM M p d n = 0 then 0 else if isM M d n = 0 then 1 else 0
def holderM (M : Nat → Nat → Int32) (n : Nat) (p : Int32) : Nat → Nat → Int32
  | 0, _ => -1
  | k + 1, i => if heldB M n p (nI i) = 0 then holderM M n p k (i + 1) else nI i
def latestM (M : Nat → Nat → Int32) (p : Int32) : Nat → Int32
  | 0 => -1
  | i + 1 => if M 6 i = p then nI i else latestM M p i
def areM (M : Nat → Nat → Int32) (n : Nat) (x : Int32) : Nat → Int32
  | 0 => 0
  | d + 1 => if isM M (nI d) n = x then areM M n x d + 1 else areM M n x d + 0
-- what they write
def setM (M : Nat → Nat → Int32) (k i : Nat) (x : Int32) : Nat → Nat → Int32 := va_up M k (upd (M k) i x)
theorem cSM_set_0 (q : Nat) (b : Nat → Nat) (cy : ClassId) (M : Nat → Nat → Int32) (n dr : Nat) (an fi ba : Int32) (mo : Nat) (th : Int32) (nd : Nat) (fl : Int32) (sq tq : Nat) (i : Nat) (x : Int32) : (cSM q b cy M n dr an fi ba mo th nd fl sq tq).set 1 (b 0, .inl (cy, 8, .inl (upd (M 0) i x))) = cSM q b cy (setM M 0 i x) n dr an fi ba mo th nd fl sq tq := rfl
theorem cSM_set_1 (q : Nat) (b : Nat → Nat) (cy : ClassId) (M : Nat → Nat → Int32) (n dr : Nat) (an fi ba : Int32) (mo : Nat) (th : Int32) (nd : Nat) (fl : Int32) (sq tq : Nat) (i : Nat) (x : Int32) : (cSM q b cy M n dr an fi ba mo th nd fl sq tq).set 2 (b 1, .inl (cy, 8, .inl (upd (M 1) i x))) = cSM q b cy (setM M 1 i x) n dr an fi ba mo th nd fl sq tq := rfl
theorem cSM_set_2 (q : Nat) (b : Nat → Nat) (cy : ClassId) (M : Nat → Nat → Int32) (n dr : Nat) (an fi ba : Int32) (mo : Nat) (th : Int32) (nd : Nat) (fl : Int32) (sq tq : Nat) (i : Nat) (x : Int32) : (cSM q b cy M n dr an fi ba mo th nd fl sq tq).set 3 (b 2, .inl (cy, 8, .inl (upd (M 2) i x))) = cSM q b cy (setM M 2 i x) n dr an fi ba mo th nd fl sq tq := rfl
theorem cSM_set_4 (q : Nat) (b : Nat → Nat) (cy : ClassId) (M : Nat → Nat → Int32) (n dr : Nat) (an fi ba : Int32) (mo : Nat) (th : Int32) (nd : Nat) (fl : Int32) (sq tq : Nat) (i : Nat) (x : Int32) : (cSM q b cy M n dr an fi ba mo th nd fl sq tq).set 4 (b 4, .inl (cy, 120, .inl (upd (M 4) i x))) = cSM q b cy (setM M 4 i x) n dr an fi ba mo th nd fl sq tq := rfl
theorem cSM_set_5 (q : Nat) (b : Nat → Nat) (cy : ClassId) (M : Nat → Nat → Int32) (n dr : Nat) (an fi ba : Int32) (mo : Nat) (th : Int32) (nd : Nat) (fl : Int32) (sq tq : Nat) (i : Nat) (x : Int32) : (cSM q b cy M n dr an fi ba mo th nd fl sq tq).set 5 (b 5, .inl (cy, 120, .inl (upd (M 5) i x))) = cSM q b cy (setM M 5 i x) n dr an fi ba mo th nd fl sq tq := rfl
theorem cSM_set_6 (q : Nat) (b : Nat → Nat) (cy : ClassId) (M : Nat → Nat → Int32) (n dr : Nat) (an fi ba : Int32) (mo : Nat) (th : Int32) (nd : Nat) (fl : Int32) (sq tq : Nat) (i : Nat) (x : Int32) : (cSM q b cy M n dr an fi ba mo th nd fl sq tq).set 6 (b 6, .inl (cy, 120, .inl (upd (M 6) i x))) = cSM q b cy (setM M 6 i x) n dr an fi ba mo th nd fl sq tq := rfl
theorem cSM_set_7 (q : Nat) (b : Nat → Nat) (cy : ClassId) (M : Nat → Nat → Int32) (n dr : Nat) (an fi ba : Int32) (mo : Nat) (th : Int32) (nd : Nat) (fl : Int32) (sq tq : Nat) (i : Nat) (x : Int32) : (cSM q b cy M n dr an fi ba mo th nd fl sq tq).set 7 (b 7, .inl (cy, 120, .inl (upd (M 7) i x))) = cSM q b cy (setM M 7 i x) n dr an fi ba mo th nd fl sq tq := rfl
theorem cSM_set_8 (q : Nat) (b : Nat → Nat) (cy : ClassId) (M : Nat → Nat → Int32) (n dr : Nat) (an fi ba : Int32) (mo : Nat) (th : Int32) (nd : Nat) (fl : Int32) (sq tq : Nat) (i : Nat) (x : Int32) : (cSM q b cy M n dr an fi ba mo th nd fl sq tq).set 8 (b 8, .inl (cy, 120, .inl (upd (M 8) i x))) = cSM q b cy (setM M 8 i x) n dr an fi ba mo th nd fl sq tq := rfl
theorem cSM_set_9 (q : Nat) (b : Nat → Nat) (cy : ClassId) (M : Nat → Nat → Int32) (n dr : Nat) (an fi ba : Int32) (mo : Nat) (th : Int32) (nd : Nat) (fl : Int32) (sq tq : Nat) (i : Nat) (x : Int32) : (cSM q b cy M n dr an fi ba mo th nd fl sq tq).set 9 (b 9, .inl (cy, 120, .inl (upd (M 9) i x))) = cSM q b cy (setM M 9 i x) n dr an fi ba mo th nd fl sq tq := rfl
def chalkM (M : Nat → Nat → Int32) (n : Nat) (d k : Int32) : Nat → Nat → Int32 :=
  setM (setM (setM (setM (setM (setM M 4 n d) 5 n k) 6 n (-1)) 7 n (-1)) 8 n (-1)) 9 n (-1)
def spoonsM (M : Nat → Nat → Int32) (n : Nat) (d k p x t : Int32) : Nat → Nat → Int32 :=
  setM (setM (setM (setM (setM (chalkM M n d k) 6 n p) 7 n (setM (chalkM M n d k) 6 n p 0 p.toNatClampNeg)) 8 n x) 9 n t) 0 p.toNatClampNeg x
def undoM (M : Nat → Nat → Int32) (n : Nat) (d : Int32) : Nat → (Nat → Nat → Int32) × Nat × Int32
  | 0 => (M, n, 0)
  | k + 1 => if keptB (undoM M n d k).1 (undoM M n d k).2.1 (n - 1 - k) d = 0 then undoM M n d k else (spoonsM (undoM M n d k).1 (undoM M n d k).2.1 d 3 ((undoM M n d k).1 6 (n - 1 - k)) ((undoM M n d k).1 7 (n - 1 - k)) (nI (n - 1 - k)), (undoM M n d k).2.1 + 1, (undoM M n d k).2.2 + 1)
def undoMR (M : Nat → Nat → Int32) (n : Nat) (d : Int32) : Nat → Nat → Int32 := chalkM (undoM M n d n).1 (undoM M n d n).2.1 d 4
def undoMN (M : Nat → Nat → Int32) (n : Nat) (d : Int32) : Nat := (undoM M n d n).2.1 + 1
def undoMC (M : Nat → Nat → Int32) (n : Nat) (d : Int32) : Int32 := (undoM M n d n).2.2
/-- what an undoing needs: room at each step, and pots that are there -/
def undoOk (M : Nat → Nat → Int32) (n : Nat) (d : Int32) : Prop := (∀ k, k ≤ n → (undoM M n d k).2.1 < 120) ∧ ∀ k, k < n → ¬ keptB (undoM M n d k).1 (undoM M n d k).2.1 (n - 1 - k) d = 0 → vp_in ((undoM M n d k).1 6 (n - 1 - k)) 8
def fall1M (M : Nat → Nat → Int32) : Nat → Nat → Nat → Int32
  | 0 => M
  | i + 1 => setM (fall1M M i) 0 i (fall1M M i 1 i)
def fall2M (M : Nat → Nat → Int32) : Nat → (Nat → Nat → Int32) × Int32 × Int32
  | 0 => (M, 0, -1)
  | i + 1 => if (fall2M M i).1 6 i = -1 then fall2M M i else if (fall2M M i).1 2 ((fall2M M i).1 6 i).toNatClampNeg < nI i then (setM (fall2M M i).1 0 ((fall2M M i).1 6 i).toNatClampNeg ((fall2M M i).1 8 i), (fall2M M i).2.1 + 1, if (fall2M M i).2.2 = -1 then nI i else (fall2M M i).2.2) else fall2M M i
def fall3M (nd : Nat) (M : Nat → Nat → Int32) (n : Nat) : Nat → (Nat → Nat → Int32) × Nat × Int32
  | 0 => (M, n, 0)
  | k + 1 => if isM (fall3M nd M n k).1 (nI (nd - 1 - k)) (fall3M nd M n k).2.1 = 0 then (undoMR (fall3M nd M n k).1 (fall3M nd M n k).2.1 (nI (nd - 1 - k)), undoMN (fall3M nd M n k).1 (fall3M nd M n k).2.1 (nI (nd - 1 - k)), (fall3M nd M n k).2.2 + undoMC (fall3M nd M n k).1 (fall3M nd M n k).2.1 (nI (nd - 1 - k))) else fall3M nd M n k
abbrev fallM2 (M : Nat → Nat → Int32) (dr : Nat) : (Nat → Nat → Int32) × Int32 × Int32 := fall2M (fall1M M 8) dr
abbrev fallM3 (M : Nat → Nat → Int32) (nd dr : Nat) : (Nat → Nat → Int32) × Nat × Int32 := fall3M nd (fallM2 M dr).1 dr nd
/-- what a fall needs -/
def fallOk (M : Nat → Nat → Int32) (nd dr : Nat) : Prop := (∀ i, i < dr → ¬ (fall2M (fall1M M 8) i).1 6 i = -1 → vp_in ((fall2M (fall1M M 8) i).1 6 i) 8) ∧ ∀ k, k < nd → isM (fall3M nd (fallM2 M dr).1 dr k).1 (nI (nd - 1 - k)) (fall3M nd (fallM2 M dr).1 dr k).2.1 = 0 → undoOk (fall3M nd (fallM2 M dr).1 dr k).1 (fall3M nd (fallM2 M dr).1 dr k).2.1 (nI (nd - 1 - k))
def becomeM (M T : Nat → Nat → Int32) : Nat → Nat → Int32 :=
  va_up (va_up (va_up (va_up (va_up (va_up (va_up (va_up (va_up T 0 (va_cpy (M 0) (T 0) 0 0 8)) 1 (va_cpy (M 1) (T 1) 0 0 8)) 2 (va_cpy (M 2) (T 2) 0 0 8)) 4 (va_cpy (M 4) (T 4) 0 0 120)) 5 (va_cpy (M 5) (T 5) 0 0 120)) 6 (va_cpy (M 6) (T 6) 0 0 120)) 7 (va_cpy (M 7) (T 7) 0 0 120)) 8 (va_cpy (M 8) (T 8) 0 0 120)) 9 (va_cpy (M 9) (T 9) 0 0 120)
