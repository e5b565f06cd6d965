def fillP (x : Int32) (f : Nat → Int32) : Nat → Nat → Int32
  | 0 => f
  | i + 1 => upd (fillP x f i) i x
/-- the rows of a new kitchen -/
def initR (k : Nat) : Nat → Int32 := if k = 2 then fillP (-1) (fun _ => 0) 8 else fun _ => 0
/-- the model's cells: the state told of, the outer object, the other state -/
abbrev cW (q : Nat) (b : Nat → Nat) (cy : ClassId) (M : Nat → Nat → Int32) (n dr : Nat) (an fi ba : Int32) (mo : Nat) (th : Int32) (nd : Nat) (fl : Int32) (q2 : Nat) (b2 : Nat → Nat) (M2 : Nat → Nat → Int32) (n2 dr2 : Nat) (an2 fi2 ba2 : Int32) : va_W :=
  cSM q b cy M n dr an fi ba mo th nd fl q q2 ++ cS q2 b2 cy M2 n2 dr2 an2 fi2 ba2 mo
