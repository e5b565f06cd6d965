def foldD (f : Nat → Int32) : Nat → Int64 → Int64
  | 0, d => d
  | k + 1, d => foldD f k d * 31 + (f k).toInt64
def fold2 (f : Nat → Nat → Int32) (m : Nat) : Nat → Int64 → Int64
  | 0, d => d
  | p + 1, d => foldD (f p) m (fold2 f m p d)
def digestS (R : Nat → Nat → Int32) (nd n dr : Nat) (fl : Int32) : Int64 :=
  fold2 (fun u w => lineAnsS R dr (nI u) (nI w)) 7 n (fold2 (fun u w => dishAnsS R n (nI u) (nI w)) 5 nd (fold2 (fun u w => potAnsS R n (nI u) (nI w)) 5 8 (foldD (fun w => countAnsS R nd n dr fl (nI w)) 11 1291)))
def digestM (M : Nat → Nat → Int32) (nd n dr : Nat) (fl : Int32) : Int64 :=
  fold2 (fun u w => lineTM M dr (nI u) (nI w)) 7 n (fold2 (fun u w => dishTM M n (nI u) (nI w)) 5 nd (fold2 (fun u w => potTM M n nd (nI u) (nI w)) 5 8 (foldD (fun w => countedM M nd n dr fl (nI w)) 11 1291)))
section DGB
abbrev RdL (l : Launch) (y : MethodName) (wd : List Cond) (fr lo : Nat) (As : List Value) (D : va_G) (cy : ClassId) (ws : va_W) (v : Int64) : Prop :=
  Met l y wd { frames := fr, cells := 0, slots := 0, locals := lo } (va_Pc As (rdB D cy ws)) (vp_Sl (fun r => r = v)) 0 0 (fun _ => False)
end DGB
