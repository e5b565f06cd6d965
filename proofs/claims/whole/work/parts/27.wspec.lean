def wouldTM (M : Nat → Nat → Int32) (n nd dr : Nat) (w : Int32) : Int32 :=
  upd (upd (upd (upd (upd (fun _ => 0) 0 (nI n - nI dr)) 1 (fallM2 M dr).2.1) 2 (fallM3 M nd dr).2.2) 3 (fallM2 M dr).2.2) 4 (areM (fallM3 M nd dr).1 (fallM3 M nd dr).2.1 3 nd - areM M n 3 nd) w.toNatClampNeg
theorem arr_ext {D : va_G} {H : Heap} {cy : ClassId} {a z : Nat} {f g : Nat → Int32} (h : ∀ j, j < z → f j = g j) (hP : va_P D vwCl [(a, .inl (cy, z, .inl f))] H) : va_P D vwCl [(a, .inl (cy, z, .inl g))] H := by
  have e : vp_cell cy (z, .inl f) = vp_cell cy (z, .inl g) := by
    show arrV cy z (fun j => .int (f j)) = arrV cy z (fun j => .int (g j))
    unfold arrV
    congr 1
    apply Array.ext
    · simp
    · intro i h1 h2
      simp at h1
      simp [h i h1]
  intro k q hq
  match k, hq with
  | 0, hq =>
    cases hq
    have h1 := hP 0 _ rfl
    show H[a]? = some (vp_cell cy (z, .inl g))
    rw [← e]
    exact h1
  | k + 1, hq => simp at hq
