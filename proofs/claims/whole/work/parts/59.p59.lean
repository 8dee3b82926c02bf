/-! Rows for going on behind a call whose answer is known. -/
theorem zb1_of {α β : Type} {o : Option α} {a : α} {k : α → Option β} (h : o = some a) : zb1 o k = k a := by
  subst h
  exact zb1_some
theorem zb2_of {α1 α2 β : Type} {o : Option (α1 × α2)} {a1 : α1} {a2 : α2} {k : α1 → α2 → Option β} (h : o = some (a1, a2)) : zb2 o k = k a1 a2 := by
  subst h
  exact zb2_some
theorem zb3_of {α1 α2 α3 β : Type} {o : Option (α1 × α2 × α3)} {a1 : α1} {a2 : α2} {a3 : α3} {k : α1 → α2 → α3 → Option β} (h : o = some (a1, a2, a3)) : zb3 o k = k a1 a2 a3 := by
  subst h
  exact zb3_some
theorem zb4_of {α1 α2 α3 α4 β : Type} {o : Option (α1 × α2 × α3 × α4)} {a1 : α1} {a2 : α2} {a3 : α3} {a4 : α4} {k : α1 → α2 → α3 → α4 → Option β} (h : o = some (a1, a2, a3, a4)) : zb4 o k = k a1 a2 a3 a4 := by
  subst h
  exact zb4_some
theorem zb5_of {α1 α2 α3 α4 α5 β : Type} {o : Option (α1 × α2 × α3 × α4 × α5)} {a1 : α1} {a2 : α2} {a3 : α3} {a4 : α4} {a5 : α5} {k : α1 → α2 → α3 → α4 → α5 → Option β} (h : o = some (a1, a2, a3, a4, a5)) : zb5 o k = k a1 a2 a3 a4 a5 := by
  subst h
  exact zb5_some
theorem zb6_of {α1 α2 α3 α4 α5 α6 β : Type} {o : Option (α1 × α2 × α3 × α4 × α5 × α6)} {a1 : α1} {a2 : α2} {a3 : α3} {a4 : α4} {a5 : α5} {a6 : α6} {k : α1 → α2 → α3 → α4 → α5 → α6 → Option β} (h : o = some (a1, a2, a3, a4, a5, a6)) : zb6 o k = k a1 a2 a3 a4 a5 a6 := by
  subst h
  exact zb6_some
theorem zb7_of {α1 α2 α3 α4 α5 α6 α7 β : Type} {o : Option (α1 × α2 × α3 × α4 × α5 × α6 × α7)} {a1 : α1} {a2 : α2} {a3 : α3} {a4 : α4} {a5 : α5} {a6 : α6} {a7 : α7} {k : α1 → α2 → α3 → α4 → α5 → α6 → α7 → Option β} (h : o = some (a1, a2, a3, a4, a5, a6, a7)) : zb7 o k = k a1 a2 a3 a4 a5 a6 a7 := by
  subst h
  exact zb7_some
theorem zb8_of {α1 α2 α3 α4 α5 α6 α7 α8 β : Type} {o : Option (α1 × α2 × α3 × α4 × α5 × α6 × α7 × α8)} {a1 : α1} {a2 : α2} {a3 : α3} {a4 : α4} {a5 : α5} {a6 : α6} {a7 : α7} {a8 : α8} {k : α1 → α2 → α3 → α4 → α5 → α6 → α7 → α8 → Option β} (h : o = some (a1, a2, a3, a4, a5, a6, a7, a8)) : zb8 o k = k a1 a2 a3 a4 a5 a6 a7 a8 := by
  subst h
  exact zb8_some
theorem zb9_of {α1 α2 α3 α4 α5 α6 α7 α8 α9 β : Type} {o : Option (α1 × α2 × α3 × α4 × α5 × α6 × α7 × α8 × α9)} {a1 : α1} {a2 : α2} {a3 : α3} {a4 : α4} {a5 : α5} {a6 : α6} {a7 : α7} {a8 : α8} {a9 : α9} {k : α1 → α2 → α3 → α4 → α5 → α6 → α7 → α8 → α9 → Option β} (h : o = some (a1, a2, a3, a4, a5, a6, a7, a8, a9)) : zb9 o k = k a1 a2 a3 a4 a5 a6 a7 a8 a9 := by
  subst h
  exact zb9_some
theorem zb12_of {α1 α2 α3 α4 α5 α6 α7 α8 α9 α10 α11 α12 β : Type} {o : Option (α1 × α2 × α3 × α4 × α5 × α6 × α7 × α8 × α9 × α10 × α11 × α12)} {a1 : α1} {a2 : α2} {a3 : α3} {a4 : α4} {a5 : α5} {a6 : α6} {a7 : α7} {a8 : α8} {a9 : α9} {a10 : α10} {a11 : α11} {a12 : α12} {k : α1 → α2 → α3 → α4 → α5 → α6 → α7 → α8 → α9 → α10 → α11 → α12 → Option β} (h : o = some (a1, a2, a3, a4, a5, a6, a7, a8, a9, a10, a11, a12)) : zb12 o k = k a1 a2 a3 a4 a5 a6 a7 a8 a9 a10 a11 a12 := by
  subst h
  exact zb12_some
