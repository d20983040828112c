/-! the system's cells -/
abbrev zR (k : Nat) : zV := .inr (.inr (some k))
abbrev zI (z : Int) : zV := .inl z
abbrev zJ (z : Int) : zV := .inr (.inl z)
/-- a state: its numbers, its rows, its images -/
abbrev sS : Type := (Nat → Int) × (Nat → Nat → Int) × (Nat → Option Nat)
def cX (S : sS) : zH :=
  [.inr (9, [zR 1, zR 3, zR 5, zR 9, zR 10, zR 14, zR 15, zR 18, zR 19, zR 28]),
   .inr (6, [zR 2, zI (S.1 0)]),
   .inl (2, 600, .inl (S.2.1 0)),
   .inr (5, [zR 1, zR 4, zI (S.1 1), zI (S.1 2), zI (S.1 3), zI (S.1 4), zI (S.1 5), zI (S.1 6), zI (S.1 7), zI (S.1 8), zI (S.1 9), zI (S.1 10), zI (S.1 11)]),
   .inl (0, 39, .inl (S.2.1 1)),
   .inr (2, [zI (S.1 12), zI (S.1 13), zI (S.1 14), zI (S.1 15), zI (S.1 16), zR 6, zR 7, zR 8]),
   .inl (0, 39, .inl (S.2.1 2)),
   .inl (0, 60, .inl (S.2.1 3)),
   .inl (0, 2340, .inl (S.2.1 4)),
   .inr (1, [zI (S.1 17)]),
   .inr (4, [zR 5, zR 11, zR 12, zR 13]),
   .inl (1, 31, .inl (S.2.1 5)),
   .inl (1, 31, .inl (S.2.1 6)),
   .inl (1, 64, .inl (S.2.1 7)),
   .inr (0, [zR 5]),
   .inr (8, [zR 5, zR 16, zR 17]),
   .inl (0, 7, .inl (S.2.1 8)),
   .inl (0, 4, .inl (S.2.1 9)),
   .inr (3, [zR 5]),
   .inl (4, 4, .inr (fun i => match i with
     | 0 => some 20
     | 1 => some 22
     | 2 => some 24
     | 3 => some 26
     | _ => none)),
   .inr (7, [zR 21, zI (S.1 18), zI (S.1 19), zI (S.1 20)]),
   .inl (1, 30, .inl (S.2.1 10)),
   .inr (7, [zR 23, zI (S.1 21), zI (S.1 22), zI (S.1 23)]),
   .inl (1, 30, .inl (S.2.1 11)),
   .inr (7, [zR 25, zI (S.1 24), zI (S.1 25), zI (S.1 26)]),
   .inl (1, 30, .inl (S.2.1 12)),
   .inr (7, [zR 27, zI (S.1 27), zI (S.1 28), zI (S.1 29)]),
   .inl (1, 30, .inl (S.2.1 13)),
   .inl (5, 3, .inr S.2.2)]
