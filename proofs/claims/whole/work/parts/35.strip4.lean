/-- the strip, the told numbers of its book and its people -/
def stripP (tl hb td tr lf m : Int32) (T : Nat → Int32) (P : PT) : List q_C := [.inr (11, [tk 0 0, .int tl, .ref 1, tk 0 3, tk 0 4, .int hb, .int td, .ref 3, tk 0 8, tk 0 9, tk 0 10, tk 0 11, tk 0 12, .int tr, .int lf]), .inr (0, [.ref 2, tk 1 1, tk 1 2, tk 1 3, .int m, tk 1 5, tk 1 6, tk 1 7]), .inl (1, 4, .inl T)] ++ peopleW 3 P

