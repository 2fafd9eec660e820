def pdR (P : PT) (x d : Int32) : Int32 := if 0 ≤ x ∧ x < nI P.2.2.2.2.2.2 then (if dayB d then 0 else 2) else 1

