theorem mxI_of {x y : Int32} (h : y ≤ x) : mxI x y = x := by
  unfold mxI
  rw [if_neg (Int32.not_lt.mpr h)]
theorem mxI_le {x y : Int32} (h : x ≤ y) : mxI x y = y := by
  unfold mxI
  split
  · rfl
  · next z => exact Int32.le_antisymm h (Int32.not_lt.mp z)
theorem mxI_gt {x y : Int32} (h : ¬ x ≤ y) : y < mxI x y := by
  rw [mxI_of (Int32.le_of_lt (Int32.not_le.mp h))]
  exact Int32.not_le.mp h
theorem mxI_ge (x y : Int32) : y ≤ mxI x y := by
  unfold mxI
  split
  · exact Int32.le_refl _
  · next z => exact Int32.not_lt.mp z
/-- a child's papers begin at its birth or later and last beyond it -/
theorem dayHd_fr {P : PT} {p : Nat} {k o e : Int32} (h : ∀ q, p * 8 ≤ q → q < p * 8 + pcN P p → e ≤ P.2.2.2.2.1 q ∧ e ≤ P.2.2.2.2.2.1 q) : dayHd P p k o e = hasFr P p k o := by
  unfold dayHd hasFr
  refine foldF_c2 _ _ _ (fun y q h1 h2 => ?_)
  obtain ⟨a, b⟩ := h q h1 h2
  by_cases c : P.2.2.1 q = k ∧ P.2.2.2.1 q = o
  · rw [if_pos c, if_pos ⟨c.1, c.2, b⟩, mxI_of a]
  · rw [if_neg c, if_neg (fun z => c ⟨z.1, z.2.1⟩)]
/-- a parent has such a paper at the birth -/
theorem dayHd_now {P : PT} {p : Nat} {k o e : Int32} (he : e < 1000000) : (dayHd P p k o e = e) ↔ lastN P p k o e = true := by
  refine ⟨fun h => ?_, fun h => ?_⟩
  · cases hl : lastN P p k o e with
    | true => rfl
    | false =>
      have hgt : e < dayHd P p k o e := by
        unfold dayHd
        refine foldF_inv2 (fun x => e < x) _ _ _ he (fun y q hy h1 h2 => ?_)
        split
        · next c =>
          refine mnI_gt hy (mxI_gt (fun z => ?_))
          have : lastN P p k o e = true := (anyF_iff _ _).mpr ⟨q, h1, h2, by
            simp only [lastsP, Bool.and_eq_true, decide_eq_true_eq]
            exact ⟨c.1, c.2.1, z, c.2.2⟩⟩
          rw [hl] at this
          cases this
        · exact hy
      rw [h] at hgt
      exact absurd hgt (Int32.lt_irrefl)
  · obtain ⟨q, h1, h2, hq⟩ := (anyF_iff _ _).mp h
    simp only [lastsP, Bool.and_eq_true, decide_eq_true_eq] at hq
    obtain ⟨k1, k2, k3, k4⟩ := hq
    refine Int32.le_antisymm ?_ ?_
    · exact foldF_at (g := fun x q => if P.2.2.1 q = k ∧ P.2.2.2.1 q = o ∧ e ≤ P.2.2.2.2.2.1 q then mnI x (mxI (P.2.2.2.2.1 q) e) else x) (q := q) (v := e) (fun x q => by
        show (if P.2.2.1 q = k ∧ P.2.2.2.1 q = o ∧ e ≤ P.2.2.2.2.2.1 q then mnI x (mxI (P.2.2.2.2.1 q) e) else x) ≤ x
        split
        · exact mnI_l _ _
        · exact Int32.le_refl _) (fun x => by
        show (if P.2.2.1 q = k ∧ P.2.2.2.1 q = o ∧ e ≤ P.2.2.2.2.2.1 q then mnI x (mxI (P.2.2.2.2.1 q) e) else x) ≤ e
        rw [if_pos ⟨k1, k2, k4⟩, mxI_le k3]
        exact mnI_r _ _) (pcN P p) (p * 8) 1000000 h1 h2
    · unfold dayHd
      refine foldF_inv2 (fun x => e ≤ x) _ _ _ (Int32.le_of_lt he) (fun y q hy _ _ => ?_)
      split
      · unfold mnI
        split
        · exact mxI_ge _ _
        · exact hy
      · exact hy

