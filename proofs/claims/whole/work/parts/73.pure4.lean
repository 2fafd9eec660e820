theorem anyF_iff {f : Nat → Bool} : ∀ n s, anyF f s n = true ↔ ∃ q, s ≤ q ∧ q < s + n ∧ f q = true
  | 0, s => ⟨fun h => by simp [anyF] at h, fun ⟨q, h1, h2, _⟩ => absurd h2 (by omega)⟩
  | n + 1, s => by
    rw [anyF, Bool.or_eq_true, anyF_iff n (s + 1)]
    refine ⟨fun h => ?_, fun ⟨q, h1, h2, h3⟩ => ?_⟩
    · rcases h with h | ⟨q, h1, h2, h3⟩
      · exact ⟨s, Nat.le_refl _, by omega, h⟩
      · exact ⟨q, by omega, by omega, h3⟩
    · by_cases e : q = s
      · rw [e] at h3; exact Or.inl h3
      · exact Or.inr ⟨q, by omega, by omega, h3⟩
theorem allF_iff {f : Nat → Bool} : ∀ n s, allF f s n = true ↔ ∀ q, s ≤ q → q < s + n → f q = true
  | 0, s => ⟨fun _ q h1 h2 => absurd h2 (by omega), fun _ => rfl⟩
  | n + 1, s => by
    rw [allF, Bool.and_eq_true, allF_iff n (s + 1)]
    refine ⟨fun h q h1 h2 => ?_, fun h => ⟨h s (Nat.le_refl _) (by omega), fun q h1 h2 => h q (by omega) (by omega)⟩⟩
    by_cases e : q = s
    · rw [e]; exact h.1
    · exact h.2 q (by omega) (by omega)
theorem hasGd_back {P : PT} {L : LT} {p : Nat} {kind land d e : Int32} (hde : d ≤ e) (h1 : e < chgF L d land kind (L_n L)) (h2 : e < begB P d p kind) (hu : ∀ i, i < L_n L → L.2.2.2.2.2.1 i ≤ 999) (h : hasGd P L p kind land e = true) : hasGd P L p kind land d = true := by
  unfold hasGd at h ⊢
  obtain ⟨q, q1, q2, hq⟩ := (anyF_iff _ _).mp h
  refine (anyF_iff _ _).mpr ⟨q, q1, q2, ?_⟩
  simp only [lastsP, Bool.and_eq_true, decide_eq_true_eq] at hq ⊢
  obtain ⟨k1, ⟨k2, k3⟩, k4⟩ := hq
  refine ⟨k1, ⟨Int32.not_lt.mp (fun z => ?_), Int32.le_trans hde k3⟩, ?_⟩
  · exact absurd (Int32.lt_of_lt_of_le h2 (begB_le q1 q2 k1 z)) (Int32.not_lt.mpr k2)
  · rw [← accOn_still hde h1 hu]; exact k4
/-- a road that is closed stays so until the least day at which something of it begins or has ended -/
theorem openB_still {P : PT} {L : LT} {R : RT} {p r : Nat} {d e : Int32} (hde : d ≤ e) (h : e < opnB P L R p r d) (hu : ∀ i, i < L_n L → L.2.2.2.2.2.1 i ≤ 999) (hc : openB P L R p r d = false) : openB P L R p r e = false := by
  cases ho : openB P L R p r e with
  | false => rfl
  | true =>
    have h9 : openB P L R p r d = true := by
      unfold openB at ho ⊢
      refine (allF_iff _ _).mpr (fun q q1 q2 => ?_)
      obtain ⟨b1, b2⟩ := opnB_le (P := P) (L := L) (p := p) (day := d) q1 q2
      exact hasGd_back hde (Int32.lt_of_lt_of_le h b1) (Int32.lt_of_lt_of_le h b2) hu ((allF_iff _ _).mp ho q q1 q2)
    rw [hc] at h9
    cases h9
theorem soon_gt {s c b : Int32} (h : b < s) : b < soon s c b := by
  unfold soon
  split
  · next z => exact z.1
  · exact h
theorem chgF_gt {L : LT} {day land kind : Int32} (h : day < 1000000) : ∀ n, day < chgF L day land kind n
  | 0 => h
  | n + 1 => by
    rw [chgF]
    split
    · exact soon_gt (soon_gt (soon_gt (chgF_gt h n)))
    · exact chgF_gt h n
theorem begB_gt {P : PT} {day : Int32} {p : Nat} {kind : Int32} (h : day < 1000000) : day < begB P day p kind :=
  foldF_inv2 (fun x => day < x) _ _ _ h (fun y k hy _ _ => by
    split
    · exact soon_gt hy
    · exact hy)
theorem mnI_gt {x y b : Int32} (h1 : b < x) (h2 : b < y) : b < mnI x y := by
  unfold mnI
  split
  · exact h2
  · exact h1
theorem opnB_gt {P : PT} {L : LT} {R : RT} {p r : Nat} {day : Int32} (h : day < 1000000) : day < opnB P L R p r day :=
  foldF_inv2 (fun x => day < x) _ _ _ h (fun y k hy _ _ => mnI_gt hy (mnI_gt (chgF_gt h _) (begB_gt h)))

