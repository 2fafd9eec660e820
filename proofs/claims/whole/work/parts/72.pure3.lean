/-! ===== when a closed road may open ===== -/
theorem soon_le (s c b : Int32) : soon s c b ≤ s := by
  unfold soon
  split
  · next h => exact Int32.le_of_lt h.2
  · exact Int32.le_refl _
theorem soon_c {s c b : Int32} (h : b < c) : soon s c b ≤ c := by
  unfold soon
  split
  · exact Int32.le_refl _
  · next z => exact Int32.not_lt.mp (fun y => z ⟨h, y⟩)
theorem chgF_s (L : LT) (day land kind : Int32) (n : Nat) : chgF L day land kind (n + 1) ≤ chgF L day land kind n := by
  rw [chgF]
  split
  · exact Int32.le_trans (soon_le _ _ _) (Int32.le_trans (soon_le _ _ _) (soon_le _ _ _))
  · exact Int32.le_refl _
theorem chgF_le {L : LT} {day land kind : Int32} {i : Nat} (hm : L.1 i = land ∧ L.2.1 i = kind) : ∀ n, i < n → (day < L.2.2.2.2.1 i → chgF L day land kind n ≤ L.2.2.2.2.1 i) ∧ (day < L.2.2.2.2.2.1 i + 1 → chgF L day land kind n ≤ L.2.2.2.2.2.1 i + 1) ∧ (day < L.2.2.2.2.2.2.1 i → chgF L day land kind n ≤ L.2.2.2.2.2.2.1 i)
  | 0, h => absurd h (Nat.not_lt_zero i)
  | n + 1, h => by
    by_cases e : i = n
    · subst e
      rw [chgF, if_pos hm]
      exact ⟨fun h => Int32.le_trans (soon_le _ _ _) (Int32.le_trans (soon_le _ _ _) (soon_c h)), fun h => Int32.le_trans (soon_le _ _ _) (soon_c h), fun h => soon_c h⟩
    · obtain ⟨h1, h2, h3⟩ := chgF_le (day := day) hm n (by omega)
      exact ⟨fun h => Int32.le_trans (chgF_s ..) (h1 h), fun h => Int32.le_trans (chgF_s ..) (h2 h), fun h => Int32.le_trans (chgF_s ..) (h3 h)⟩
theorem foldF_dec {g : Int32 → Nat → Int32} (hg : ∀ x k, g x k ≤ x) : ∀ n s x, foldF g s n x ≤ x
  | 0, _, x => Int32.le_refl x
  | n + 1, s, x => Int32.le_trans (foldF_dec hg n (s + 1) (g x s)) (hg x s)
theorem foldF_at {g : Int32 → Nat → Int32} (hg : ∀ x k, g x k ≤ x) {q : Nat} {v : Int32} (hv : ∀ x, g x q ≤ v) : ∀ n s x, s ≤ q → q < s + n → foldF g s n x ≤ v
  | 0, s, x, h1, h2 => absurd h2 (by omega)
  | n + 1, s, x, h1, h2 => by
    by_cases e : q = s
    · subst e
      exact Int32.le_trans (foldF_dec hg n (q + 1) (g x q)) (hv x)
    · exact foldF_at hg hv n (s + 1) (g x s) (by omega) (by omega)
theorem begB_le {P : PT} {day : Int32} {p q : Nat} {kind : Int32} (h1 : p * 8 ≤ q) (h2 : q < p * 8 + pcN P p) (hk : P.2.2.1 q = kind) (hd : day < P.2.2.2.2.1 q) : begB P day p kind ≤ P.2.2.2.2.1 q :=
  foldF_at (fun x k => by split; exact soon_le _ _ _; exact Int32.le_refl _) (fun x => by rw [if_pos hk]; exact soon_c hd) _ _ _ h1 h2
theorem mnI_l (x y : Int32) : mnI x y ≤ x := by
  unfold mnI
  split
  · next h => exact Int32.le_of_lt h
  · exact Int32.le_refl _
theorem mnI_r (x y : Int32) : mnI x y ≤ y := by
  unfold mnI
  split
  · exact Int32.le_refl _
  · next h => exact Int32.not_lt.mp h
theorem opnB_le {P : PT} {L : LT} {R : RT} {p r q : Nat} {day : Int32} (h1 : r * 3 ≤ q) (h2 : q < r * 3 + rpN R r) : opnB P L R p r day ≤ chgF L day (R.2.2.2.2.2.2.1 q) (R.2.2.2.2.2.1 q) (L_n L) ∧ opnB P L R p r day ≤ begB P day p (R.2.2.2.2.2.1 q) :=
  ⟨foldF_at (g := fun x k => mnI x (mnI (chgF L day (R.2.2.2.2.2.2.1 k) (R.2.2.2.2.2.1 k) (L_n L)) (begB P day p (R.2.2.2.2.2.1 k)))) (q := q) (v := chgF L day (R.2.2.2.2.2.2.1 q) (R.2.2.2.2.2.1 q) (L_n L)) (fun x k => mnI_l x _) (fun x => Int32.le_trans (mnI_r x _) (mnI_l _ _)) (rpN R r) (r * 3) 1000000 h1 h2, foldF_at (g := fun x k => mnI x (mnI (chgF L day (R.2.2.2.2.2.2.1 k) (R.2.2.2.2.2.1 k) (L_n L)) (begB P day p (R.2.2.2.2.2.1 k)))) (q := q) (v := begB P day p (R.2.2.2.2.2.1 q)) (fun x k => mnI_l x _) (fun x => Int32.le_trans (mnI_r x _) (mnI_r _ _)) (rpN R r) (r * 3) 1000000 h1 h2⟩
/-- between two days no law of a land on a kind begins, is known or has ended: it rules alike -/
theorem accOn_still {L : LT} {land kind o d e : Int32} (hde : d ≤ e) (he : e < chgF L d land kind (L_n L)) (hu : ∀ i, i < L_n L → L.2.2.2.2.2.1 i ≤ 999) : accOn L e land kind o = accOn L d land kind o := by
  have h : ruling L land kind o e e = ruling L land kind o d d := by
    unfold ruling
    refine rulO_cg _ (fun i hi => ?_)
    unfold rulP
    by_cases h1 : L.1 i = land
    · by_cases h2 : L.2.1 i = kind
      · obtain ⟨c1, c2, c3⟩ := chgF_le (day := d) ⟨h1, h2⟩ (L_n L) hi
        have e1 : decide (L.2.2.2.2.1 i ≤ e) = decide (L.2.2.2.2.1 i ≤ d) := by
          apply decide_eq_decide.mpr
          refine ⟨fun z => Int32.not_lt.mp (fun y => ?_), fun z => Int32.le_trans z hde⟩
          exact absurd (Int32.lt_of_lt_of_le he (c1 y)) (Int32.not_lt.mpr z)
        have e3 : decide (L.2.2.2.2.2.2.1 i ≤ e) = decide (L.2.2.2.2.2.2.1 i ≤ d) := by
          apply decide_eq_decide.mpr
          refine ⟨fun z => Int32.not_lt.mp (fun y => ?_), fun z => Int32.le_trans z hde⟩
          exact absurd (Int32.lt_of_lt_of_le he (c3 y)) (Int32.not_lt.mpr z)
        have e2 : decide (e ≤ L.2.2.2.2.2.1 i) = decide (d ≤ L.2.2.2.2.2.1 i) := by
          apply decide_eq_decide.mpr
          refine ⟨fun z => Int32.le_trans hde z, fun z => ?_⟩
          have hu9 := hu i hi
          have b1 : (L.2.2.2.2.2.1 i + 1).toInt = (L.2.2.2.2.2.1 i).toInt + 1 := by
            have lo := Int32.le_toInt (L.2.2.2.2.2.1 i)
            rw [Int32.le_iff_toInt_le, show (999 : Int32).toInt = 999 by decide] at hu9
            rw [Int32.toInt_add, show (1 : Int32).toInt = 1 by decide]
            apply Int.bmod_eq_of_le <;> omega
          have hlt : d < L.2.2.2.2.2.1 i + 1 := by
            rw [Int32.le_iff_toInt_le] at z
            rw [Int32.lt_iff_toInt_lt, b1]; omega
          have h9 := Int32.lt_of_lt_of_le he (c2 hlt)
          rw [Int32.lt_iff_toInt_lt, b1] at h9
          rw [Int32.le_iff_toInt_le]; omega
        rw [e1, e2, e3]
      · rw [decide_eq_false h2, Bool.false_and, Bool.and_false, Bool.false_and, Bool.and_false]
    · rw [decide_eq_false h1, Bool.false_and, Bool.false_and]
  unfold accOn
  rw [h]

