theorem cmF_skip {f : Int32 → Bool} {a : Int32} : ∀ n (d e : Int32), n = (1000 - d.toInt).toNat → d ≤ e → (∀ x, d ≤ x → x < e → f x = false) → cmF f a n d = cmF f a (1000 - e.toInt).toNat e
  | 0, d, e, hn, hde, _ => by
    rw [Int32.le_iff_toInt_le] at hde
    rw [show (1000 - e.toInt).toNat = 0 by omega]
    rfl
  | n + 1, d, e, hn, hde, hf => by
    by_cases he : d = e
    · rw [← he, ← hn]
    · have hlt : d < e := by
        rcases Int32.lt_or_le d e with z | z
        · exact z
        · exact absurd (Int32.le_antisymm hde z) he
      have hlo := Int32.le_toInt d
      have e1 : (d + 1).toInt = d.toInt + 1 := by
        rw [Int32.toInt_add, show (1 : Int32).toInt = 1 by decide]
        apply Int.bmod_eq_of_le <;> omega
      rw [cmF, if_neg (by rw [hf d (Int32.le_refl _) hlt]; decide)]
      refine cmF_skip n (d + 1) e (by omega) ?_ (fun x h1 h2 => hf x ?_ h2)
      · rw [Int32.lt_iff_toInt_lt] at hlt
        rw [Int32.le_iff_toInt_le, e1]; omega
      · rw [Int32.le_iff_toInt_le, e1] at h1
        rw [Int32.le_iff_toInt_le]; omega
/-- the day of coming, by jumps and day for day -/
theorem comeF_eq {P : PT} {L : LT} {R : RT} {p r : Nat} (hu : ∀ i, i < L_n L → L.2.2.2.2.2.1 i ≤ 999) : ∀ m (d : Int32), (1000 - d.toInt).toNat ≤ m → comeF P L R p r m d = cmF (openB P L R p r) (R.2.2.1 r) (1000 - d.toInt).toNat d
  | 0, d, h => by
    rw [show (1000 - d.toInt).toNat = 0 by omega]
    rfl
  | m + 1, d, h => by
    have h999 : (999 : Int32).toInt = 999 := by decide
    rw [comeF]
    split
    · next c =>
      rw [Int32.lt_iff_toInt_lt, h999] at c
      rw [show (1000 - d.toInt).toNat = 0 by omega]
      rfl
    · next c =>
      rw [Int32.lt_iff_toInt_lt, h999] at c
      obtain ⟨k, hk⟩ : ∃ k, (1000 - d.toInt).toNat = k + 1 := ⟨(1000 - d.toInt).toNat - 1, by omega⟩
      split
      · next o =>
        rw [hk, cmF, if_pos o]
      · next o =>
        have hg : d < opnB P L R p r d := opnB_gt (by rw [Int32.lt_iff_toInt_lt, show (1000000 : Int32).toInt = 1000000 by decide]; omega)
        have hg2 := hg
        rw [Int32.lt_iff_toInt_lt] at hg2
        rw [comeF_eq hu m _ (by omega)]
        exact (cmF_skip _ d _ rfl (Int32.le_of_lt hg) (fun x h1 h2 => openB_still h1 h2 hu (Bool.eq_false_iff.mpr o))).symm
/-- both sides come alike -/
theorem come_eq {P N : PT} {L M : LT} {R T : RT} (h : pAg P N) (hl : lAg L M) (hr : rAg R T) (hu : ∀ i, i < L_n L → L.2.2.2.2.2.1 i ≤ 999) {p r : Nat} (hp : p < P.2.2.2.2.2.2) (hrr : r < R.2.2.2.2.2.2.2) (hk : ∀ q, r * 3 ≤ q → q < r * 3 + rpN R r → ¬ R.2.2.2.2.2.1 q = -1) {mo d : Int32} (hd : 0 ≤ d) : comeF P L R p r 1000 d = mcome N M T p r (-1) mo d := by
  rw [← mcome_cg h hl hr hp hrr, comeF_eq hu 1000 d (by rw [Int32.le_iff_toInt_le, show (0 : Int32).toInt = 0 by decide] at hd; omega)]
  unfold mcome
  exact (cmF_cg (fun d _ => opnW_open hk) _ _ rfl).symm

