/-- the least set so far on both sides -/
def byR (s t : Int32 × Int32) : Prop := (s = (1000000, -1) ∧ t = (-1, 0)) ∨ (s.1 = t.2 ∧ s.2 = t.1 ∧ ¬ t.1 = -1 ∧ s.1 < 1000000)
theorem byR_fold {coin : Nat → Int32} {c : Nat} {car car' : Int32 → Bool} : ∀ n i (s t : Int32 × Int32), i + n < 2 ^ 31 → (∀ j, i ≤ j → j < i + n → cstF coin (nI j) c < 1000000 ∧ car (nI j) = car' (nI j)) → byR s t → byR (foldF (buyOne coin c car) i n s) (foldF (lmOne coin c car') i n t)
  | 0, _, _, _, _, _, h => h
  | n + 1, i, s, t, hb, hh, h => by
    rw [foldF, foldF]
    obtain ⟨h1, h2⟩ := hh i (Nat.le_refl _) (by omega)
    refine byR_fold n (i + 1) _ _ (by omega) (fun j j1 j2 => hh j (by omega) (by omega)) ?_
    have hne : ¬ nI i = -1 := nI_nm1 (by omega)
    have eT : buyT coin c s i = lmT coin c t i := by
      unfold buyT lmT
      rcases h with ⟨a, b⟩ | ⟨a, b, d, _⟩
      · rw [a, b, decide_eq_true h1]
        rfl
      · rw [a, b, decide_eq_false d, Bool.false_or]
    unfold buyOne lmOne
    rw [eT, h2]
    split
    · exact Or.inr ⟨rfl, rfl, hne, h1⟩
    · exact h
theorem byR_all {coin coin' : Nat → Int32} {c : Nat} {car car' : Int32 → Bool} (hc : c ≤ 9) (hk : ∀ i, i < c → coin i = coin' i) (hh : ∀ j, j < 2 ^ c → cstF coin (nI j) c < 1000000 ∧ car (nI j) = car' (nI j)) : byR (buyF coin c car) (lmF coin' c car') := by
  have h2c : 2 ^ c ≤ 2 ^ 9 := Nat.pow_le_pow_right (by omega) hc
  have e : lmF coin' c car' = lmF coin c car' := by
    unfold lmF
    refine foldF_c2 _ _ _ (fun y i _ _ => ?_)
    unfold lmOne lmT
    rw [cstF_cg (nI i) c hk]
  rw [e]
  exact byR_fold _ 0 _ _ (by omega) (fun j _ j2 => hh j (by omega)) (Or.inl ⟨rfl, rfl⟩)
/-- what a set costs, as a number -/
theorem cstF_lt {coin : Nat → Int32} (x : Int32) : ∀ c, c ≤ 9 → (∀ i, i < c → ∃ v, coin i = nI v ∧ v ≤ 999) → ∃ v, cstF coin x c = nI v ∧ v ≤ 999 * c
  | 0, _, _ => ⟨0, rfl, by omega⟩
  | c + 1, hc, h => by
    obtain ⟨v, e, hv⟩ := cstF_lt x c (by omega) (fun i hi => h i (by omega))
    obtain ⟨u, e2, hu⟩ := h c (by omega)
    rw [cstF]
    split
    · exact ⟨v, e, by omega⟩
    · exact ⟨v + u, by rw [e, e2, nI_add], by omega⟩
theorem cstF_nev {coin : Nat → Int32} (x : Int32) {c : Nat} (hc : c ≤ 9) (h : ∀ i, i < c → ∃ v, coin i = nI v ∧ v ≤ 999) : cstF coin x c < 1000000 := by
  obtain ⟨v, e, hv⟩ := cstF_lt x c hc h
  rw [e, Int32.lt_iff_toInt_lt, nI_toInt (by omega), show (1000000 : Int32).toInt = 1000000 by decide]
  omega

