/-! ===== a call is sound ===== -/
theorem q_reb {D : va_G} {cy : Nat → ClassId} {ad xd ad1 ad2 : Nat → Nat} {A : Nat → Prop} {aw aw' w w' : List q_C} {σ τ : List Nat} {H H1 : Heap}
    (hP : va_P D vwCl (q_cw cy ad xd 0 aw) H) (hD : va_D A (q_cw cy ad xd 0 aw)) (hwl : w.length = σ.length)
    (hsub : ∀ (t p : Nat), σ[t]? = some p → ∃ c c', aw[p]? = some c ∧ w[t]? = some c' ∧ q_cE cy (q_ad ad σ) (q_xd ad xd σ aw) c' = q_cE cy ad xd c)
    (hA : ∀ q, va_A (q_cw cy (q_ad ad σ) (q_xd ad xd σ aw) 0 w) H.size q → A q)
    (had : ∀ i, i < w.length → ad1 i = q_ad ad σ i) (hP1 : va_P D vwCl (q_cw cy ad1 (q_xd ad xd σ aw) 0 w') H1) (hD1 : va_D (va_A (q_cw cy (q_ad ad σ) (q_xd ad xd σ aw) 0 w) H.size) (q_cw cy ad1 (q_xd ad xd σ aw) 0 w'))
    (hfr : ∀ q : Nat, q < H.size → ¬ va_A (q_cw cy (q_ad ad σ) (q_xd ad xd σ aw) 0 w) H.size q → H1[q]? = H[q]?)
    (hτl : w'.length = τ.length) (hσl : σ.length ≤ w'.length) (hτσ : ∀ (n p : Nat), σ[n]? = some p → τ[n]? = some p) (hτn : ∀ (n p : Nat), τ[n]? = some p → n < σ.length ∨ aw.length ≤ p)
    (h1 : ∀ p, p < aw.length → ad2 p = ad p) (h2 : ∀ (n p : Nat), τ[n]? = some p → ad2 p = ad1 n) (h3 : ∀ (k : Nat) (c : q_C), aw[k]? = some c → q_cE cy ad2 xd c = q_cE cy ad xd c)
    (g3 : ∀ (j : Nat) (c : q_C), w'[j]? = some c → ∃ (p : Nat) (c' : q_C), τ[j]? = some p ∧ aw'[p]? = some c' ∧ q_cE cy ad2 xd c' = q_cE cy ad1 (q_xd ad xd σ aw) c)
    (g4 : ∀ i : Nat, (∀ j : Nat, j < w'.length → τ[j]? ≠ some i) → aw'[i]? = aw[i]?) : va_P D vwCl (q_cw cy ad2 xd 0 aw') H1 ∧ va_D A (q_cw cy ad2 xd 0 aw') := by
  have gw : ∀ {k : Nat} {q : Nat × va_E}, (q_cw cy ad2 xd 0 aw')[k]? = some q → ∃ c, aw'[k]? = some c ∧ q = (ad2 k, q_cE cy ad2 xd c) := by
    intro k q hq
    rw [q_cw_get] at hq
    cases hc : aw'[k]? with
    | none => rw [hc] at hq; cases hq
    | some c => rw [hc] at hq; exact ⟨c, rfl, by rw [Nat.zero_add] at hq; exact (Option.some.inj hq).symm⟩
  have ga : ∀ {k : Nat} {c : q_C}, aw[k]? = some c → (q_cw cy ad xd 0 aw)[k]? = some (ad k, q_cE cy ad xd c) := by
    intro k c hc
    rw [q_cw_get, hc, Nat.zero_add]; rfl
  have gb : ∀ {k : Nat} {c : q_C}, w'[k]? = some c → (q_cw cy ad1 (q_xd ad xd σ aw) 0 w')[k]? = some (ad1 k, q_cE cy ad1 (q_xd ad xd σ aw) c) := by
    intro k c hc
    rw [q_cw_get, hc, Nat.zero_add]; rfl
  have lt : ∀ {k : Nat} {c : q_C}, aw[k]? = some c → k < aw.length := fun h => (List.getElem?_eq_some_iff.mp h).1
  have inj : ∀ {i j : Nat} {c d : q_C}, aw[i]? = some c → aw[j]? = some d → ad i = ad j → i = j := fun hi hj hh => hD.1 _ _ _ _ (ga hi) (ga hj) hh
  have inj1 : ∀ {i j : Nat} {c d : q_C}, w'[i]? = some c → w'[j]? = some d → ad1 i = ad1 j → i = j := fun hi hj hh => hD1.1 _ _ _ _ (gb hi) (gb hj) hh
  -- the callee's writable cells
  have hA1 : ∀ q, va_A (q_cw cy (q_ad ad σ) (q_xd ad xd σ aw) 0 w) H.size q → (∃ t p, σ[t]? = some p ∧ t < w.length ∧ q = ad p) ∨ H.size ≤ q := by
    intro q hq
    rcases hq with ⟨t, e, ht⟩ | hq
    · refine Or.inl ?_
      rw [q_cw_get] at ht
      cases hc : w[t]? with
      | none => rw [hc] at ht; cases ht
      | some c =>
        rw [hc] at ht
        have htl : t < w.length := (List.getElem?_eq_some_iff.mp hc).1
        have hs : σ[t]? = some (σ[t]'(by omega)) := List.getElem?_eq_getElem _
        refine ⟨t, _, hs, htl, ?_⟩
        have e1 := congrArg Prod.fst (Option.some.inj ht)
        simp only [Nat.zero_add] at e1
        rw [← e1, q_ad_at hs]
    · exact Or.inr hq
  have out : ∀ {k : Nat} {c : q_C}, aw[k]? = some c → (∀ j : Nat, j < w'.length → τ[j]? ≠ some k) → ad k < H.size ∧ ¬ va_A (q_cw cy (q_ad ad σ) (q_xd ad xd σ aw) 0 w) H.size (ad k) := by
    intro k c hc hk
    have hl : ad k < H.size := (hP k _ (ga hc)).lt
    refine ⟨hl, fun z => ?_⟩
    rcases hA1 _ z with ⟨t, p, hs, htl, hq⟩ | z
    · obtain ⟨d, -, hd, -⟩ := hsub t p hs
      have := inj hc hd hq
      subst this
      exact hk t (by omega) (hτσ t k hs)
    · omega
  have dec : ∀ k : Nat, (∃ j : Nat, j < w'.length ∧ τ[j]? = some k) ∨ (∀ j : Nat, j < w'.length → τ[j]? ≠ some k) := fun k => by
    by_cases h : ∃ j : Nat, j < w'.length ∧ τ[j]? = some k
    · exact Or.inl h
    · exact Or.inr fun j hj hz => h ⟨j, hj, hz⟩
  have cell : ∀ {j : Nat}, j < w'.length → ∃ c, w'[j]? = some c := fun h => ⟨_, List.getElem?_eq_getElem h⟩
  have new : ∀ {a j : Nat} {c d : q_C}, w'[a]? = some c → aw[j]? = some d → (∀ i : Nat, i < w'.length → τ[i]? ≠ some j) → ad1 a ≠ ad j := by
    intro a j c d ha hj hn z
    have hal : a < w'.length := (List.getElem?_eq_some_iff.mp ha).1
    have := (out hj hn)
    rw [← z] at this
    have hin : va_A (q_cw cy (q_ad ad σ) (q_xd ad xd σ aw) 0 w) H.size (ad1 a) := hD1.2 a _ (gb ha)
    exact this.2 hin
  refine ⟨fun k q hq => ?_, fun i j x y hi hj hxy => ?_, fun k q hq => ?_⟩
  · obtain ⟨c, hc, rfl⟩ := gw hq
    rcases dec k with ⟨j, hj, hτ⟩ | hn
    · obtain ⟨d, hd⟩ := cell hj
      obtain ⟨p, c', e1, e2, e3⟩ := g3 j d hd
      cases Option.some.inj (hτ.symm.trans e1)
      cases Option.some.inj (hc.symm.trans e2)
      rw [h2 j k hτ, e3]
      exact hP1 j _ (gb hd)
    · rw [g4 k hn] at hc
      rw [h1 k (lt hc), h3 k c hc]
      exact (hP k _ (ga hc)).kept (hfr _ (out hc hn).1 (out hc hn).2)
  · obtain ⟨c, hc, rfl⟩ := gw hi
    obtain ⟨d, hd, rfl⟩ := gw hj
    have hxy : ad2 i = ad2 j := hxy
    rcases dec i with ⟨a, ha, hτa⟩ | hni <;> rcases dec j with ⟨b, hb, hτb⟩ | hnj
    · rw [h2 a i hτa, h2 b j hτb] at hxy
      obtain ⟨ca, hca⟩ := cell ha
      obtain ⟨cb, hcb⟩ := cell hb
      have := inj1 hca hcb hxy
      subst this
      exact Option.some.inj (hτa.symm.trans hτb)
    · rw [g4 j hnj] at hd
      rw [h2 a i hτa, h1 j (lt hd)] at hxy
      obtain ⟨ca, hca⟩ := cell ha
      exact absurd hxy (new hca hd hnj)
    · rw [g4 i hni] at hc
      rw [h2 b j hτb, h1 i (lt hc)] at hxy
      obtain ⟨cb, hcb⟩ := cell hb
      exact absurd hxy.symm (new hcb hc hni)
    · rw [g4 i hni] at hc
      rw [g4 j hnj] at hd
      rw [h1 i (lt hc), h1 j (lt hd)] at hxy
      exact inj hc hd hxy
  · obtain ⟨c, hc, rfl⟩ := gw hq
    rcases dec k with ⟨j, hj, hτ⟩ | hn
    · obtain ⟨d, hd⟩ := cell hj
      show A (ad2 k)
      rw [h2 j k hτ]
      exact hA _ (hD1.2 j _ (gb hd))
    · rw [g4 k hn] at hc
      show A (ad2 k)
      rw [h1 k (lt hc)]
      exact hD.2 k _ (ga hc)
/-- the callee's cells as the caller's heap has them -/
theorem q_subP {D : va_G} {cy : Nat → ClassId} {ad xd : Nat → Nat} {aw w : List q_C} {σ : List Nat} {H : Heap} (hP : va_P D vwCl (q_cw cy ad xd 0 aw) H) (hwl : w.length = σ.length)
    (hsub : ∀ (t p : Nat), σ[t]? = some p → ∃ c c', aw[p]? = some c ∧ w[t]? = some c' ∧ q_cE cy (q_ad ad σ) (q_xd ad xd σ aw) c' = q_cE cy ad xd c) : va_P D vwCl (q_cw cy (q_ad ad σ) (q_xd ad xd σ aw) 0 w) H := by
  intro k q hq
  rw [q_cw_get] at hq
  cases hc : w[k]? with
  | none => rw [hc] at hq; cases hq
  | some c =>
    rw [hc] at hq
    have hkl : k < w.length := (List.getElem?_eq_some_iff.mp hc).1
    have hs : σ[k]? = some (σ[k]'(by omega)) := List.getElem?_eq_getElem _
    obtain ⟨d, c', e1, e2, e3⟩ := hsub k _ hs
    cases Option.some.inj (hc.symm.trans e2)
    have e4 := Option.some.inj hq
    rw [Nat.zero_add] at e4
    rw [← e4]
    show va_at D vwCl (q_ad ad σ k, q_cE cy (q_ad ad σ) (q_xd ad xd σ aw) c) H
    rw [e3, q_ad_at hs]
    exact hP _ _ (by rw [q_cw_get, e1, Nat.zero_add]; rfl)
theorem q_subD {cy : Nat → ClassId} {ad xd : Nat → Nat} {A : Nat → Prop} {aw w : List q_C} {σ : List Nat} (hD : va_D A (q_cw cy ad xd 0 aw)) (hn : ∀ (i j p : Nat), σ[i]? = some p → σ[j]? = some p → i = j) (hwl : w.length = σ.length)
    (hsub : ∀ (t p : Nat), σ[t]? = some p → ∃ c c', aw[p]? = some c ∧ w[t]? = some c' ∧ q_cE cy (q_ad ad σ) (q_xd ad xd σ aw) c' = q_cE cy ad xd c) : va_D A (q_cw cy (q_ad ad σ) (q_xd ad xd σ aw) 0 w) := by
  have key : ∀ {k : Nat} {q : Nat × va_E}, (q_cw cy (q_ad ad σ) (q_xd ad xd σ aw) 0 w)[k]? = some q → ∃ (p : Nat) (c : q_C), σ[k]? = some p ∧ aw[p]? = some c ∧ q.1 = ad p := by
    intro k q hq
    rw [q_cw_get] at hq
    cases hc : w[k]? with
    | none => rw [hc] at hq; cases hq
    | some c =>
      rw [hc] at hq
      have hkl : k < w.length := (List.getElem?_eq_some_iff.mp hc).1
      have hs : σ[k]? = some (σ[k]'(by omega)) := List.getElem?_eq_getElem _
      obtain ⟨d, c', e1, e2, e3⟩ := hsub k _ hs
      refine ⟨_, d, hs, e1, ?_⟩
      have e4 := congrArg Prod.fst (Option.some.inj hq)
      simp only [Nat.zero_add] at e4
      rw [← e4, q_ad_at hs]
  refine ⟨fun i j x y hi hj hxy => ?_, fun k q hq => ?_⟩
  · obtain ⟨p, c, h1, h2, h3⟩ := key hi
    obtain ⟨q, d, g1, g2, g3⟩ := key hj
    have : p = q := hD.1 p q _ _ (by rw [q_cw_get, h2, Nat.zero_add]; rfl) (by rw [q_cw_get, g2, Nat.zero_add]; rfl) (by show ad p = ad q; rw [← h3, ← g3, hxy])
    subst this
    exact hn i j p h1 g1
  · obtain ⟨p, c, h1, h2, h3⟩ := key hq
    rw [h3]
    exact hD.2 p _ (by rw [q_cw_get, h2, Nat.zero_add]; rfl)
theorem q_subA {cy : Nat → ClassId} {ad xd : Nat → Nat} {A : Nat → Prop} {w : List q_C} {H0 H : Heap} {locs : List Loc} (hD : va_D A (q_cw cy ad xd 0 w)) (hS : va_S A H0 H locs) (hA : ∀ q, H0.size ≤ q → A q) : ∀ q, va_A (q_cw cy ad xd 0 w) H.size q → A q := by
  intro q hq
  rcases hq with ⟨k, e, hk⟩ | hq
  · exact hD.2 k _ hk
  · exact hA q (Nat.le_trans hS.1 hq)
