/-! ===== coins: rounds of lowering come to rest behind n - 1 rounds ===== -/
def rx (a b : Nat) (c : Int32) (f : Nat → Int32) : Nat → Int32 := if f a = 1000000 then f else upd f b (mnI (f b) (f a + c))
theorem lowE_rx (a b : Nat) (c : Int32) (f : Nat → Int32) : lowE a b c f = rx b a c (rx a b c f) := rfl
def coI (n : Nat) (f : Nat → Int32) : Prop := ∀ j, j < n → 0 ≤ (f j).toInt ∧ (f j).toInt ≤ 1000000
def cnI (c : Int32) : Prop := 0 ≤ c.toInt ∧ c.toInt ≤ 999
theorem upd_ne {f : Nat → Int32} {i : Nat} {v : Int32} {j : Nat} (h : j ≠ i) : upd f i v j = f j := by rw [upd, if_neg h]
theorem rx_j {a b : Nat} {c : Int32} {f : Nat → Int32} {j : Nat} (h : j ≠ b) : rx a b c f j = f j := by
  unfold rx
  split
  · rfl
  · exact upd_ne h
/-- the value at b, as a number -/
theorem rx_b {n a b : Nat} {c : Int32} {f : Nat → Int32} (hf : coI n f) (hc : cnI c) (ha : a < n) : (rx a b c f b).toInt = if (f a).toInt = 1000000 then (f b).toInt else if (f a).toInt + c.toInt < (f b).toInt then (f a).toInt + c.toInt else (f b).toInt := by
  obtain ⟨h1, h2⟩ := hf a ha
  obtain ⟨h3, h4⟩ := hc
  unfold rx
  by_cases e : f a = 1000000
  · rw [if_pos e, if_pos (by rw [e]; exact I_N)]
  · rw [if_neg e, if_neg (fun z => e (I_eq (z.trans I_N.symm))), upd_eq, mnI_I, I_add (by omega) (by omega)]
theorem rx_ok {n a b : Nat} {c : Int32} {f : Nat → Int32} (hf : coI n f) (hc : cnI c) (ha : a < n) : coI n (rx a b c f) ∧ (∀ j, (rx a b c f j).toInt ≤ (f j).toInt) ∧ ((f a).toInt ≠ 1000000 → (rx a b c f b).toInt ≤ (f a).toInt + c.toInt) := by
  have hb := rx_b (b := b) hf hc ha
  obtain ⟨h1, h2⟩ := hf a ha
  obtain ⟨h3, h4⟩ := hc
  have hd : ∀ j, (rx a b c f j).toInt ≤ (f j).toInt := fun j => by
    by_cases e : j = b
    · subst e
      rw [hb]
      split
      · omega
      · split <;> omega
    · rw [rx_j e]; omega
  refine ⟨fun j hj => ⟨?_, ?_⟩, hd, fun z => ?_⟩
  · by_cases e : j = b
    · subst e
      obtain ⟨h5, h6⟩ := hf j hj
      rw [hb]
      split
      · exact h5
      · split <;> omega
    · rw [rx_j e]; exact (hf j hj).1
  · exact Int.le_trans (hd j) (hf j hj).2
  · rw [hb, if_neg z]
    split <;> omega
theorem rx_low {n a b : Nat} {c : Int32} {f g : Nat → Int32} (hf : coI n f) (hg : coI n g) (hc : cnI c) (ha : a < n) (he : (g a).toInt ≠ 1000000 → (g b).toInt ≤ (g a).toInt + c.toInt) (h : ∀ j, j < n → (g j).toInt ≤ (f j).toInt) : ∀ j, j < n → (g j).toInt ≤ (rx a b c f j).toInt := fun j hj => by
  by_cases e : j = b
  · subst e
    have h9 := h j hj
    have h8 := h a ha
    obtain ⟨h1, h2⟩ := hf a ha
    obtain ⟨h5, h6⟩ := hg a ha
    rw [rx_b hf hc ha]
    split
    · exact h9
    · next z =>
      have he := he (by omega)
      split <;> omega
  · rw [rx_j e]; exact h j hj
theorem rx_T {n a b : Nat} {c : Int32} {f g : Nat → Int32} {T : Nat → Bool} (hf : coI n f) (hg : coI n g) (hc : cnI c) (ha : a < n) (he : (g a).toInt ≠ 1000000 → (g b).toInt ≤ (g a).toInt + c.toInt) (h : ∀ j, j < n → (g j).toInt ≤ (f j).toInt) (hT : T a = true → (g a).toInt ≠ 1000000 → (g a).toInt + c.toInt = (g b).toInt → T b = true) (hh : ∀ j, j < n → (f j).toInt = (g j).toInt → (g j).toInt ≠ 1000000 → T j = true) : ∀ j, j < n → (rx a b c f j).toInt = (g j).toInt → (g j).toInt ≠ 1000000 → T j = true := fun j hj e1 e2 => by
  by_cases e : j = b
  · subst e
    have h9 := h j hj
    have h8 := h a ha
    obtain ⟨h1, h2⟩ := hf a ha
    obtain ⟨h5, h6⟩ := hg a ha
    rw [rx_b hf hc ha] at e1
    split at e1
    · exact hh j hj e1 e2
    · next z =>
      have he := he (by omega)
      split at e1
      · exact hT (hh a ha (by omega) (by omega)) (by omega) (by omega)
      · exact hh j hj e1 e2
  · rw [rx_j e] at e1; exact hh j hj e1 e2
/-- a road of the lowering -/
def coS (R : RT) (b : Nat → Bool) (f : Nat → Int32) (r : Nat) : Nat → Int32 := if b r then coinE R f r else f
def coG (R : RT) (b : Nat → Bool) (f : Nat → Int32) : Nat → Int32 := foldF (coS R b) 0 R.2.2.2.2.2.2.2 f
theorem coinR_it (R : RT) (b : Nat → Bool) : ∀ k f, coinR R b k f = itF (coG R b) k f
  | 0, _ => rfl
  | k + 1, f => by rw [coinR, coinR_it R b k]; rfl
def rCn (R : RT) : Prop := ∀ r, r < R.2.2.2.2.2.2.2 → cnI (R.2.2.2.1 r)
theorem coinE_rx {R : RT} {r a c : Nat} (h1 : R.1 r = nI a) (h2 : R.2.1 r = nI c) (ha : a < 8) (hc : c < 8) (f : Nat → Int32) : coinE R f r = rx c a (R.2.2.2.1 r) (rx a c (R.2.2.2.1 r) f) := by
  unfold coinE
  rw [h1, h2, nI_clamp (by omega), nI_clamp (by omega), lowE_rx]
section CO
variable {R : RT} {b : Nat → Bool} {n : Nat}
theorem coS_ok (hre : rEnd R n) (hn : n ≤ 8) (hco : rCn R) {r : Nat} (hr : r < R.2.2.2.2.2.2.2) {f : Nat → Int32} (hf : coI n f) : coI n (coS R b f r) ∧ (∀ j, (coS R b f r j).toInt ≤ (f j).toInt) ∧ ∀ j, n ≤ j → coS R b f r j = f j := by
  unfold coS
  split
  · obtain ⟨a, c, h1, h2, ha, hc⟩ := hre r hr
    rw [coinE_rx h1 h2 (by omega) (by omega)]
    obtain ⟨i1, d1, -⟩ := rx_ok (b := c) hf (hco r hr) ha
    obtain ⟨i2, d2, -⟩ := rx_ok (b := a) i1 (hco r hr) hc
    exact ⟨i2, fun j => Int.le_trans (d2 j) (d1 j), fun j hj => by rw [rx_j (by omega), rx_j (by omega)]⟩
  · exact ⟨hf, fun j => Int.le_refl _, fun _ _ => rfl⟩
theorem coF_ok (hre : rEnd R n) (hn : n ≤ 8) (hco : rCn R) {f : Nat → Int32} (hf : coI n f) (k s : Nat) (hs : s + k ≤ R.2.2.2.2.2.2.2) : coI n (foldF (coS R b) s k f) ∧ (∀ j, (foldF (coS R b) s k f j).toInt ≤ (f j).toInt) ∧ ∀ j, n ≤ j → foldF (coS R b) s k f j = f j :=
  foldF_inv (I := fun y => coI n y ∧ (∀ j, (y j).toInt ≤ (f j).toInt) ∧ ∀ j, n ≤ j → y j = f j) _ _ _ ⟨hf, fun j => Int.le_refl _, fun _ _ => rfl⟩ (fun y r hy _ h2 => by
    obtain ⟨i1, i2, i3⟩ := coS_ok (b := b) hre hn hco (r := r) (by omega) hy.1
    exact ⟨i1, fun j => Int.le_trans (i2 j) (hy.2.1 j), fun j hj => (i3 j hj).trans (hy.2.2 j hj)⟩)
theorem foldF_mid {α : Type} {g : α → Nat → α} : ∀ k s x r, s ≤ r → r < s + k → foldF g s k x = foldF g (r + 1) (s + k - (r + 1)) (g (foldF g s (r - s) x) r)
  | 0, s, x, r, h1, h2 => absurd h2 (by omega)
  | k + 1, s, x, r, h1, h2 => by
    by_cases e : r = s
    · subst e
      rw [Nat.sub_self, show r + (k + 1) - (r + 1) = k by omega]
      rfl
    · obtain ⟨q, hq⟩ : ∃ q, r - s = q + 1 := ⟨r - s - 1, by omega⟩
      rw [foldF, foldF_mid k (s + 1) (g x s) r (by omega) (by omega), hq, foldF, show s + 1 + k - (r + 1) = s + (k + 1) - (r + 1) by omega, show r - (s + 1) = q by omega]
/-- behind a round no open road would lower what stood ahead of it -/
theorem coG_edge (hre : rEnd R n) (hn : n ≤ 8) (hco : rCn R) {f : Nat → Int32} (hf : coI n f) {r a c : Nat} (hr : r < R.2.2.2.2.2.2.2) (hb : b r = true) (h1 : R.1 r = nI a) (h2 : R.2.1 r = nI c) (ha : a < n) (hc : c < n) :
    ((f a).toInt ≠ 1000000 → (coG R b f c).toInt ≤ (f a).toInt + (R.2.2.2.1 r).toInt) ∧ ((f c).toInt ≠ 1000000 → (coG R b f a).toInt ≤ (f c).toInt + (R.2.2.2.1 r).toInt) := by
  have hm := foldF_mid (g := coS R b) R.2.2.2.2.2.2.2 0 f r (Nat.zero_le _) (by omega)
  obtain ⟨i1, d1, -⟩ := coF_ok (b := b) hre hn hco hf (r - 0) 0 (by omega)
  obtain ⟨i2, d2, -⟩ := coS_ok (b := b) hre hn hco hr i1
  obtain ⟨-, d3, -⟩ := coF_ok (b := b) hre hn hco i2 (0 + R.2.2.2.2.2.2.2 - (r + 1)) (r + 1) (by omega)
  rw [← hm] at d3
  have d1a := d1 a
  have d1c := d1 c
  have l1 := (hf a ha).2
  have l2 := (hf c hc).2
  have hS : coS R b (foldF (coS R b) 0 (r - 0) f) r = rx c a (R.2.2.2.1 r) (rx a c (R.2.2.2.1 r) (foldF (coS R b) 0 (r - 0) f)) := by
    rw [coS, if_pos hb, coinE_rx h1 h2 (by omega) (by omega)]
  obtain ⟨j1, e1, k1⟩ := rx_ok (b := c) i1 (hco r hr) ha
  obtain ⟨j2, e2, k2⟩ := rx_ok (b := a) j1 (hco r hr) hc
  have e1c := e1 c
  rw [hS] at d3
  refine ⟨fun z => ?_, fun z => ?_⟩
  · have a1 := d3 c
    have a2 := e2 c
    have a3 := k1 (by omega)
    exact Int.le_trans a1 (by omega)
  · have a1 := d3 a
    have a3 := k2 (by omega)
    exact Int.le_trans a1 (by omega)
def smF (f : Nat → Int32) : Nat → Nat
  | 0 => 0
  | j + 1 => smF f j + (f j).toInt.toNat
theorem smF_le {f g : Nat → Int32} : ∀ m, (∀ j, j < m → (f j).toInt ≤ (g j).toInt) → smF f m ≤ smF g m
  | 0, _ => Nat.le_refl _
  | m + 1, h => by
    have := smF_le m (fun j hj => h j (by omega))
    have := h m (by omega)
    rw [smF, smF]
    omega
theorem smF_lt {f g : Nat → Int32} : ∀ m, (∀ j, j < m → 0 ≤ (f j).toInt ∧ (f j).toInt ≤ (g j).toInt) → (∃ j, j < m ∧ (f j).toInt < (g j).toInt) → smF f m < smF g m
  | 0, _, ⟨j, hj, _⟩ => absurd hj (Nat.not_lt_zero j)
  | m + 1, h, ⟨j, hj, hl⟩ => by
    rw [smF, smF]
    have h9 := h m (by omega)
    by_cases e : j = m
    · subst e
      have := smF_le (f := f) (g := g) j (fun i hi => (h i (by omega)).2)
      omega
    · have := smF_lt (f := f) (g := g) m (fun i hi => h i (by omega)) ⟨j, by omega, hl⟩
      omega
theorem coG_ok (hre : rEnd R n) (hn : n ≤ 8) (hco : rCn R) {f : Nat → Int32} (hf : coI n f) : coI n (coG R b f) ∧ (∀ j, (coG R b f j).toInt ≤ (f j).toInt) ∧ ∀ j, n ≤ j → coG R b f j = f j := coF_ok hre hn hco hf _ 0 (by omega)
theorem co_fix (hre : rEnd R n) (hn : n ≤ 8) (hco : rCn R) : ∀ (s : Nat) (f : Nat → Int32), coI n f → smF f n ≤ s → ∃ M, coG R b (itF (coG R b) M f) = itF (coG R b) M f := by
  intro s
  induction s with
  | zero =>
    intro f hf hs
    refine ⟨0, ?_⟩
    obtain ⟨i1, i2, i3⟩ := coG_ok (b := b) hre hn hco hf
    show coG R b f = f
    funext j
    by_cases hj : j < n
    · refine I_eq ?_
      have := i2 j
      have h0 := (i1 j hj).1
      have h1 := (hf j hj).1
      have : (f j).toInt ≤ 0 := Classical.byContradiction (fun z => by
        have := smF_lt (f := fun _ => 0) (g := f) n (fun i hi => ⟨by rw [I_0]; omega, by rw [I_0]; exact (hf i hi).1⟩) ⟨j, hj, by rw [I_0]; omega⟩
        omega)
      omega
    · exact i3 j (by omega)
  | succ s ih =>
    intro f hf hs
    obtain ⟨i1, i2, i3⟩ := coG_ok (b := b) hre hn hco hf
    by_cases e : coG R b f = f
    · exact ⟨0, e⟩
    · have hex : ∃ j, j < n ∧ (coG R b f j).toInt < (f j).toInt := Classical.byContradiction (fun z => e (funext (fun j => by
        by_cases hj : j < n
        · refine I_eq ?_
          have a1 := i2 j
          have a2 : ¬ (coG R b f j).toInt < (f j).toInt := fun y => z ⟨j, hj, y⟩
          omega
        · exact i3 j (by omega))))
      have hl := smF_lt n (fun j hj => ⟨(i1 j hj).1, i2 j⟩) hex
      obtain ⟨M, hM⟩ := ih (coG R b f) i1 (by omega)
      exact ⟨M + 1, hM⟩
theorem co_it (hre : rEnd R n) (hn : n ≤ 8) (hco : rCn R) {f : Nat → Int32} (hf : coI n f) (k : Nat) : coI n (itF (coG R b) k f) ∧ ∀ j, (itF (coG R b) k f j).toInt ≤ (f j).toInt :=
  itF_inv (I := fun y => coI n y ∧ ∀ j, (y j).toInt ≤ (f j).toInt) (fun y hy => by
    obtain ⟨i1, i2, -⟩ := coG_ok (b := b) hre hn hco hy.1
    exact ⟨i1, fun j => Int.le_trans (i2 j) (hy.2 j)⟩) k f ⟨hf, fun _ => Int.le_refl _⟩
/-- places whose coin is as low as it gets, by how many roads -/
def tgh (R : RT) (b : Nat → Bool) (g : Nat → Int32) (T : Nat → Bool) (j r : Nat) : Bool :=
  b r && ((T (R.1 r).toNatClampNeg && (decide ((g (R.1 r).toNatClampNeg).toInt ≠ 1000000) && (decide ((g (R.1 r).toNatClampNeg).toInt + (R.2.2.2.1 r).toInt = (g (R.2.1 r).toNatClampNeg).toInt) && decide (R.2.1 r = nI j))))
    || (T (R.2.1 r).toNatClampNeg && (decide ((g (R.2.1 r).toNatClampNeg).toInt ≠ 1000000) && (decide ((g (R.2.1 r).toNatClampNeg).toInt + (R.2.2.2.1 r).toInt = (g (R.1 r).toNatClampNeg).toInt) && decide (R.1 r = nI j)))))
def tgF (R : RT) (b : Nat → Bool) (g : Nat → Int32) (n : Nat) (T : Nat → Bool) (j : Nat) : Bool := T j || (decide (j < n) && anyF (tgh R b g T j) 0 R.2.2.2.2.2.2.2)
theorem tgF_fix (g : Nat → Int32) (T : Nat → Bool) : tgF R b g n T = T ∨ cnB T n < cnB (tgF R b g n T) n := by
  by_cases e : tgF R b g n T = T
  · exact Or.inl e
  · refine Or.inr (cnB_lt n (fun j _ hj => by unfold tgF; rw [hj, Bool.true_or]) (Classical.byContradiction (fun z => e (funext (fun j => ?_)))))
    cases hT : T j with
    | true => unfold tgF; rw [hT, Bool.true_or]
    | false =>
      cases hF : tgF R b g n T j with
      | false => rfl
      | true =>
        have : j < n := by
          unfold tgF at hF
          rw [hT, Bool.false_or, Bool.and_eq_true] at hF
          exact of_decide_eq_true hF.1
        exact absurd ⟨j, this, hF, hT⟩ z
/-- THE REST: behind n - 1 rounds nothing is lowered any more -/
theorem co_rest (hre : rEnd R n) (hn : n ≤ 8) (hco : rCn R) {f : Nat → Int32} {x : Nat} (hx : x < n) (hf : coI n f) (hfx : f x = 0) (hfj : ∀ j, j < n → j ≠ x → f j = 1000000) : ∀ k, n - 1 ≤ k → ∀ j, j < n → itF (coG R b) k f j = itF (coG R b) (n - 1) f j := by
  obtain ⟨M, hM⟩ := co_fix (b := b) hre hn hco _ f hf (Nat.le_refl _)
  obtain ⟨gI, gd⟩ := co_it (b := b) hre hn hco hf M
  generalize hg : itF (coG R b) M f = g at *
  have edge : ∀ r a c, r < R.2.2.2.2.2.2.2 → b r = true → R.1 r = nI a → R.2.1 r = nI c → a < n → c < n → ((g a).toInt ≠ 1000000 → (g c).toInt ≤ (g a).toInt + (R.2.2.2.1 r).toInt) ∧ ((g c).toInt ≠ 1000000 → (g a).toInt ≤ (g c).toInt + (R.2.2.2.1 r).toInt) := fun r a c hr hb h1 h2 ha hc => by
    have := coG_edge (b := b) hre hn hco gI hr hb h1 h2 ha hc
    rw [hM] at this
    exact this
  have low : ∀ k, ∀ j, j < n → (g j).toInt ≤ (itF (coG R b) k f j).toInt := by
    intro k
    have := itF_inv (F := coG R b) (I := fun y => coI n y ∧ ∀ j, j < n → (g j).toInt ≤ (y j).toInt) (fun y hy => by
      refine foldF_inv (I := fun y => coI n y ∧ ∀ j, j < n → (g j).toInt ≤ (y j).toInt) _ _ _ hy (fun y r hy _ hr => ⟨(coS_ok hre hn hco (by omega) hy.1).1, ?_⟩)
      unfold coS
      split
      · next hb =>
        obtain ⟨a, c, h1, h2, ha, hc⟩ := hre r (by omega)
        obtain ⟨e1, e2⟩ := edge r a c (by omega) hb h1 h2 ha hc
        rw [coinE_rx h1 h2 (by omega) (by omega)]
        have q1 := rx_low hy.1 gI (hco r (by omega)) ha e1 hy.2
        exact rx_low (rx_ok (b := c) hy.1 (hco r (by omega)) ha).1 gI (hco r (by omega)) hc e2 q1
      · exact hy.2) k f ⟨hf, fun j _ => gd j⟩
    exact this.2
  have hT := itF_stop (F := tgF R b g n) (I := fun _ => True) (sz := fun T => cnB T n) (n := n) (fun _ _ => True.intro) (fun T _ => tgF_fix g T) (fun T _ => cnB_le _ _) (x := fun j => decide (j = x)) True.intro (cnB_one hx (decide_eq_true rfl))
  have lemA : ∀ k j, j < n → itF (tgF R b g n) k (fun j => decide (j = x)) j = true → (itF (coG R b) k f j).toInt = (g j).toInt := by
    intro k
    induction k with
    | zero =>
      intro j hj h
      have : j = x := of_decide_eq_true h
      subst this
      have a1 := gd j
      have a2 := (gI j hj).1
      rw [hfx, I_0] at a1
      show (f j).toInt = _
      rw [hfx, I_0]
      omega
    | succ k ih =>
      intro j hj h
      rw [itF_s] at h ⊢
      obtain ⟨kI, -⟩ := co_it (b := b) hre hn hco hf k
      obtain ⟨-, d1, -⟩ := coG_ok (b := b) hre hn hco kI
      have l1 := low (k + 1) j hj
      rw [itF_s] at l1
      unfold tgF at h
      rw [Bool.or_eq_true] at h
      rcases h with h | h
      · have e1 := ih j hj h
        have e2 := d1 j
        omega
      · rw [Bool.and_eq_true] at h
        obtain ⟨r, -, hr, ht⟩ := (anyF_iff _ _).mp h.2
        rw [Nat.zero_add] at hr
        obtain ⟨a, c, h1, h2, ha, hc⟩ := hre r hr
        unfold tgh at ht
        rw [h1, h2, nI_clamp (by omega), nI_clamp (by omega)] at ht
        simp only [Bool.and_eq_true, Bool.or_eq_true, decide_eq_true_eq] at ht
        obtain ⟨hb, ht⟩ := ht
        obtain ⟨g1, g2⟩ := coG_edge (b := b) hre hn hco kI hr hb h1 h2 ha hc
        rcases ht with ⟨t1, t2, t3, t4⟩ | ⟨t1, t2, t3, t4⟩
        · have hcj : c = j := Classical.byContradiction (fun z => nI_ne z (by omega) (by omega) t4)
          subst hcj
          have e1 := ih a ha t1
          have e2 := g1 (by omega)
          omega
        · have hcj : a = j := Classical.byContradiction (fun z => nI_ne z (by omega) (by omega) t4)
          subst hcj
          have e1 := ih c hc t1
          have e2 := g2 (by omega)
          omega
  generalize hTT : itF (tgF R b g n) (n - 1) (fun j => decide (j = x)) = T at *
  have clo : ∀ r a c, r < R.2.2.2.2.2.2.2 → b r = true → R.1 r = nI a → R.2.1 r = nI c → a < n → c < n → (T a = true → (g a).toInt ≠ 1000000 → (g a).toInt + (R.2.2.2.1 r).toInt = (g c).toInt → T c = true) ∧ (T c = true → (g c).toInt ≠ 1000000 → (g c).toInt + (R.2.2.2.1 r).toInt = (g a).toInt → T a = true) := by
    intro r a c hr hb h1 h2 ha hc
    refine ⟨fun t1 t2 t3 => ?_, fun t1 t2 t3 => ?_⟩
    · rw [← hT]
      unfold tgF
      rw [Bool.or_eq_true, Bool.and_eq_true]
      refine Or.inr ⟨decide_eq_true hc, (anyF_iff _ _).mpr ⟨r, Nat.zero_le _, by omega, ?_⟩⟩
      unfold tgh
      rw [h1, h2, nI_clamp (by omega), nI_clamp (by omega)]
      simp only [Bool.and_eq_true, Bool.or_eq_true, decide_eq_true_eq]
      exact ⟨hb, Or.inl ⟨t1, t2, t3, trivial⟩⟩
    · rw [← hT]
      unfold tgF
      rw [Bool.or_eq_true, Bool.and_eq_true]
      refine Or.inr ⟨decide_eq_true ha, (anyF_iff _ _).mpr ⟨r, Nat.zero_le _, by omega, ?_⟩⟩
      unfold tgh
      rw [h1, h2, nI_clamp (by omega), nI_clamp (by omega)]
      simp only [Bool.and_eq_true, Bool.or_eq_true, decide_eq_true_eq]
      exact ⟨hb, Or.inr ⟨t1, t2, t3, trivial⟩⟩
  have hTx : T x = true := by
    rw [← hTT]
    exact itF_inv (F := tgF R b g n) (I := fun T => T x = true) (fun T h => by unfold tgF; rw [h, Bool.true_or]) (n - 1) _ (decide_eq_true rfl)
  have lemB : ∀ k, ∀ j, j < n → (itF (coG R b) k f j).toInt = (g j).toInt → (g j).toInt ≠ 1000000 → T j = true := by
    intro k
    have := itF_inv (F := coG R b) (I := fun y => coI n y ∧ (∀ j, j < n → (g j).toInt ≤ (y j).toInt) ∧ ∀ j, j < n → (y j).toInt = (g j).toInt → (g j).toInt ≠ 1000000 → T j = true) (fun y hy => by
      refine foldF_inv (I := fun y => coI n y ∧ (∀ j, j < n → (g j).toInt ≤ (y j).toInt) ∧ ∀ j, j < n → (y j).toInt = (g j).toInt → (g j).toInt ≠ 1000000 → T j = true) _ _ _ hy (fun y r hy _ hr => ⟨(coS_ok hre hn hco (by omega) hy.1).1, ?_⟩)
      unfold coS
      split
      · next hb =>
        obtain ⟨a, c, h1, h2, ha, hc⟩ := hre r (by omega)
        obtain ⟨e1, e2⟩ := edge r a c (by omega) hb h1 h2 ha hc
        obtain ⟨u1, u2⟩ := clo r a c (by omega) hb h1 h2 ha hc
        rw [coinE_rx h1 h2 (by omega) (by omega)]
        have q1 := rx_low hy.1 gI (hco r (by omega)) ha e1 hy.2.1
        have q2 := rx_T hy.1 gI (hco r (by omega)) ha e1 hy.2.1 u1 hy.2.2
        have q3 := (rx_ok (b := c) hy.1 (hco r (by omega)) ha).1
        exact ⟨rx_low q3 gI (hco r (by omega)) hc e2 q1, rx_T q3 gI (hco r (by omega)) hc e2 q1 u2 q2⟩
      · exact hy.2) k f ⟨hf, fun j _ => gd j, fun j hj e1 e2 => by
        by_cases e : j = x
        · rw [e]; exact hTx
        · rw [hfj j hj e, I_N] at e1
          exact absurd e1.symm e2⟩
    exact this.2.2
  have fin : ∀ j, j < n → (itF (coG R b) (n - 1) f j).toInt = (g j).toInt := fun j hj => by
    by_cases e : (g j).toInt = 1000000
    · have a1 := low (n - 1) j hj
      have a2 := ((co_it (b := b) hre hn hco hf (n - 1)).1 j hj).2
      omega
    · refine lemA (n - 1) j hj ?_
      rw [hTT]
      exact lemB M j hj (by rw [hg]) e
  intro k hk j hj
  refine I_eq ?_
  obtain ⟨i, rfl⟩ : ∃ i, k = n - 1 + i := ⟨k - (n - 1), by omega⟩
  have a1 := low (n - 1 + i) j hj
  rw [itF_a] at a1 ⊢
  have a2 := (co_it (b := b) hre hn hco (co_it (b := b) hre hn hco hf (n - 1)).1 i).2 j
  have a3 := fin j hj
  omega
end CO

