/-! ===== counting, rounds that come to rest, bits ===== -/
theorem I_add {x y : Int32} (h1 : -2147483648 ≤ x.toInt + y.toInt) (h2 : x.toInt + y.toInt ≤ 2147483647) : (x + y).toInt = x.toInt + y.toInt := by
  rw [Int32.toInt_add]
  apply Int.bmod_eq_of_le <;> omega
theorem I_N : (1000000 : Int32).toInt = 1000000 := by decide
theorem I_0 : (0 : Int32).toInt = 0 := by decide
theorem I_999 : (999 : Int32).toInt = 999 := by decide
theorem I_eq {x y : Int32} (h : x.toInt = y.toInt) : x = y := Int32.toInt_inj.mp h
theorem mnI_I (x y : Int32) : (mnI x y).toInt = if y.toInt < x.toInt then y.toInt else x.toInt := by
  unfold mnI
  by_cases h : y < x
  · rw [if_pos h, if_pos (Int32.lt_iff_toInt_lt.mp h)]
  · rw [if_neg h, if_neg (fun z => h (Int32.lt_iff_toInt_lt.mpr z))]
def cnB (f : Nat → Bool) : Nat → Nat
  | 0 => 0
  | i + 1 => cnB f i + (if f i = true then 1 else 0)
theorem cnB_le (f : Nat → Bool) : ∀ n, cnB f n ≤ n
  | 0 => Nat.le_refl _
  | n + 1 => by
    have := cnB_le f n
    rw [cnB]
    split <;> omega
theorem cnB_cg {f g : Nat → Bool} : ∀ n, (∀ j, j < n → f j = g j) → cnB f n = cnB g n
  | 0, _ => rfl
  | n + 1, h => by rw [cnB, cnB, cnB_cg n (fun j hj => h j (by omega)), h n (by omega)]
theorem cnB_mono {f g : Nat → Bool} : ∀ n, (∀ j, j < n → f j = true → g j = true) → cnB f n ≤ cnB g n
  | 0, _ => Nat.le_refl _
  | n + 1, h => by
    have h1 := cnB_mono n (fun j hj => h j (by omega))
    have h2 := h n (by omega)
    rw [cnB, cnB]
    by_cases hf : f n = true
    · rw [if_pos hf, if_pos (h2 hf)]; omega
    · rw [if_neg hf]; split <;> omega
theorem cnB_lt {f g : Nat → Bool} : ∀ n, (∀ j, j < n → f j = true → g j = true) → (∃ j, j < n ∧ g j = true ∧ f j = false) → cnB f n < cnB g n
  | 0, _, ⟨j, hj, _⟩ => absurd hj (Nat.not_lt_zero j)
  | n + 1, h, ⟨j, hj, hg, hf⟩ => by
    rw [cnB, cnB]
    by_cases e : j = n
    · subst e
      have h1 := cnB_mono (f := f) (g := g) j (fun i hi => h i (by omega))
      rw [if_pos hg, if_neg (by rw [hf]; decide)]
      omega
    · have h1 := cnB_lt (f := f) (g := g) n (fun i hi => h i (by omega)) ⟨j, by omega, hg, hf⟩
      have h2 := h n (by omega)
      by_cases hfn : f n = true
      · rw [if_pos hfn, if_pos (h2 hfn)]; omega
      · rw [if_neg hfn]; split <;> omega
theorem cnB_full {f : Nat → Bool} : ∀ n, n ≤ cnB f n → ∀ j, j < n → f j = true
  | 0, _, j, hj => absurd hj (Nat.not_lt_zero j)
  | n + 1, h, j, hj => by
    have h0 := cnB_le f n
    rw [cnB] at h
    by_cases hf : f n = true
    · by_cases e : j = n
      · rw [e]; exact hf
      · rw [if_pos hf] at h; exact cnB_full n (by omega) j (by omega)
    · rw [if_neg hf] at h; omega
theorem cnB_one {f : Nat → Bool} {n j : Nat} (hj : j < n) (h : f j = true) : 1 ≤ cnB f n := by
  have := cnB_lt (f := fun _ => false) (g := f) n (fun _ _ h => by cases h) ⟨j, hj, h, rfl⟩
  omega
theorem cnB_zero {f : Nat → Bool} {n : Nat} (h : cnB f n = 0) : ∀ j, j < n → f j = false := fun j hj => by
  cases hf : f j with
  | false => rfl
  | true => have := cnB_one hj hf; omega
/-- rounds -/
def itF {α : Type} (F : α → α) : Nat → α → α
  | 0, x => x
  | k + 1, x => itF F k (F x)
theorem itF_s {α : Type} (F : α → α) : ∀ k x, itF F (k + 1) x = F (itF F k x)
  | 0, _ => rfl
  | k + 1, x => by rw [itF, itF_s F k (F x)]; rfl
theorem itF_a {α : Type} (F : α → α) : ∀ k j x, itF F (k + j) x = itF F j (itF F k x)
  | 0, j, x => by rw [Nat.zero_add]; rfl
  | k + 1, j, x => by rw [show k + 1 + j = (k + j) + 1 by omega, itF, itF_a F k j (F x)]; rfl
theorem itF_fix {α : Type} {F : α → α} {x : α} (h : F x = x) : ∀ k, itF F k x = x
  | 0 => rfl
  | k + 1 => by rw [itF, h]; exact itF_fix h k
theorem itF_inv {α : Type} {F : α → α} {I : α → Prop} (hI : ∀ x, I x → I (F x)) : ∀ k x, I x → I (itF F k x)
  | 0, _, h => h
  | k + 1, x, h => itF_inv hI k (F x) (hI x h)
theorem itF_st {α : Type} {F : α → α} {I : α → Prop} {sz : α → Nat} (hI : ∀ x, I x → I (F x)) (h1 : ∀ x, I x → F x = x ∨ sz x < sz (F x)) : ∀ k x, I x → F (itF F k x) = itF F k x ∨ sz x + k ≤ sz (itF F k x)
  | 0, x, _ => Or.inr (Nat.le_refl _)
  | k + 1, x, h => by
    rcases h1 x h with e | e
    · refine Or.inl ?_
      rw [itF_fix e, e]
    · rcases itF_st hI h1 k (F x) (hI x h) with z | z
      · exact Or.inl z
      · exact Or.inr (by rw [itF]; omega)
theorem itF_stop {α : Type} {F : α → α} {I : α → Prop} {sz : α → Nat} {n : Nat} (hI : ∀ x, I x → I (F x)) (h1 : ∀ x, I x → F x = x ∨ sz x < sz (F x)) (h2 : ∀ x, I x → sz x ≤ n) {x : α} (hx : I x) (hs : 1 ≤ sz x) : F (itF F (n - 1) x) = itF F (n - 1) x := by
  have hi := itF_inv hI (n - 1) x hx
  rcases itF_st hI h1 (n - 1) x hx with z | z
  · exact z
  · rcases h1 _ hi with e | e
    · exact e
    · have a := h2 _ (hI _ hi)
      have b := h2 x hx
      omega
theorem itF_rest {α : Type} {F : α → α} {n : Nat} {x : α} (h : F (itF F n x) = itF F n x) {k : Nat} (hk : n ≤ k) : itF F k x = itF F n x := by
  obtain ⟨j, rfl⟩ : ∃ j, k = n + j := ⟨k - n, by omega⟩
  rw [itF_a, itF_fix h]
/-- bits of an int -/
def bt (x : Int32) (j : Nat) : Bool := x.toBitVec.getLsbD j
theorem bt_or (x y : Int32) (j : Nat) : bt (x ||| y) j = (bt x j || bt y j) := by
  unfold bt
  rw [show (x ||| y).toBitVec = x.toBitVec ||| y.toBitVec from rfl, BitVec.getLsbD_or]
theorem bt_and (x y : Int32) (j : Nat) : bt (x &&& y) j = (bt x j && bt y j) := by
  unfold bt
  rw [show (x &&& y).toBitVec = x.toBitVec &&& y.toBitVec from rfl, BitVec.getLsbD_and]
theorem bt_0 (j : Nat) : bt 0 j = false := by
  unfold bt
  rw [show (0 : Int32).toBitVec = 0#32 from rfl, BitVec.getLsbD_zero]
theorem bt_ext {x y : Int32} (h : ∀ j, j < 32 → bt x j = bt y j) : x = y := Int32.toBitVec_inj.mp (BitVec.eq_of_getLsbD_eq (fun i hi => h i hi))
theorem bt_shl_a : ∀ a : Fin 32, ((1 : Int32) <<< (nI a.val &&& 31)).toBitVec = BitVec.twoPow 32 a.val := by decide
theorem bt_shl {a : Nat} (ha : a < 32) (j : Nat) : bt ((1 : Int32) <<< (nI a &&& 31)) j = decide (a = j) := by
  unfold bt
  rw [bt_shl_a ⟨a, ha⟩, BitVec.getLsbD_twoPow, decide_eq_true ha, Bool.true_and]
theorem bt_and0 {x m : Int32} (h : x &&& m = 0) (j : Nat) : (bt x j && bt m j) = false := by
  rw [← bt_and, h, bt_0]
theorem bt_and1 {x m : Int32} (h : ¬ x &&& m = 0) : ∃ j, bt x j = true ∧ bt m j = true := Classical.byContradiction (fun z => h (bt_ext (fun j _ => by
  rw [bt_and, bt_0]
  cases hx : bt x j with
  | false => rfl
  | true => cases hm : bt m j with
    | false => rfl
    | true => exact absurd ⟨j, hx, hm⟩ z)))
/-- one road of the spreading, by bits -/
theorem sprOne_bt {R : RT} {b : Nat → Bool} {r a c : Nat} (h1 : R.1 r = nI a) (h2 : R.2.1 r = nI c) (ha : a < 32) (hc : c < 32) (x : Int32) (j : Nat) : bt (sprOne R b x r) j = (bt x j || (b r && ((bt x a || bt x c) && (decide (a = j) || decide (c = j))))) := by
  unfold sprOne
  rw [h1, h2]
  have hm : ∀ i, bt ((1 : Int32) <<< (nI a &&& 31) ||| (1 : Int32) <<< (nI c &&& 31)) i = (decide (a = i) || decide (c = i)) := fun i => by rw [bt_or, bt_shl ha, bt_shl hc]
  by_cases hb : b r = true
  · by_cases hz : x &&& ((1 : Int32) <<< (nI a &&& 31) ||| (1 : Int32) <<< (nI c &&& 31)) = 0
    · rw [if_neg (fun z => z.2 hz), hb]
      have e1 := bt_and0 hz a
      have e2 := bt_and0 hz c
      rw [hm] at e1 e2
      simp at e1 e2
      rw [e1, e2]
      simp
    · rw [if_pos ⟨hb, hz⟩, hb, bt_or, hm]
      obtain ⟨i, i1, i2⟩ := bt_and1 hz
      rw [hm] at i2
      have : (bt x a || bt x c) = true := by
        simp at i2 ⊢
        rcases i2 with rfl | rfl
        · exact Or.inl i1
        · exact Or.inr i1
      rw [this, Bool.true_and, Bool.true_and]
  · rw [if_neg (fun z => hb z.1), Bool.eq_false_iff.mpr hb, Bool.false_and, Bool.or_false]
def sprI (n : Nat) (x : Int32) : Prop := ∀ j, bt x j = true → j < n
theorem sprOne_up {R : RT} {b : Nat → Bool} {n : Nat} (hre : rEnd R n) (hn : n ≤ 8) {r : Nat} (hr : r < R.2.2.2.2.2.2.2) {x : Int32} (hx : sprI n x) : sprI n (sprOne R b x r) ∧ ∀ j, bt x j = true → bt (sprOne R b x r) j = true := by
  obtain ⟨a, c, h1, h2, ha, hc⟩ := hre r hr
  refine ⟨fun j hj => ?_, fun j hj => ?_⟩
  · rw [sprOne_bt h1 h2 (by omega) (by omega)] at hj
    simp at hj
    rcases hj with hj | ⟨-, -, rfl | rfl⟩
    · exact hx j hj
    · exact ha
    · exact hc
  · rw [sprOne_bt h1 h2 (by omega) (by omega), hj, Bool.true_or]
def sprG (R : RT) (b : Nat → Bool) (x : Int32) : Int32 := foldF (sprOne R b) 0 R.2.2.2.2.2.2.2 x
theorem sprR_it (R : RT) (b : Nat → Bool) : ∀ k x, sprR R b k x = itF (sprG R b) k x
  | 0, _ => rfl
  | k + 1, x => by rw [sprR, sprR_it R b k]; rfl
theorem sprG_up {R : RT} {b : Nat → Bool} {n : Nat} (hre : rEnd R n) (hn : n ≤ 8) {x : Int32} (hx : sprI n x) : sprI n (sprG R b x) ∧ ∀ j, bt x j = true → bt (sprG R b x) j = true :=
  foldF_inv (I := fun y => sprI n y ∧ ∀ j, bt x j = true → bt y j = true) _ _ _ ⟨hx, fun _ h => h⟩ (fun y k hy _ hk => by
    obtain ⟨h1, h2⟩ := sprOne_up (b := b) hre hn (r := k) (by omega) hy.1
    exact ⟨h1, fun j hj => h2 j (hy.2 j hj)⟩)
theorem sprG_fix {R : RT} {b : Nat → Bool} {n : Nat} (hre : rEnd R n) (hn : n ≤ 8) (x : Int32) (hx : sprI n x) : sprG R b x = x ∨ cnB (bt x) n < cnB (bt (sprG R b x)) n := by
  obtain ⟨h1, h2⟩ := sprG_up (b := b) hre hn hx
  by_cases e : sprG R b x = x
  · exact Or.inl e
  · refine Or.inr (cnB_lt n (fun j _ => h2 j) (Classical.byContradiction (fun z => e (bt_ext (fun j _ => ?_)))))
    cases hj : bt x j with
    | true => exact h2 j hj
    | false =>
      cases hg : bt (sprG R b x) j with
      | false => rfl
      | true => exact absurd ⟨j, h1 j hg, hg, hj⟩ z
theorem sprI_0 {n x : Nat} (hx : x < n) (hn : n ≤ 8) : sprI n ((1 : Int32) <<< (nI x &&& 31)) ∧ bt ((1 : Int32) <<< (nI x &&& 31)) x = true := by
  refine ⟨fun j hj => ?_, ?_⟩
  · rw [bt_shl (by omega)] at hj
    have := of_decide_eq_true hj
    omega
  · rw [bt_shl (by omega)]; exact decide_eq_true rfl
/-- the spreading rests behind n - 1 rounds -/
theorem sprR_rest {R : RT} {b : Nat → Bool} {n x : Nat} (hre : rEnd R n) (hn : n ≤ 8) (hx : x < n) : sprR R b 8 ((1 : Int32) <<< (nI x &&& 31)) = sprF R b n (nI x) := by
  unfold sprF
  rw [sprR_it, sprR_it]
  obtain ⟨h1, h2⟩ := sprI_0 hx hn
  exact itF_rest (itF_stop (I := sprI n) (sz := fun y => cnB (bt y) n) (fun y hy => (sprG_up hre hn hy).1) (sprG_fix hre hn) (fun y _ => cnB_le _ _) h1 (cnB_one hx h2)) (by omega)
theorem sprOne_cg {R T : RT} {b c : Nat → Bool} {r : Nat} (h1 : R.1 r = T.1 r) (h2 : R.2.1 r = T.2.1 r) (h3 : b r = c r) (x : Int32) : sprOne R b x r = sprOne T c x r := by
  unfold sprOne
  rw [h1, h2, h3]
theorem sprR_cg {R T : RT} (hr : rAg R T) {b c : Nat → Bool} (h : ∀ r, r < R.2.2.2.2.2.2.2 → b r = c r) : ∀ k x, sprR R b k x = sprR T c k x
  | 0, _ => rfl
  | k + 1, x => by
    rw [sprR, sprR, ← hr.1, foldF_c2 (f := sprOne R b) (g := sprOne T c) _ _ _ (fun y i _ hi => sprOne_cg (hr.2 i (by omega)).1 (hr.2 i (by omega)).2.1 (h i (by omega)) y)]
    exact sprR_cg hr h k _

