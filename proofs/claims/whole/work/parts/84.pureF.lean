/-! ===== reading: tokens on both sides ===== -/
def txB (tx : Nat → Int32) : Prop := ∀ k, -128 ≤ (tx k).toInt ∧ (tx k).toInt ≤ 127
def byOK (v : Int32) : Prop := (v &&& 255 = 32 ↔ v = 32) ∧ (v &&& 255 = 59 ↔ v = 59) ∧ ¬ v &&& 255 = -1 ∧ inB (v &&& 255) 97 122 = inB v 97 122 ∧ inB (v &&& 255) 48 57 = inB v 48 57 ∧ (inB v 97 122 = true → v &&& 255 = v) ∧ (inB v 48 57 = true → v &&& 255 = v)
def byOKb (v : Int32) : Bool := (decide (v &&& 255 = 32) == decide (v = 32)) && ((decide (v &&& 255 = 59) == decide (v = 59)) && (decide (¬ v &&& 255 = -1) && ((inB (v &&& 255) 97 122 == inB v 97 122) && ((inB (v &&& 255) 48 57 == inB v 48 57) && ((!inB v 97 122 || decide (v &&& 255 = v)) && (!inB v 48 57 || decide (v &&& 255 = v)))))))
theorem byOKb_all : ∀ b : Fin 256, byOKb (Int32.ofInt ((b.val : Int) - 128)) = true := by decide +kernel
theorem byOK_of {v : Int32} (h : -128 ≤ v.toInt ∧ v.toInt ≤ 127) : byOK v := by
  have e : v = Int32.ofInt (((v.toInt + 128).toNat : Int) - 128) := by
    rw [show (((v.toInt + 128).toNat : Nat) : Int) - 128 = v.toInt by omega, Int32.ofInt_toInt]
  have hb := byOKb_all ⟨(v.toInt + 128).toNat, by omega⟩
  rw [← e] at hb
  unfold byOKb at hb
  simp only [Bool.and_eq_true, beq_iff_eq, decide_eq_true_eq, Bool.or_eq_true, Bool.not_eq_true'] at hb
  obtain ⟨h1, h2, h3, h4, h5, h6, h7⟩ := hb
  refine ⟨decide_eq_decide.mp h1, decide_eq_decide.mp h2, h3, h4, h5, fun z => ?_, fun z => ?_⟩
  · rcases h6 with h6 | h6
    · rw [h6] at z; cases z
    · exact h6
  · rcases h7 with h7 | h7
    · rw [h7] at z; cases z
    · exact h7
theorem mb_in {tx : Nat → Int32} {n k : Nat} (h : k < n) : mb tx n k = tx k &&& 255 := if_pos h
theorem mb_out {tx : Nat → Int32} {n k : Nat} (h : ¬ k < n) : mb tx n k = -1 := if_neg h
theorem inB_iff {x a b : Int32} : inB x a b = true ↔ a ≤ x ∧ x ≤ b := by unfold inB; exact decide_eq_true_iff
theorem inB_m1a : inB (-1) 97 122 = false := by decide
theorem inB_m1b : inB (-1) 48 57 = false := by decide
theorem sk_ag {tx : Nat → Int32} {n : Nat} (ht : txB tx) : ∀ f i, i + f = n → skB tx f i = mskB tx n f i
  | 0, _, _ => rfl
  | f + 1, i, h => by
    rw [skB, mskB, mb_in (by omega)]
    have hb := byOK_of (ht i)
    by_cases c : tx i = 32
    · rw [if_pos c, if_pos (hb.1.mpr c)]; exact sk_ag ht f (i + 1) (by omega)
    · rw [if_neg c, if_neg (fun z => c (hb.1.mp z))]
theorem wd_ag {tx : Nat → Int32} {n : Nat} (ht : txB tx) : ∀ f i c (w w' : Int64), i + f = n → (wdL tx f i w).1 = (mwd tx n f i c w').1 ∧ (mwd tx n f i c w').2.1 + i = c + (wdL tx f i w).1 ∧ (w = w' → (mwd tx n f i c w').2.1 ≤ 8 → (wdL tx f i w).2 = (mwd tx n f i c w').2.2) ∧ i ≤ (wdL tx f i w).1 ∧ ∀ j, i ≤ j → j < (wdL tx f i w).1 → inB (tx j) 97 122 = true
  | 0, i, c, w, w', _ => ⟨rfl, rfl, fun h _ => h, Nat.le_refl _, fun j h1 h2 => absurd h2 (by rw [wdL]; omega)⟩
  | f + 1, i, c, w, w', h => by
    rw [wdL, mwd, mb_in (by omega)]
    obtain ⟨b1, b2, b3, b4, b5, b6, b7⟩ := byOK_of (ht i)
    by_cases c0 : 97 ≤ tx i ∧ tx i ≤ 122
    · have c1 := inB_iff.mpr c0
      rw [if_pos c0, b4, if_pos c1, b6 c1]
      obtain ⟨i1, i2, i3, i4, i5⟩ := wd_ag (n := n) ht f (i + 1) (c + 1) (w * 32 + (tx i - 97 + 1).toInt64) (if c < 8 then 32 * w' + (tx i - 97 + 1).toInt64 else w') (by omega)
      refine ⟨i1, by omega, fun e h8 => i3 ?_ h8, by omega, fun j h1 h2 => ?_⟩
      · rw [if_pos (by omega), e, Int64.mul_comm]
      · by_cases e : j = i
        · rw [e]; exact c1
        · exact i5 j (by omega) h2
    · have c1 : inB (tx i) 97 122 = false := Bool.eq_false_iff.mpr (fun z => c0 (inB_iff.mp z))
      rw [if_neg c0, b4, c1]
      exact ⟨rfl, Nat.add_comm _ _ |>.trans (Nat.add_comm _ _), fun e _ => e, Nat.le_refl _, fun j h1 h2 => absurd h2 (Nat.not_lt.mpr h1)⟩
theorem nm_ag {tx : Nat → Int32} {n : Nat} (ht : txB tx) : ∀ f i c (w w' : Int32), i + f = n → (whL tx f i w).1 = (mnm tx n f i c w').1 ∧ (mnm tx n f i c w').2.1 + i = c + (whL tx f i w).1 ∧ (w = w' → (mnm tx n f i c w').2.1 < 5 → (whL tx f i w).2 = (mnm tx n f i c w').2.2) ∧ i ≤ (whL tx f i w).1
  | 0, i, c, w, w', _ => ⟨rfl, rfl, fun h _ => h, Nat.le_refl _⟩
  | f + 1, i, c, w, w', h => by
    rw [whL, mnm, mb_in (by omega)]
    obtain ⟨b1, b2, b3, b4, b5, b6, b7⟩ := byOK_of (ht i)
    by_cases c0 : 48 ≤ tx i ∧ tx i ≤ 57
    · have c1 := inB_iff.mpr c0
      rw [if_pos c0, b5, if_pos c1, b7 c1]
      obtain ⟨i1, i2, i3, i4⟩ := nm_ag (n := n) ht f (i + 1) (c + 1) (w * 10 + (tx i - 48)) (if c < 4 then 10 * w' + tx i - 48 else w') (by omega)
      refine ⟨i1, by omega, fun e h8 => i3 ?_ h8, by omega⟩
      rw [if_pos (by omega), e, Int32.mul_comm, Int32.sub_eq_add_neg, Int32.sub_eq_add_neg, Int32.add_assoc]
    · have c1 : inB (tx i) 48 57 = false := Bool.eq_false_iff.mpr (fun z => c0 (inB_iff.mp z))
      rw [if_neg c0, b5, c1]
      exact ⟨rfl, Nat.add_comm _ _ |>.trans (Nat.add_comm _ _), fun e _ => e, Nat.le_refl _⟩
/-- a word's number -/
def enN (f : Nat → Nat) : Nat → Nat
  | 0 => 0
  | k + 1 => 32 * enN f k + f k
theorem enN_lt {f : Nat → Nat} : ∀ k, (∀ i, i < k → f i ≤ 26) → enN f k < 32 ^ k
  | 0, _ => Nat.zero_lt_one
  | k + 1, h => by
    have h1 := enN_lt k (fun i hi => h i (by omega))
    have h2 := h k (by omega)
    rw [enN, Nat.pow_succ]
    omega
theorem enN_cg {f g : Nat → Nat} : ∀ k, (∀ i, i < k → f i = g i) → enN f k = enN g k
  | 0, _ => rfl
  | k + 1, h => by rw [enN, enN, enN_cg k (fun i hi => h i (by omega)), h k (by omega)]
theorem enN_inj {f g : Nat → Nat} : ∀ k m, (∀ i, i < k → 1 ≤ f i ∧ f i ≤ 26) → (∀ i, i < m → 1 ≤ g i ∧ g i ≤ 26) → enN f k = enN g m → k = m ∧ ∀ i, i < k → f i = g i
  | 0, 0, _, _, _ => ⟨rfl, fun i hi => absurd hi (Nat.not_lt_zero i)⟩
  | 0, m + 1, _, hg, h => by
    have := hg m (by omega)
    rw [enN, enN] at h
    omega
  | k + 1, 0, hf, _, h => by
    have := hf k (by omega)
    rw [enN, enN] at h
    omega
  | k + 1, m + 1, hf, hg, h => by
    have h1 := hf k (by omega)
    have h2 := hg m (by omega)
    rw [enN, enN] at h
    obtain ⟨e1, e2⟩ := enN_inj k m (fun i hi => hf i (by omega)) (fun i hi => hg i (by omega)) (by omega)
    subst e1
    refine ⟨rfl, fun i hi => ?_⟩
    by_cases e : i = k
    · subst e; omega
    · exact e2 i (by omega)
def ltN (x : Int32) : Nat := (x.toInt - 96).toNat
theorem ltN_26 : ∀ d : Fin 26, ((Int32.ofInt ((d.val : Int) + 97)) - 97 + 1).toInt64 = Int64.ofNat (d.val + 1) := by decide
theorem ltN_of {x : Int32} (h : inB x 97 122 = true) : 1 ≤ ltN x ∧ ltN x ≤ 26 ∧ (x - 97 + 1).toInt64 = Int64.ofNat (ltN x) := by
  obtain ⟨h1, h2⟩ := inB_iff.mp h
  rw [Int32.le_iff_toInt_le, show (97 : Int32).toInt = 97 by decide] at h1
  rw [Int32.le_iff_toInt_le, show (122 : Int32).toInt = 122 by decide] at h2
  unfold ltN
  have := ltN_26 ⟨(x.toInt - 97).toNat, by omega⟩
  rw [show (((x.toInt - 97).toNat : Nat) : Int) + 97 = x.toInt by omega, Int32.ofInt_toInt] at this
  refine ⟨by omega, by omega, ?_⟩
  rw [this]
  congr 1
  show (x.toInt - 97).toNat + 1 = (x.toInt - 96).toNat
  omega
theorem ltN_inj {x y : Int32} (hx : inB x 97 122 = true) (hy : inB y 97 122 = true) (h : ltN x = ltN y) : x = y := by
  obtain ⟨h1, h2⟩ := inB_iff.mp hx
  obtain ⟨h3, h4⟩ := inB_iff.mp hy
  rw [Int32.le_iff_toInt_le, show (97 : Int32).toInt = 97 by decide] at h1 h3
  unfold ltN at h
  exact I_eq (by omega)
theorem wdL_en {tx : Nat → Int32} (s : Nat) : ∀ f i (w : Int64), s ≤ i → w = Int64.ofNat (enN (fun j => ltN (tx (s + j))) (i - s)) → (wdL tx f i w).2 = Int64.ofNat (enN (fun j => ltN (tx (s + j))) ((wdL tx f i w).1 - s)) ∧ i ≤ (wdL tx f i w).1
  | 0, i, w, hs, h => ⟨h, Nat.le_refl _⟩
  | f + 1, i, w, hs, h => by
    rw [wdL]
    by_cases c0 : 97 ≤ tx i ∧ tx i ≤ 122
    · rw [if_pos c0]
      have := wdL_en s f (i + 1) (w * 32 + (tx i - 97 + 1).toInt64) (by omega) (by
        rw [show i + 1 - s = (i - s) + 1 by omega, enN, (ltN_of (inB_iff.mpr c0)).2.2, h, show s + (i - s) = i by omega, Int64.ofNat_add, Int64.ofNat_mul, Int64.mul_comm]
        rfl)
      exact ⟨this.1, by omega⟩
    · rw [if_neg c0]
      exact ⟨h, Nat.le_refl _⟩
/-- the words that the grammar knows -/
def kwOK (l : List Int32) : Bool := (l.all (fun x => inB x 97 122)) && (decide (l.length ≤ 8) && decide (wlF l l.length = Int64.ofNat (enN (fun i => ltN (l.getD i 0)) l.length)))
theorem kw_all : ∀ t : Fin 44, t.val = 21 ∨ t.val = 22 ∨ kwOK (kb t.val) = true := by decide +kernel
/-- tokens on both sides -/
def wOK (tx : Nat → Int32) (N : NT) : Prop := N.2.2.2.2.2.2.1 ≤ N.2.2.2.2.2.2.2.1 ∧ N.2.2.2.2.2.2.2.1 - N.2.2.2.2.2.2.1 ≤ 8 ∧ (∀ j, N.2.2.2.2.2.2.1 ≤ j → j < N.2.2.2.2.2.2.2.1 → inB (tx j) 97 122 = true) ∧ N.2.2.2.2.2.2.2.2.1 = Int64.ofNat (enN (fun j => ltN (tx (N.2.2.2.2.2.2.1 + j))) (N.2.2.2.2.2.2.2.1 - N.2.2.2.2.2.2.1))
def tkR (tx : Nat → Int32) (N : NT) (Q : QT) : Prop :=
  (N.2.2.2.2.2.1 = 0 ∧ Q.2.1 = 1) ∨ (N.2.2.2.2.2.1 = 1 ∧ Q.2.1 = 2 ∧ N.2.2.2.2.2.2.2.1 = Q.1 ∧ N.2.2.2.2.2.2.2.2.1 = Q.2.2.2.2 ∧ wOK tx N) ∨ (N.2.2.2.2.2.1 = 2 ∧ Q.2.1 = 3 ∧ N.2.2.2.2.2.2.2.1 = Q.1 ∧ N.2.2.2.2.2.2.2.2.2 = Q.2.2.2.1) ∨ (N.2.2.2.2.2.1 = 3 ∧ Q.2.1 = 4 ∧ N.2.2.2.2.2.2.2.1 = Q.1) ∨ (N.2.2.2.2.2.1 = 4 ∧ Q.2.1 = 0)
def tR (tx : Nat → Int32) (n : Nat) (N : NT) (Q : QT) : Prop := nOk N ∧ N.2.2.1 = n ∧ Q.1 ≤ n ∧ N.2.2.2.2.2.2.1 = Q.2.2.1 ∧ tkR tx N Q
theorem step_ag {tx : Nat → Int32} {n : Nat} (ht : txB tx) {N : NT} {Q : QT} (h : nOk (nUp N)) (hn : N.2.2.1 = n) (hq : N.2.2.2.2.2.2.2.1 = Q.1) : tR tx n (stepF tx N) (nxF tx n Q) := by
  obtain ⟨k1, k2⟩ := stepF_ok0 (tx := tx) h
  have hQn : Q.1 ≤ n := by have := h.2.2; rw [← hq, ← hn]; exact this
  refine ⟨k1, k2.trans hn, nxF_le hQn, ?_⟩
  have h700 : n ≤ 700 := by rw [← hn]; exact h.1
  unfold stepF nxF
  rw [hn, hq, sk_ag (n := n) ht (n - Q.1) Q.1 (by omega)]
  have hs0 := mskB_le tx n (n - Q.1) Q.1
  generalize hs : mskB tx n (n - Q.1) Q.1 = s at *
  have hsn : s ≤ n := by omega
  unfold tokF nxS
  rw [hn]
  by_cases c : s < n
  · rw [if_pos c, mb_in c]
    obtain ⟨b1, b2, b3, b4, b5, b6, b7⟩ := byOK_of (ht s)
    rw [if_neg b3, b4, b5]
    by_cases c1 : 97 ≤ tx s ∧ tx s ≤ 122
    · rw [if_pos c1, if_pos (inB_iff.mpr c1)]
      obtain ⟨w1, w2, w3, w4, w5⟩ := wd_ag (n := n) ht (n - s) s 0 0 0 (by omega)
      have we := wdL_en (tx := tx) s (n - s) s 0 (Nat.le_refl _) (by rw [Nat.sub_self]; rfl)
      have wb := wdL_b tx (n - s) s 0
      refine ⟨rfl, ?_⟩
      by_cases c8 : (mwd tx n (n - s) s 0 0).2.1 ≤ 8
      · have hl8 : ¬ 8 < nI (wdL tx (n - s) s 0).1 - nI s := by
          rw [nI_sb (by omega) (by omega), Int32.lt_iff_toInt_lt, nI_toInt (by omega), show (8 : Int32).toInt = 8 by decide]
          omega
        refine Or.inr (Or.inl ⟨?_, ?_, w1, w3 rfl c8, ?_⟩)
        · show (if 8 < nI (wdL tx (n - s) s 0).1 - nI s then (4 : Int32) else 1) = 1
          rw [if_neg hl8]
        · show (if (mwd tx n (n - s) s 0 0).2.1 ≤ 8 then (2 : Int32) else 0) = 2
          rw [if_pos c8]
        · exact ⟨w4, (by omega : (wdL tx (n - s) s 0).1 - s ≤ 8), w5, we.1⟩
      · have hl8 : 8 < nI (wdL tx (n - s) s 0).1 - nI s := by
          rw [nI_sb (by omega) (by omega), Int32.lt_iff_toInt_lt, nI_toInt (by omega), show (8 : Int32).toInt = 8 by decide]
          omega
        refine Or.inr (Or.inr (Or.inr (Or.inr ⟨?_, ?_⟩)))
        · show (if 8 < nI (wdL tx (n - s) s 0).1 - nI s then (4 : Int32) else 1) = 4
          rw [if_pos hl8]
        · show (if (mwd tx n (n - s) s 0 0).2.1 ≤ 8 then (2 : Int32) else 0) = 0
          rw [if_neg c8]
    · rw [if_neg c1, if_neg (fun z => c1 (inB_iff.mp z))]
      by_cases c2 : 48 ≤ tx s ∧ tx s ≤ 57
      · rw [if_pos c2, if_pos (inB_iff.mpr c2)]
        obtain ⟨w1, w2, w3, w4⟩ := nm_ag (n := n) ht (n - s) s 0 0 0 (by omega)
        have wb := whL_b tx (n - s) s 0
        refine ⟨rfl, ?_⟩
        by_cases c8 : (mnm tx n (n - s) s 0 0).2.1 < 5
        · have hl8 : ¬ 4 < nI (whL tx (n - s) s 0).1 - nI s := by
            rw [nI_sb (by omega) (by omega), Int32.lt_iff_toInt_lt, nI_toInt (by omega), show (4 : Int32).toInt = 4 by decide]
            omega
          refine Or.inr (Or.inr (Or.inl ⟨?_, ?_, w1, w3 rfl c8⟩))
          · show (if 4 < nI (whL tx (n - s) s 0).1 - nI s then (4 : Int32) else 2) = 2
            rw [if_neg hl8]
          · show (if (mnm tx n (n - s) s 0 0).2.1 < 5 then (3 : Int32) else 0) = 3
            rw [if_pos c8]
        · have hl8 : 4 < nI (whL tx (n - s) s 0).1 - nI s := by
            rw [nI_sb (by omega) (by omega), Int32.lt_iff_toInt_lt, nI_toInt (by omega), show (4 : Int32).toInt = 4 by decide]
            omega
          refine Or.inr (Or.inr (Or.inr (Or.inr ⟨?_, ?_⟩)))
          · show (if 4 < nI (whL tx (n - s) s 0).1 - nI s then (4 : Int32) else 2) = 4
            rw [if_pos hl8]
          · show (if (mnm tx n (n - s) s 0 0).2.1 < 5 then (3 : Int32) else 0) = 0
            rw [if_neg c8]
      · rw [if_neg c2, if_neg (fun z => c2 (inB_iff.mp z))]
        by_cases c3 : tx s = 59
        · rw [if_pos (b2.mpr c3)]
          exact ⟨rfl, Or.inr (Or.inr (Or.inr (Or.inl ⟨if_pos c3, rfl, rfl⟩)))⟩
        · rw [if_neg (fun z => c3 (b2.mp z))]
          exact ⟨rfl, Or.inr (Or.inr (Or.inr (Or.inr ⟨if_neg c3, rfl⟩)))⟩
  · rw [if_neg c, mb_out c, if_pos rfl]
    exact ⟨rfl, Or.inl ⟨rfl, rfl⟩⟩
theorem nUp_ok {N : NT} (h : nOk N) : nOk (nUp N) := nOk.s h
/-- a token that is a word, a number or a sign is gone over alike -/
theorem tR_step {tx : Nat → Int32} {n : Nat} (ht : txB tx) {N : NT} {Q : QT} (h : tR tx n N Q) (hk : N.2.2.2.2.2.1 = 1 ∨ N.2.2.2.2.2.1 = 2 ∨ N.2.2.2.2.2.1 = 3) : tR tx n (stepF tx N) (nxF tx n Q) := by
  obtain ⟨h1, h2, h3, h4, h5⟩ := h
  refine step_ag ht (nUp_ok h1) h2 ?_
  rcases h5 with ⟨z, -⟩ | ⟨-, -, z, -⟩ | ⟨-, -, z, -⟩ | ⟨-, -, z⟩ | ⟨z, -⟩
  · rw [z] at hk; exact absurd hk (by decide)
  · exact z
  · exact z
  · exact z
  · rw [z] at hk; exact absurd hk (by decide)
theorem kw_get {l : List Int32} (h : kwOK l = true) : (∀ i, i < l.length → inB (l.getD i 0) 97 122 = true) ∧ l.length ≤ 8 ∧ wlF l l.length = Int64.ofNat (enN (fun i => ltN (l.getD i 0)) l.length) := by
  unfold kwOK at h
  simp only [Bool.and_eq_true, decide_eq_true_eq, List.all_eq_true] at h
  refine ⟨fun i hi => ?_, h.2.1, h.2.2⟩
  rw [List.getD_eq_getElem?_getD, List.getElem?_eq_getElem hi]
  exact h.1 _ (List.getElem_mem hi)
theorem I64_inj {a b : Nat} (ha : a < 2 ^ 63) (hb : b < 2 ^ 63) (h : Int64.ofNat a = Int64.ofNat b) : a = b := by
  have := congrArg Int64.toInt h
  rw [Int64.toInt_ofNat_of_lt ha, Int64.toInt_ofNat_of_lt hb] at this
  omega
theorem see_ag {tx : Nat → Int32} {n t t' : Nat} {N : NT} {Q : QT} (h : tR tx n N Q) (hkk : kb t = kb t') (hk : kwOK (kb t) = true) : seeB tx N (kb t) = isWB Q t' := by
  obtain ⟨h1, h2, h3, h4, h5⟩ := h
  unfold seeB isWB
  have hno : ∀ a b : Int32, N.2.2.2.2.2.1 = a → Q.2.1 = b → ¬ a = 1 → ¬ b = 2 → (decide (N.2.2.2.2.2.1 = 1) && (decide (nI N.2.2.2.2.2.2.2.1 - nI N.2.2.2.2.2.2.1 = nI (kb t).length) && allF (fun i => decide (tx (N.2.2.2.2.2.2.1 + i) = (kb t).getD i 0)) 0 (kb t).length)) = (decide (Q.2.1 = 2) && decide (Q.2.2.2.2 = wv t')) := fun a b e1 e2 e3 e4 => by
    rw [decide_eq_false (p := N.2.2.2.2.2.1 = 1) (by rw [e1]; exact e3), decide_eq_false (p := Q.2.1 = 2) (by rw [e2]; exact e4), Bool.false_and, Bool.false_and]
  rcases h5 with ⟨z1, z2⟩ | ⟨z1, z2, z3, z4, y1, y2, y3, y4⟩ | ⟨z1, z2, -⟩ | ⟨z1, z2, -⟩ | ⟨z1, z2⟩
  · exact hno 0 1 z1 z2 (by decide) (by decide)
  · obtain ⟨l1, l2, l3⟩ := kw_get hk
    have hnx : N.2.2.2.2.2.2.2.1 ≤ 700 := Nat.le_trans h1.2.2 h1.1
    rw [decide_eq_true z1, decide_eq_true z2, Bool.true_and, Bool.true_and, nI_sb y1 (by omega), ← z4, y4]
    unfold wv
    rw [← hkk, l3]
    have hlt1 := enN_lt (f := fun j => ltN (tx (N.2.2.2.2.2.2.1 + j))) (N.2.2.2.2.2.2.2.1 - N.2.2.2.2.2.2.1) (fun i hi => (ltN_of (y3 (N.2.2.2.2.2.2.1 + i) (by omega) (by omega))).2.1)
    have hlt2 := enN_lt (f := fun j => ltN ((kb t).getD j 0)) (kb t).length (fun i hi => (ltN_of (l1 i hi)).2.1)
    have hp1 : 32 ^ (N.2.2.2.2.2.2.2.1 - N.2.2.2.2.2.2.1) ≤ 32 ^ 8 := Nat.pow_le_pow_right (by omega) y2
    have hp2 : 32 ^ (kb t).length ≤ 32 ^ 8 := Nat.pow_le_pow_right (by omega) l2
    by_cases e : enN (fun j => ltN (tx (N.2.2.2.2.2.2.1 + j))) (N.2.2.2.2.2.2.2.1 - N.2.2.2.2.2.2.1) = enN (fun j => ltN ((kb t).getD j 0)) (kb t).length
    · rw [e, decide_eq_true rfl]
      obtain ⟨e1, e2⟩ := enN_inj _ _ (fun i hi => ⟨(ltN_of (y3 (N.2.2.2.2.2.2.1 + i) (by omega) (by omega))).1, (ltN_of (y3 (N.2.2.2.2.2.2.1 + i) (by omega) (by omega))).2.1⟩) (fun i hi => ⟨(ltN_of (l1 i hi)).1, (ltN_of (l1 i hi)).2.1⟩) e
      rw [e1, decide_eq_true rfl, Bool.true_and]
      refine (allF_iff _ _).mpr (fun i _ hi => decide_eq_true ?_)
      exact ltN_inj (y3 (N.2.2.2.2.2.2.1 + i) (by omega) (by omega)) (l1 i (by omega)) (e2 i (by omega))
    · rw [decide_eq_false (fun z => e (I64_inj (by omega) (by omega) z))]
      by_cases e1 : nI (N.2.2.2.2.2.2.2.1 - N.2.2.2.2.2.2.1) = nI (kb t).length
      · have e1' := nI_inj (by omega) (by omega) e1
        rw [decide_eq_true e1, Bool.true_and]
        refine Bool.eq_false_iff.mpr (fun z => e ?_)
        rw [e1']
        refine enN_cg _ (fun i hi => ?_)
        have := of_decide_eq_true ((allF_iff _ _).mp z i (Nat.zero_le _) (by omega))
        rw [this]
      · rw [decide_eq_false e1, Bool.false_and]
  · exact hno 2 3 z1 z2 (by decide) (by decide)
  · exact hno 3 4 z1 z2 (by decide) (by decide)
  · exact hno 4 0 z1 z2 (by decide) (by decide)
theorem nm_L {Q : QT} (h : Q.2.1 = 2) : ∀ (l : List Nat) (i : Nat), (∀ j, j < l.length → rsv (i + j) = wv (l.getD j 0)) → allF (fun j => decide (¬ Q.2.2.2.2 = rsv j)) i l.length = isNML Q l
  | [], _, _ => rfl
  | t :: l, i, hl => by
    have h0 : rsv i = wv t := hl 0 (Nat.succ_pos _)
    have hr := nm_L h l (i + 1) (fun j hj => by rw [show i + 1 + j = i + (j + 1) by omega]; exact hl (j + 1) (Nat.succ_lt_succ hj))
    rw [List.length_cons, allF, isNML, hr, isWB, decide_eq_true h, Bool.true_and, h0]
    by_cases c : Q.2.2.2.2 = wv t
    · rw [decide_eq_false (fun z => z c), decide_eq_true c, Bool.false_and, if_pos rfl]
    · rw [decide_eq_true c, decide_eq_false c, Bool.true_and, if_neg (by decide)]
theorem rsv_all : ∀ j : Fin 10, rsv (0 + j.val) = wv ([23, 24, 25, 26, 27, 28, 29, 30, 31, 32].getD j.val 0) := by decide +kernel
theorem name_ag {tx : Nat → Int32} {n : Nat} {N : NT} {Q : QT} (h : tR tx n N Q) : isNm tx N = isNM Q := by
  unfold isNm isNM
  have hno : ∀ a b : Int32, N.2.2.2.2.2.1 = a → Q.2.1 = b → ¬ a = 1 → ¬ b = 2 → (decide (N.2.2.2.2.2.1 = 1) && allF (fun j => decide (¬ N.2.2.2.2.2.2.2.2.1 = rsv j)) 0 10) = (decide (Q.2.1 = 2) && isNML Q [23, 24, 25, 26, 27, 28, 29, 30, 31, 32]) := fun a b e1 e2 e3 e4 => by
    rw [decide_eq_false (p := N.2.2.2.2.2.1 = 1) (by rw [e1]; exact e3), decide_eq_false (p := Q.2.1 = 2) (by rw [e2]; exact e4), Bool.false_and, Bool.false_and]
  rcases h.2.2.2.2 with ⟨z1, z2⟩ | ⟨z1, z2, z3, z4, -⟩ | ⟨z1, z2, -⟩ | ⟨z1, z2, -⟩ | ⟨z1, z2⟩
  · exact hno 0 1 z1 z2 (by decide) (by decide)
  · rw [decide_eq_true z1, decide_eq_true z2, Bool.true_and, Bool.true_and, z4]
    exact nm_L z2 [23, 24, 25, 26, 27, 28, 29, 30, 31, 32] 0 (fun j hj => rsv_all ⟨j, hj⟩)
  · exact hno 2 3 z1 z2 (by decide) (by decide)
  · exact hno 3 4 z1 z2 (by decide) (by decide)
  · exact hno 4 0 z1 z2 (by decide) (by decide)

