/-! ===== with a book: what both sides say alike ===== -/
section CGM
variable {B Bm : BT} {R Rm : RT} {L Lm : LT} {G Gm : GT} {P Pm : PT} {D Dm : DT} {S Sm : ST} {Cc Ccm : CT} {Y : YT} {V : VT}
theorem told_m (h : bAg B Bm) {s : Nat} (hs : s < 4) (x : Int32) : toldB Bm.1 s x = toldB B.1 s x := by unfold toldB; rw [h.1 s hs]
theorem sort_m (h : bAg B Bm) (x y : Int32) : sortB Bm.1 x y = sortB B.1 x y := by unfold sortB; rw [told_m h (by decide), told_m h (by decide)]
theorem rul_m (h : bAg B Bm) (a b c d e : Int32) : rulR Bm.1 a b c d e = rulR B.1 a b c d e := by unfold rulR; rw [told_m h (by decide), sort_m h]
theorem per_m (h : pAg P Pm) (x : Int32) : perB Pm x = perB P x := (perB_cg h x).symm
theorem trv_m (h : bAg B Bm) (hp : pAg P Pm) (p x d : Int32) : trvR Bm.1 Pm p x d = trvR B.1 P p x d := by unfold trvR; rw [told_m h (by decide), hp.1]
theorem pdy_m (hp : pAg P Pm) (p d : Int32) : pdyR Pm p d = pdyR P p d := by unfold pdyR; rw [per_m hp]
theorem con_m (h : Dm.2.2.2 = D.2.2.2) (x : Int32) : conB Dm x = conB D x := by unfold conB; rw [h]
theorem rul_n4 {a b c d e : Int32} : ¬ rulR B.1 a b c d e = 4 := by
  unfold rulR
  split
  · split <;> decide
  · decide
theorem trv_n4 {p x d : Int32} : ¬ trvR B.1 P p x d = 4 := by
  unfold trvR
  split
  · split
    · split <;> decide
    · decide
  · decide
theorem pdy_n4 {p d : Int32} : ¬ pdyR P p d = 4 := by
  unfold pdyR
  split
  · split <;> decide
  · decide
theorem pOk_m (h : pAg P Pm) (hp : pOk P) : pOk Pm := ⟨by rw [← h.1]; exact hp.1, fun p hpp => by
  have hq : p < P.2.2.2.2.2.2 := by rw [h.1]; exact hpp
  have e := pcN_cg h hq
  rw [← e, ← (h.2 p hq).2.1]
  exact hp.2 p hq⟩
theorem pPl_m {n : Nat} (h : pAg P Pm) (hp : pPl P n) : pPl Pm n := fun p hpp => by
  have hq : p < P.2.2.2.2.2.2 := by rw [h.1]; exact hpp
  rw [← (h.2 p hq).1]
  exact hp p hq
theorem rOk_m (h : rAg R Rm) (hr : rOk R) : rOk Rm := ⟨by rw [← h.1]; exact hr.1, fun r hrr => by
  have hq : r < R.2.2.2.2.2.2.2 := by rw [h.1]; exact hrr
  have e := rpN_cg h hq
  rw [← e, ← (h.2 r hq).2.2.2.2.1]
  exact hr.2 r hq⟩
theorem rEnd_m {n : Nat} (h : rAg R Rm) (hr : rEnd R n) : rEnd Rm n := fun r hrr => by
  have hq : r < R.2.2.2.2.2.2.2 := by rw [h.1]; exact hrr
  rw [← (h.2 r hq).1, ← (h.2 r hq).2.1]
  exact hr r hq
theorem rEnd_g {n : Nat} (h : gEd R n) : rEnd R n := fun r hr => by
  obtain ⟨a, b, h1, h2, h3, h4, -⟩ := h r hr
  exact ⟨a, b, h1, h2, h3, h4⟩
theorem l24_m (h : lAg L Lm) (hl : L_n L ≤ 24) : L_n Lm ≤ 24 := by rw [← h.1]; exact hl
theorem gOk_m (h : gAg G Gm) (hg : gOk G) : gOk Gm := ⟨by rw [← h.1]; exact hg.1, fun g hgg => by
  have hq : g < G.2.2.2.2.2.2.2.2 := by rw [h.1]; exact hgg
  have e1 := (h.2 g hq).2.2.2.1
  have e2 : gcN G g = gcN Gm g := by unfold gcN; rw [e1]
  rw [← e1, ← e2]
  exact hg.2 g hq⟩
theorem vOk_m (h : V.1 = Y.1) (hy : tOk Y) : vOk V := fun t ht => by
  rw [h]
  exact hy t ht
theorem dNm_30 {n : Nat} (hn : n ≤ 30) (h : dNm D n) : dNm D 30 := ⟨h.1, fun i hi => by
  obtain ⟨p, h1, h2⟩ := h.2 i hi
  exact ⟨p, h1, by omega⟩⟩
theorem dNm_m {n : Nat} (h : Dm.2.2.2 = D.2.2.2) (hq : ∀ i, i < D.2.2.2 → Dm.1 i = D.1 i ∧ Dm.2.1 i = D.2.1 i) (hd : dNm D n) : dNm Dm n := ⟨by rw [h]; exact hd.1, fun i hi => by
  rw [h] at hi
  rw [(hq i hi).1]
  exact hd.2 i hi⟩
theorem dayB_9 {d : Int32} (h : dayB d = true) : d ≤ 999 := (of_decide_eq_true h).2
theorem dayB_I {d : Int32} (h : dayB d = true) : 0 ≤ d.toInt ∧ d.toInt ≤ 999 := by
  have h1 := of_decide_eq_true h
  rw [Int32.le_iff_toInt_le, Int32.le_iff_toInt_le] at h1
  exact h1
theorem rul_d {a b c d e : Int32} (h : rulR B.1 a b c d e = 0) : d ≤ 999 := by
  unfold rulR at h
  split at h
  · split at h
    · next z => rw [Bool.and_eq_true] at z; exact dayB_9 z.1
    · exact absurd h (by decide)
  · exact absurd h (by decide)
theorem ruling_lt {a b c d e : Int32} {i : Nat} (h : ruling L a b c d e = some i) : i < L_n L := by
  unfold ruling at h
  exact rulO_lt h
theorem per_lt {p : Int32} (hp : pOk P) (h : perB P p = true) : p.toNatClampNeg < P.2.2.2.2.2.2 := by
  obtain ⟨q, h1, h2, h3⟩ := perI hp h
  rw [h1, h3]; exact h2
theorem held_m {p i x : Int32} (h : pAg P Pm) (hp : pOk P) (hb : perB P p = true) (hi : 0 ≤ i ∧ i < nI (pcN P p.toNatClampNeg)) : heldI P (p.toNatClampNeg * 8 + i.toNatClampNeg) x = heldI Pm (p.toNatClampNeg * 8 + i.toNatClampNeg) x := by
  have hl := per_lt hp hb
  have h8 := (hp.2 _ hl).2
  obtain ⟨j, h1, h2⟩ := inI (by omega) hi
  have hj : i.toNatClampNeg = j := by rw [h1]; exact nI_clamp (by omega)
  obtain ⟨e1, e2, e3, e4⟩ := (h.2 _ hl).2.2 (p.toNatClampNeg * 8 + i.toNatClampNeg) (by omega) (by omega)
  unfold heldI
  rw [e1, e2, e3, e4]
theorem unlC_m {f g : Nat → Int32} : ∀ (i n : Nat), (∀ j, j < i → f j = g j) → f n = g n → unlC f n i = unlC g n i
  | 0, n, _, _ => rfl
  | i + 1, n, h, h2 => by
    have e : unlB f n i = unlB g n i := by unfold unlB; rw [h i (Nat.lt_succ_self i), h2]
    rw [unlC, unlC, e, unlC_m i n (fun j hj => h j (by omega)) h2]
theorem unl_m {f g : Nat → Int32} : ∀ n, (∀ i, i < n → f i = g i) → unlT f n = unlT g n
  | 0, _ => rfl
  | n + 1, h => by
    rw [unlT, unlT, unl_m n (fun i hi => h i (by omega)), unlC_m n n (fun j hj => h j (by omega)) (h n (Nat.lt_succ_self n))]
end CGM

