theorem mskB_ge (tx : Nat → Int32) (n : Nat) : ∀ f i, i ≤ mskB tx n f i
  | 0, i => Nat.le_refl _
  | f + 1, i => by
    rw [mskB]
    split
    · have := mskB_ge tx n f (i + 1); omega
    · exact Nat.le_refl _
theorem mwd_ge (tx : Nat → Int32) (n : Nat) : ∀ f i c w, i ≤ (mwd tx n f i c w).1
  | 0, i, c, w => Nat.le_refl _
  | f + 1, i, c, w => by
    rw [mwd]
    split
    · have := mwd_ge tx n f (i + 1) (c + 1) (if c < 8 then 32 * w + (mb tx n i - 97 + 1).toInt64 else w); omega
    · exact Nat.le_refl _
theorem mnm_ge (tx : Nat → Int32) (n : Nat) : ∀ f i c w, i ≤ (mnm tx n f i c w).1
  | 0, i, c, w => Nat.le_refl _
  | f + 1, i, c, w => by
    rw [mnm]
    split
    · have := mnm_ge tx n f (i + 1) (c + 1) (if c < 4 then 10 * w + mb tx n i - 48 else w); omega
    · exact Nat.le_refl _
def lt4 (Q Q' : QT) : Prop := Q.1 ≤ Q'.1 ∧ (Q'.2.1 = 4 → Q.1 < Q'.1)
theorem nxF_4 {tx : Nat → Int32} {n : Nat} {Q Q0 : QT} (h : Q.1 ≤ Q0.1) : lt4 Q (nxF tx n Q0) := by
  unfold nxF
  have hs := mskB_ge tx n (n - Q0.1) Q0.1
  generalize mskB tx n (n - Q0.1) Q0.1 = s at hs ⊢
  unfold nxS
  split
  · exact ⟨by show Q.1 ≤ s; omega, fun z => absurd z (by show ¬ (1 : Int32) = 4; decide)⟩
  · split
    · have := mwd_ge tx n (n - s) s 0 0
      refine ⟨by show Q.1 ≤ (mwd tx n (n - s) s 0 0).1; omega, fun z => ?_⟩
      have z : (if (mwd tx n (n - s) s 0 0).2.1 ≤ 8 then (2 : Int32) else 0) = 4 := z
      split at z
      · exact absurd z (by decide)
      · exact absurd z (by decide)
    · split
      · have := mnm_ge tx n (n - s) s 0 0
        refine ⟨by show Q.1 ≤ (mnm tx n (n - s) s 0 0).1; omega, fun z => ?_⟩
        have z : (if (mnm tx n (n - s) s 0 0).2.1 < 5 then (3 : Int32) else 0) = 4 := z
        split at z
        · exact absurd z (by decide)
        · exact absurd z (by decide)
      · split
        · exact ⟨by show Q.1 ≤ s + 1; omega, fun _ => by show Q.1 < s + 1; omega⟩
        · exact ⟨by show Q.1 ≤ s; omega, fun z => absurd z (by show ¬ (0 : Int32) = 4; decide)⟩
theorem nxF_ge {tx : Nat → Int32} {n : Nat} {Q Q0 : QT} (h : Q.1 ≤ Q0.1) : Q.1 ≤ (nxF tx n Q0).1 := (nxF_4 h).1
def rInv (R : RT) : Prop := R.2.2.2.2.2.2.2 ≤ 16 ∧ ∀ i, R.2.2.2.2.2.2.2 ≤ i → R.2.2.2.2.1 i = 0
def gInv (G : GT) : Prop := G.2.2.2.2.2.2.2.2 ≤ 12 ∧ ∀ i, G.2.2.2.2.2.2.2.2 ≤ i → G.2.2.2.1 i = 0
theorem bInv_le {B : BT} (h : bInv B) : B.2.2.2.2 ≤ 25 := by
  obtain ⟨t0, t1, t2, t3, -, -, -, -, h5, h6, h7, h8, h9⟩ := h
  omega
def rmI (s : Nat) : Int32 := match s with
  | 0 => 8
  | 1 => 5
  | _ => 6
theorem bInv_tell {B : BT} {s : Nat} {x : Int64} (h : bInv B) (hs : s < 4) (hr : ¬ B.1 s = rmI s) : B.2.2.2.2 < 25 ∧ bInv (bookTell B x s) := by
  obtain ⟨t0, t1, t2, t3, e0, e1, e2, e3, h5, h6, h7, h8, h9⟩ := h
  match s, hs with
  | 0, _ =>
    have hlt : t0 < 8 := by
      rcases Nat.lt_or_ge t0 8 with z | z
      · exact z
      · exact absurd (by rw [e0, show t0 = 8 by omega]; rfl) hr
    refine ⟨by omega, t0 + 1, t1, t2, t3, ?_, (show upd B.1 0 (B.1 0 + 1) 1 = B.1 1 from pk_un (by decide)).trans e1, (show upd B.1 0 (B.1 0 + 1) 2 = B.1 2 from pk_un (by decide)).trans e2, (show upd B.1 0 (B.1 0 + 1) 3 = B.1 3 from pk_un (by decide)).trans e3, by omega, h6, h7, h8, by show B.2.2.2.2 + 1 = _; omega⟩
    show upd B.1 0 (B.1 0 + 1) 0 = _
    rw [upd_eq, e0, nI_1]
  | 1, _ =>
    have hlt : t1 < 5 := by
      rcases Nat.lt_or_ge t1 5 with z | z
      · exact z
      · exact absurd (by rw [e1, show t1 = 5 by omega]; rfl) hr
    refine ⟨by omega, t0, t1 + 1, t2, t3, (show upd B.1 1 (B.1 1 + 1) 0 = B.1 0 from pk_un (by decide)).trans e0, ?_, (show upd B.1 1 (B.1 1 + 1) 2 = B.1 2 from pk_un (by decide)).trans e2, (show upd B.1 1 (B.1 1 + 1) 3 = B.1 3 from pk_un (by decide)).trans e3, h5, by omega, h7, h8, by show B.2.2.2.2 + 1 = _; omega⟩
    show upd B.1 1 (B.1 1 + 1) 1 = _
    rw [upd_eq, e1, nI_1]
  | 2, _ =>
    have hlt : t2 < 6 := by
      rcases Nat.lt_or_ge t2 6 with z | z
      · exact z
      · exact absurd (by rw [e2, show t2 = 6 by omega]; rfl) hr
    refine ⟨by omega, t0, t1, t2 + 1, t3, (show upd B.1 2 (B.1 2 + 1) 0 = B.1 0 from pk_un (by decide)).trans e0, (show upd B.1 2 (B.1 2 + 1) 1 = B.1 1 from pk_un (by decide)).trans e1, ?_, (show upd B.1 2 (B.1 2 + 1) 3 = B.1 3 from pk_un (by decide)).trans e3, h5, h6, by omega, h8, by show B.2.2.2.2 + 1 = _; omega⟩
    show upd B.1 2 (B.1 2 + 1) 2 = _
    rw [upd_eq, e2, nI_1]
  | 3, _ =>
    have hlt : t3 < 6 := by
      rcases Nat.lt_or_ge t3 6 with z | z
      · exact z
      · exact absurd (by rw [e3, show t3 = 6 by omega]; rfl) hr
    refine ⟨by omega, t0, t1, t2, t3 + 1, (show upd B.1 3 (B.1 3 + 1) 0 = B.1 0 from pk_un (by decide)).trans e0, (show upd B.1 3 (B.1 3 + 1) 1 = B.1 1 from pk_un (by decide)).trans e1, (show upd B.1 3 (B.1 3 + 1) 2 = B.1 2 from pk_un (by decide)).trans e2, ?_, h5, h6, h7, by omega, by show B.2.2.2.2 + 1 = _; omega⟩
    show upd B.1 3 (B.1 3 + 1) 3 = _
    rw [upd_eq, e3, nI_1]
theorem mThK_mono {tx : Nat → Int32} {n s : Nat} {B : BT} {Q : QT} {k k2 : QT → BT → Prop} {kf kf2 : Int32 → Nat → Prop} (hQ : Q.1 ≤ n) (hB : bInv B) (hs : s < 4) (h : ∀ Q' B', Q'.1 ≤ n → lt4 Q Q' → bInv B' → k Q' B' → k2 Q' B') (hf : ∀ e p, kf e p → kf2 e p) (hk : mThK tx n s (rmI s) B Q k kf) : mThK tx n s (rmI s) B Q k2 kf2 := by
  unfold mThK at hk ⊢
  split
  · next c => rw [if_pos c] at hk; exact hf _ _ hk
  · next c =>
    rw [if_neg c] at hk
    split
    · next c2 =>
      rw [if_pos c2] at hk
      rcases hf9 : fstO (fun i => decide (B.2.1 i = (nxF tx n Q).2.2.2.2)) 0 B.2.2.2.2 with _ | j
      · rw [hf9] at hk
        exact h _ _ (nxF_le (nxF_le hQ)) (nxF_4 (nxF_ge (Nat.le_refl _))) (bInv_tell hB hs c).2 hk
      · rw [hf9] at hk
        exact hf _ _ hk
    · next c2 => rw [if_neg c2] at hk; exact hf _ _ hk
theorem mLawK_mono {tx : Nat → Int32} {n : Nat} {kn : Int32} {B : BT} {L : LT} {Q : QT} {k k2 : QT → LT → Prop} {kf kf2 : Int32 → Nat → Prop} (hQ : Q.1 ≤ n) (hL : L_n L ≤ 24) (h : ∀ Q' L', Q'.1 ≤ n → lt4 Q Q' → L_n L' = L_n L + 1 → L_n L' ≤ 24 → lEq L (lawsC L' (L_n L)) → k Q' L' → k2 Q' L') (hf : ∀ e p, kf e p → kf2 e p) (hk : mLawK tx n kn B L Q k kf) : mLawK tx n kn B L Q k2 kf2 := by
  unfold mLawK at hk ⊢
  have hQ1 : (nxF tx n Q).1 ≤ n := nxF_le hQ
  have g1 : Q.1 ≤ (nxF tx n Q).1 := nxF_ge (Nat.le_refl _)
  have un : ∀ (f : Nat → Int32) v i, i < L_n L → upd f (L_n L) v i = f i := fun f v i hi => pk_un (by omega)
  split
  · next c => rw [if_pos c] at hk; exact hf _ _ hk
  next c =>
  rw [if_neg c] at hk
  have la : ∀ (ld kd of : Int32) (b : Bool) (si u : Int32), L_n (lawAdd L ld kd of b si u kn) = L_n L + 1 ∧ L_n (lawAdd L ld kd of b si u kn) ≤ 24 ∧ lEq L (lawsC (lawAdd L ld kd of b si u kn) (L_n L)) := fun ld kd of b si u => ⟨rfl, (by show L_n L + 1 ≤ 24; omega), rfl, fun i hi => ⟨un _ _ _ hi, un _ _ _ hi, un _ _ _ hi, un _ _ _ hi, un _ _ _ hi, un _ _ _ hi, un _ _ _ hi⟩⟩
  rcases ht : tdF tx n B (nxF tx n Q) 1 with e | ⟨ld, Q2⟩
  · rw [ht, tdK_l] at hk; rw [tdK_l]; exact hf _ _ hk
  rw [ht, tdK_r] at hk; rw [tdK_r]
  have hQ2 : Q2.1 ≤ n := by rw [tdF_Q ht]; exact nxF_le hQ1
  have g2 : Q.1 ≤ Q2.1 := by rw [tdF_Q ht]; exact nxF_ge g1
  split
  rotate_left
  · next c2 => rw [if_neg c2] at hk; exact hf _ _ hk
  next c2 =>
  rw [if_pos c2] at hk
  unfold mLaw2 at hk ⊢
  have hQ2n : (nxF tx n Q2).1 ≤ n := nxF_le hQ2
  have g3 : Q.1 ≤ (nxF tx n Q2).1 := nxF_ge g2
  rcases ht3 : tdF tx n B (nxF tx n Q2) 3 with e | ⟨kd, Q3⟩
  · rw [ht3, tdK_l] at hk; rw [tdK_l]; exact hf _ _ hk
  rw [ht3, tdK_r] at hk; rw [tdK_r]
  have hQ3 : Q3.1 ≤ n := by rw [tdF_Q ht3]; exact nxF_le hQ2n
  have g4 : Q.1 ≤ Q3.1 := by rw [tdF_Q ht3]; exact nxF_ge g3
  by_cases w38 : isWB Q3 38 = true
  rotate_left
  · rw [nwK, if_neg w38] at hk ⊢; exact hf _ _ hk
  rw [nwK, if_pos w38] at hk ⊢
  have hQ4 : (nxF tx n Q3).1 ≤ n := nxF_le hQ3
  have g5 : Q.1 ≤ (nxF tx n Q3).1 := nxF_ge g4
  rcases ht4 : tdF tx n B (nxF tx n Q3) 2 with e | ⟨of, Q5⟩
  · rw [ht4, tdK_l] at hk; rw [tdK_l]; exact hf _ _ hk
  rw [ht4, tdK_r] at hk; rw [tdK_r]
  have hQ5 : Q5.1 ≤ n := by rw [tdF_Q ht4]; exact nxF_le hQ4
  have g6 : Q.1 ≤ Q5.1 := by rw [tdF_Q ht4]; exact nxF_ge g5
  by_cases w39 : isWB Q5 39 = true
  rotate_left
  · rw [nwK, if_neg w39] at hk ⊢; exact hf _ _ hk
  rw [nwK, if_pos w39] at hk ⊢
  have hQ6 : (nxF tx n Q5).1 ≤ n := nxF_le hQ5
  have g7 : Q.1 ≤ (nxF tx n Q5).1 := nxF_ge g6
  rcases ht5 : whF tx n (nxF tx n Q5) 0 999 with e | ⟨si, Q7⟩
  · rw [ht5, tdK_l] at hk; rw [tdK_l]; exact hf _ _ hk
  rw [ht5, tdK_r] at hk; rw [tdK_r]
  have hQ7 : Q7.1 ≤ n := by rw [whF_Q ht5]; exact nxF_le hQ6
  have g8 : lt4 Q Q7 := by rw [whF_Q ht5]; exact nxF_4 g7
  unfold mLaw3 at hk ⊢
  split
  rotate_left
  · next c3 =>
    rw [if_neg c3] at hk
    exact h _ _ hQ7 g8 (la _ _ _ _ _ _).1 (la _ _ _ _ _ _).2.1 (la _ _ _ _ _ _).2.2 hk
  next c3 =>
  rw [if_pos c3] at hk
  have hQ8 : (nxF tx n Q7).1 ≤ n := nxF_le hQ7
  have g9 : Q.1 ≤ (nxF tx n Q7).1 := nxF_ge g8.1
  rcases ht6 : whF tx n (nxF tx n Q7) si 999 with e | ⟨u, Q9⟩
  · rw [ht6, tdK_l] at hk; rw [tdK_l]; exact hf _ _ hk
  rw [ht6, tdK_r] at hk; rw [tdK_r]
  exact h _ _ (by rw [whF_Q ht6]; exact nxF_le hQ8) (by rw [whF_Q ht6]; exact nxF_4 g9) (la _ _ _ _ _ _).1 (la _ _ _ _ _ _).2.1 (la _ _ _ _ _ _).2.2 hk
theorem mPostsK_mono {tx : Nat → Int32} {n r : Nat} {B : BT} {Q0 : QT} {k k2 : QT → RT → Prop} {kf kf2 : Int32 → Nat → Prop} (hr : r < 16) (h : ∀ Q' R', Q'.1 ≤ n → lt4 Q0 Q' → rInv R' → k Q' R' → k2 Q' R') (hf : ∀ e p, kf e p → kf2 e p) : ∀ f (R : RT) (Q : QT), Q.1 ≤ n → lt4 Q0 Q → R.2.2.2.2.2.2.2 = r → (∀ i, r < i → R.2.2.2.2.1 i = 0) → mPostsK tx n B r k kf f R Q → mPostsK tx n B r k2 kf2 f R Q := by
  have up : ∀ R : RT, R.2.2.2.2.2.2.2 = r → (∀ i, r < i → R.2.2.2.2.1 i = 0) → rInv (rUp R) := fun R h1 h2 => ⟨by show R.2.2.2.2.2.2.2 + 1 ≤ 16; omega, fun i hi => h2 i (by have hi : R.2.2.2.2.2.2.2 + 1 ≤ i := hi; omega)⟩
  intro f
  induction f with
  | zero =>
    intro R Q hQ h4 hn hz hk
    rw [mPostsK] at hk ⊢
    split
    · next c => rw [if_pos c] at hk; exact hf _ _ hk
    · next c => rw [if_neg c] at hk; exact h _ _ hQ h4 (up R hn hz) hk
  | succ f ih =>
    intro R Q hQ h4 hn hz hk
    rw [mPostsK] at hk ⊢
    split
    rotate_left
    · next c => rw [if_neg c] at hk; exact h _ _ hQ h4 (up R hn hz) hk
    next c =>
    rw [if_pos c] at hk
    have hQ1 : (nxF tx n Q).1 ≤ n := nxF_le hQ
    have g1 : Q0.1 ≤ (nxF tx n Q).1 := nxF_ge h4.1
    rcases ht : tdF tx n B (nxF tx n Q) 3 with e | ⟨kd, Q2⟩
    · rw [ht, tdK_l] at hk; rw [tdK_l]; exact hf _ _ hk
    rw [ht, tdK_r] at hk; rw [tdK_r]
    have hQ2 : Q2.1 ≤ n := by rw [tdF_Q ht]; exact nxF_le hQ1
    have g2 : Q0.1 ≤ Q2.1 := by rw [tdF_Q ht]; exact nxF_ge g1
    by_cases w35 : isWB Q2 35 = true
    rotate_left
    · rw [nwK, if_neg w35] at hk ⊢; exact hf _ _ hk
    rw [nwK, if_pos w35] at hk ⊢
    have hQ3 : (nxF tx n Q2).1 ≤ n := nxF_le hQ2
    have g3 : Q0.1 ≤ (nxF tx n Q2).1 := nxF_ge g2
    rcases ht2 : tdF tx n B (nxF tx n Q2) 1 with e | ⟨ld, Q4⟩
    · rw [ht2, tdK_l] at hk; rw [tdK_l]; exact hf _ _ hk
    rw [ht2, tdK_r] at hk; rw [tdK_r]
    exact ih _ _ (by rw [tdF_Q ht2]; exact nxF_le hQ3) (by rw [tdF_Q ht2]; exact nxF_4 g3) hn (fun i hi => by show upd R.2.2.2.2.1 r _ i = 0; rw [pk_un (by omega)]; exact hz i hi) hk
theorem mRoadK_mono {tx : Nat → Int32} {n : Nat} {B : BT} {R : RT} {Q : QT} {k k2 : QT → RT → Prop} {kf kf2 : Int32 → Nat → Prop} (hQ : Q.1 ≤ n) (hR : rInv R) (h : ∀ Q' R', Q'.1 ≤ n → lt4 Q Q' → rInv R' → k Q' R' → k2 Q' R') (hf : ∀ e p, kf e p → kf2 e p) (hk : mRoadK tx n B R Q k kf) : mRoadK tx n B R Q k2 kf2 := by
  unfold mRoadK at hk ⊢
  have hQ1 : (nxF tx n Q).1 ≤ n := nxF_le hQ
  have g1 : Q.1 ≤ (nxF tx n Q).1 := nxF_ge (Nat.le_refl _)
  have hR1 := hR.1
  split
  · next c => rw [if_pos c] at hk; exact hf _ _ hk
  next c =>
  rw [if_neg c] at hk
  rcases ht : tdF tx n B (nxF tx n Q) 0 with e | ⟨a, Q2⟩
  · rw [ht, tdK_l] at hk; rw [tdK_l]; exact hf _ _ hk
  rw [ht, tdK_r] at hk; rw [tdK_r]
  have hQ2 : Q2.1 ≤ n := by rw [tdF_Q ht]; exact nxF_le hQ1
  have g2 : Q.1 ≤ Q2.1 := by rw [tdF_Q ht]; exact nxF_ge g1
  rcases ht2 : tdF tx n B Q2 0 with e | ⟨b, Q3⟩
  · rw [ht2, tdK_l] at hk; rw [tdK_l]; exact hf _ _ hk
  rw [ht2, tdK_r] at hk; rw [tdK_r]
  have hQ3 : Q3.1 ≤ n := by rw [tdF_Q ht2]; exact nxF_le hQ2
  have g3 : Q.1 ≤ Q3.1 := by rw [tdF_Q ht2]; exact nxF_ge g2
  split
  · next c2 => rw [if_pos c2] at hk; exact hf _ _ hk
  next c2 =>
  rw [if_neg c2] at hk
  unfold mRoad2 at hk ⊢
  by_cases w33 : isWB Q3 33 = true
  rotate_left
  · rw [nwK, if_neg w33] at hk ⊢; exact hf _ _ hk
  rw [nwK, if_pos w33] at hk ⊢
  have hQ4 : (nxF tx n Q3).1 ≤ n := nxF_le hQ3
  have g4 : Q.1 ≤ (nxF tx n Q3).1 := nxF_ge g3
  rcases ht3 : whF tx n (nxF tx n Q3) 1 60 with e | ⟨dy, Q5⟩
  · rw [ht3, tdK_l] at hk; rw [tdK_l]; exact hf _ _ hk
  rw [ht3, tdK_r] at hk; rw [tdK_r]
  have hQ5 : Q5.1 ≤ n := by rw [whF_Q ht3]; exact nxF_le hQ4
  have g5 : Q.1 ≤ Q5.1 := by rw [whF_Q ht3]; exact nxF_ge g4
  by_cases w34 : isWB Q5 34 = true
  rotate_left
  · rw [nwK, if_neg w34] at hk ⊢; exact hf _ _ hk
  rw [nwK, if_pos w34] at hk ⊢
  have hQ6 : (nxF tx n Q5).1 ≤ n := nxF_le hQ5
  have g6 : Q.1 ≤ (nxF tx n Q5).1 := nxF_ge g5
  rcases ht4 : whF tx n (nxF tx n Q5) 0 999 with e | ⟨co, Q7⟩
  · rw [ht4, tdK_l] at hk; rw [tdK_l]; exact hf _ _ hk
  rw [ht4, tdK_r] at hk; rw [tdK_r]
  exact mPostsK_mono (by omega) h hf 3 _ _ (by rw [whF_Q ht4]; exact nxF_le hQ6) (by rw [whF_Q ht4]; exact nxF_4 g6) rfl (fun i hi => hR.2 i (by omega)) hk

