theorem mCaseH_mono4 {tx : Nat → Int32} {n : Nat} {B : BT} {G : GT} {q : Nat} {s : Int32} {Q0 Q : QT} {k k2 : QT → GT → Prop} {kf kf2 : Int32 → Nat → Prop} (hQ : Q.1 ≤ n) (g0 : Q0.1 ≤ Q.1) (h : ∀ Q' G', Q'.1 ≤ n → lt4 Q0 Q' → G'.2.2.2.1 = G.2.2.2.1 → G'.2.2.2.2.2.2.2.2 = G.2.2.2.2.2.2.2.2 → k Q' G' → k2 Q' G') (hf : ∀ e p, kf e p → kf2 e p) (hk : mCaseH tx n B G q s Q k kf) : mCaseH tx n B G q s Q k2 kf2 := by
  unfold mCaseH at hk ⊢
  have hQ1 : (nxF tx n Q).1 ≤ n := nxF_le hQ
  have g1 : Q0.1 ≤ (nxF tx n Q).1 := nxF_ge g0
  rcases ht : tdF tx n B (nxF tx n Q) 3 with e | ⟨v, Q2⟩
  · rw [ht, tdK_l] at hk; rw [tdK_l]; exact hf _ _ hk
  rw [ht, tdK_r] at hk; rw [tdK_r]
  have hQ2 : Q2.1 ≤ n := by rw [tdF_Q ht]; exact nxF_le hQ1
  have g2 : Q0.1 ≤ Q2.1 := by rw [tdF_Q ht]; exact nxF_ge g1
  have hQ3 : (nxF tx n Q2).1 ≤ n := nxF_le hQ2
  have g3 : Q0.1 ≤ (nxF tx n Q2).1 := nxF_ge g2
  by_cases w38 : isWB Q2 38 = true
  rotate_left
  · rw [nwK, if_neg w38] at hk ⊢; exact hf _ _ hk
  rw [nwK, if_pos w38] at hk ⊢
  rcases ht2 : tdF tx n B (nxF tx n Q2) 2 with e | ⟨x, Q4⟩
  · rw [ht2, tdK_l] at hk; rw [tdK_l]; exact hf _ _ hk
  rw [ht2, tdK_r] at hk; rw [tdK_r]
  exact h _ _ (by rw [tdF_Q ht2]; exact nxF_le hQ3) (by rw [tdF_Q ht2]; exact nxF_4 g3) rfl rfl hk
theorem mCaseK_mono4 {tx : Nat → Int32} {n : Nat} {B : BT} {G : GT} {q : Nat} {Q0 Q : QT} {k k2 : QT → GT → Prop} {kf kf2 : Int32 → Nat → Prop} (hQ : Q.1 ≤ n) (g0 : Q0.1 ≤ Q.1) (h : ∀ Q' G', Q'.1 ≤ n → lt4 Q0 Q' → G'.2.2.2.1 = G.2.2.2.1 → G'.2.2.2.2.2.2.2.2 = G.2.2.2.2.2.2.2.2 → k Q' G' → k2 Q' G') (hf : ∀ e p, kf e p → kf2 e p) (hk : mCaseK tx n B G q Q k kf) : mCaseK tx n B G q Q k2 kf2 := by
  unfold mCaseK at hk ⊢
  have hQ1 : (nxF tx n Q).1 ≤ n := nxF_le hQ
  have g1 : Q0.1 ≤ (nxF tx n Q).1 := nxF_ge g0
  split
  · next c =>
    rw [if_pos c] at hk
    rcases ht : tdF tx n B (nxF tx n Q) 0 with e | ⟨v, Q2⟩
    · rw [ht, tdK_l] at hk; rw [tdK_l]; exact hf _ _ hk
    rw [ht, tdK_r] at hk; rw [tdK_r]
    exact h _ _ (by rw [tdF_Q ht]; exact nxF_le hQ1) (by rw [tdF_Q ht]; exact nxF_4 g1) rfl rfl hk
  · next c =>
    rw [if_neg c] at hk
    split
    · next c2 => rw [if_pos c2] at hk; exact mCaseH_mono4 hQ g0 h hf hk
    · next c2 =>
      rw [if_neg c2] at hk
      split
      · next c3 => rw [if_pos c3] at hk; exact mCaseH_mono4 hQ g0 h hf hk
      · next c3 => rw [if_neg c3] at hk; exact hf _ _ hk
theorem mCasesK_mono {tx : Nat → Int32} {n g : Nat} {B : BT} {Q0 : QT} {k k2 : QT → GT → Prop} {kf kf2 : Int32 → Nat → Prop} (hg : g < 12) (h : ∀ Q' G', Q'.1 ≤ n → lt4 Q0 Q' → gInv G' → k Q' G' → k2 Q' G') (hf : ∀ e p, kf e p → kf2 e p) : ∀ f (G : GT) (Q : QT), Q.1 ≤ n → lt4 Q0 Q → G.2.2.2.2.2.2.2.2 = g → (∀ i, g < i → G.2.2.2.1 i = 0) → mCasesK tx n B g k kf f G Q → mCasesK tx n B g k2 kf2 f G Q := by
  have up : ∀ G : GT, G.2.2.2.2.2.2.2.2 = g → (∀ i, g < i → G.2.2.2.1 i = 0) → gInv (gUp G) := fun G h1 h2 => ⟨by show G.2.2.2.2.2.2.2.2 + 1 ≤ 12; omega, fun i hi => h2 i (by have hi : G.2.2.2.2.2.2.2.2 + 1 ≤ i := hi; omega)⟩
  intro f
  induction f with
  | zero =>
    intro G Q hQ h4 hn hz hk
    rw [mCasesK] at hk ⊢
    split
    · next c => rw [if_pos c] at hk; exact hf _ _ hk
    · next c => rw [if_neg c] at hk; exact h _ _ hQ h4 (up G hn hz) hk
  | succ f ih =>
    intro G Q hQ h4 hn hz hk
    rw [mCasesK] at hk ⊢
    split
    rotate_left
    · next c => rw [if_neg c] at hk; exact h _ _ hQ h4 (up G hn hz) hk
    next c =>
    rw [if_pos c] at hk
    exact mCaseK_mono4 (nxF_le hQ) (nxF_ge h4.1) (fun Q' G' hQ' h4' hc' hn' hk => ih _ _ hQ' h4' (hn'.trans hn) (fun i hi => by show upd G'.2.2.2.1 g _ i = 0; rw [pk_un (by omega), hc']; exact hz i hi) hk) hf hk
theorem mGiftK_mono {tx : Nat → Int32} {n : Nat} {B : BT} {G : GT} {Q : QT} {k k2 : QT → GT → Prop} {kf kf2 : Int32 → Nat → Prop} (hQ : Q.1 ≤ n) (hG : gInv G) (h : ∀ Q' G', Q'.1 ≤ n → lt4 Q Q' → gInv G' → k Q' G' → k2 Q' G') (hf : ∀ e p, kf e p → kf2 e p) (hk : mGiftK tx n B G Q k kf) : mGiftK tx n B G Q k2 kf2 := by
  unfold mGiftK at hk ⊢
  have hQ1 : (nxF tx n Q).1 ≤ n := nxF_le hQ
  have g1 : Q.1 ≤ (nxF tx n Q).1 := nxF_ge (Nat.le_refl _)
  have hG1 := hG.1
  split
  · next c => rw [if_pos c] at hk; exact hf _ _ hk
  next c =>
  rw [if_neg c] at hk
  rcases ht : tdF tx n B (nxF tx n Q) 3 with e | ⟨kd, Q2⟩
  · rw [ht, tdK_l] at hk; rw [tdK_l]; exact hf _ _ hk
  rw [ht, tdK_r] at hk; rw [tdK_r]
  have hQ2 : Q2.1 ≤ n := by rw [tdF_Q ht]; exact nxF_le hQ1
  have g2 : Q.1 ≤ Q2.1 := by rw [tdF_Q ht]; exact nxF_ge g1
  by_cases w38 : isWB Q2 38 = true
  rotate_left
  · rw [nwK, if_neg w38] at hk ⊢; exact hf _ _ hk
  rw [nwK, if_pos w38] at hk ⊢
  have hQ3 : (nxF tx n Q2).1 ≤ n := nxF_le hQ2
  have g3 : Q.1 ≤ (nxF tx n Q2).1 := nxF_ge g2
  rcases ht2 : tdF tx n B (nxF tx n Q2) 2 with e | ⟨of, Q4⟩
  · rw [ht2, tdK_l] at hk; rw [tdK_l]; exact hf _ _ hk
  rw [ht2, tdK_r] at hk; rw [tdK_r]
  have hQ4 : Q4.1 ≤ n := by rw [tdF_Q ht2]; exact nxF_le hQ3
  have g4 : Q.1 ≤ Q4.1 := by rw [tdF_Q ht2]; exact nxF_ge g3
  by_cases w40 : isWB Q4 40 = true
  rotate_left
  · rw [nwK, if_neg w40] at hk ⊢; exact hf _ _ hk
  rw [nwK, if_pos w40] at hk ⊢
  have hQ5 : (nxF tx n Q4).1 ≤ n := nxF_le hQ4
  have g5 : Q.1 ≤ (nxF tx n Q4).1 := nxF_ge g4
  rcases ht3 : whF tx n (nxF tx n Q4) 0 400 with e | ⟨af, Q6⟩
  · rw [ht3, tdK_l] at hk; rw [tdK_l]; exact hf _ _ hk
  rw [ht3, tdK_r] at hk; rw [tdK_r]
  exact mCasesK_mono (by omega) h hf 3 _ _ (by rw [whF_Q ht3]; exact nxF_le hQ5) (by rw [whF_Q ht3]; exact nxF_4 g5) rfl (fun i hi => hG.2 i (by omega)) hk
def mLineK {α : Type} (tx : Nat → Int32) (n : Nat) (B : BT) (R : RT) (L : LT) (G : GT) (Q : QT) (k : QT → BT → RT → LT → GT → α) (kf : Int32 → Nat → α) : α :=
  if isWB Q 23 = true then mThK tx n 0 8 B Q (fun Q' B' => k Q' B' R L G) kf else
  if isWB Q 24 = true then mThK tx n 1 5 B Q (fun Q' B' => k Q' B' R L G) kf else
  if isWB Q 25 = true then mThK tx n 2 6 B Q (fun Q' B' => k Q' B' R L G) kf else
  if isWB Q 26 = true then mThK tx n 3 6 B Q (fun Q' B' => k Q' B' R L G) kf else
  if isWB Q 27 = true then mRoadK tx n B R Q (fun Q' R' => k Q' B R' L G) kf else
  if isWB Q 28 = true then mLawK tx n 0 B L Q (fun Q' L' => k Q' B R L' G) kf else
  if isWB Q 29 = true then mGiftK tx n B G Q (fun Q' G' => k Q' B R L G') kf else kf 1 Q.2.2.1
def mBookL {α : Type} (tx : Nat → Int32) (n : Nat) (k : QT → BT → RT → LT → GT → α) (kf : Int32 → Nat → α) : Nat → QT → BT → RT → LT → GT → α
  | 0, Q, _, _, _, _ => kf 1 Q.2.2.1
  | f + 1, Q, B, R, L, G => mLineK tx n B R L G Q (fun Q' B' R' L' G' => if Q'.2.1 = 4 then mBookL tx n k kf f (nxF tx n Q') B' R' L' G' else if Q'.2.1 = 1 then k Q' B' R' L' G' else kf 1 Q'.2.2.1) kf
def mLawsL {α : Type} (tx : Nat → Int32) (n : Nat) (kn : Int32) (B : BT) (k : QT → LT → α) (kf : Int32 → Nat → α) : Nat → QT → LT → α
  | 0, Q, _ => kf 1 Q.2.2.1
  | f + 1, Q, L => if isWB Q 28 = true then mLawK tx n kn B L Q (fun Q' L' => if Q'.2.1 = 4 then mLawsL tx n kn B k kf f (nxF tx n Q') L' else if Q'.2.1 = 1 then k Q' L' else kf 1 Q'.2.2.1) kf else kf 1 Q.2.2.1

