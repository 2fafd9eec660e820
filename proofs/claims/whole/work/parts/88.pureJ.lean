/-! ===== reading: lines, the whole text on both sides ===== -/
def bkR (B : BT) (R : RT) (L : LT) (G : GT) (C : BT) (T : RT) (M : LT) (H : GT) : Prop :=
  bAg B C ∧ bNm B ∧ bInv B ∧ (∃ t0, B.1 0 = nI t0 ∧ t0 ≤ 8 ∧ rX R t0) ∧ rAg R T ∧ rOk R ∧ rInv T ∧ lAg L M ∧ lUn L ∧ L_n L ≤ 24 ∧ gAg G H ∧ gOk G ∧ gGd G ∧ gInv H
theorem rX_mono {R : RT} {a b : Nat} (h : rX R a) (hab : a ≤ b) : rX R b := ⟨fun r hr => by
  obtain ⟨x, y, h1, h2, h3, h4, h5⟩ := h.1 r hr
  exact ⟨x, y, h1, h2, by omega, by omega, h5⟩, h.2⟩
theorem wv_ne : ∀ t : Fin 44, t.val = 23 ∨ t.val = 24 ∨ t.val = 25 ∨ t.val = 26 ∨ t.val = 27 → ¬ wv t.val = wv 28 := by decide +kernel
theorem isWB_law {Q : QT} (h : isWB Q 28 = true) {t : Nat} (ht : t = 23 ∨ t = 24 ∨ t = 25 ∨ t = 26 ∨ t = 27) : ¬ isWB Q t = true := fun z => by
  unfold isWB at h z
  rw [Bool.and_eq_true] at h z
  have e1 := of_decide_eq_true h.2
  have e2 := of_decide_eq_true z.2
  exact wv_ne ⟨t, by omega⟩ ht (e2.symm.trans e1)
section LINE
variable {α β : Type} {Φ : α → β → Prop} {tx : Nat → Int32} {n : Nat}
theorem line_sim {k : Bool → ZT → α} {k' : QT → BT → RT → LT → GT → β} {kf : Int32 → Nat → β} (ht : txB tx) {Z : ZT} {C : BT} {T : RT} {M : LT} {H : GT} {Q : QT} (h : tX tx n 0 0 Z.1 Q) (hb : bkR Z.2.1 Z.2.2.1 Z.2.2.2.1 Z.2.2.2.2 C T M H)
    (hok : ∀ Z1 Q1 C1 T1 M1 H1, tX tx n 0 0 Z1.1 Q1 → bkR Z1.2.1 Z1.2.2.1 Z1.2.2.2.1 Z1.2.2.2.2 C1 T1 M1 H1 → Φ (k true Z1) (k' Q1 C1 T1 M1 H1)) (hbad : ∀ Z1 e p, Z1.1.1 = e → Z1.1.2.1 = nI p → Φ (k false Z1) (kf e p)) :
    Φ (rLineK tx Z k) (mLineK tx n C T M H Q k' kf) := by
  obtain ⟨b1, b2, b3, ⟨t0, b4, b5, b6⟩, b7, b8, b9, b10, b11, b12, b13, b14, b15, b16⟩ := hb
  have sees : ∀ t t', kb t = kb t' → kwOK (kb t) = true → seeB tx Z.1 (kb t) = isWB Q t' := fun t t' e1 e2 => see_ag h.1 e1 e2
  have s0 := sees 0 28 (by decide +kernel) (kb_ok (by omega) (by omega) (by omega))
  have s1 := sees 1 23 (by decide +kernel) (kb_ok (by omega) (by omega) (by omega))
  have s2 := sees 2 24 (by decide +kernel) (kb_ok (by omega) (by omega) (by omega))
  have s3 := sees 3 25 (by decide +kernel) (kb_ok (by omega) (by omega) (by omega))
  have s4 := sees 4 26 (by decide +kernel) (kb_ok (by omega) (by omega) (by omega))
  have s5 := sees 5 27 (by decide +kernel) (kb_ok (by omega) (by omega) (by omega))
  have s6 := sees 6 29 (by decide +kernel) (kb_ok (by omega) (by omega) (by omega))
  have hnm : ∀ s, s < 4 → Z.1.2.2.2.2.2.1 = 1 → Φ (rNameK tx Z s k) (mThK tx n s (rmI s) C Q (fun Q' B' => k' Q' B' T M H) kf) := fun s hs htk => name_sim ht h htk b1 b2 b3 hs (fun N1 Q1 B1 C1 a1 a2 a3 a4 a5 => by
    obtain ⟨t1, c1, c2, c3⟩ := a5 t0 b4 b5
    exact hok (zB Z N1 B1) Q1 C1 T M H a1 ⟨a2, a3, a4, ⟨t1, c1, c3, rX_mono b6 c2⟩, b7, b8, b9, b10, b11, b12, b13, b14, b15, b16⟩) (fun N1 e p a1 a2 => hbad _ e p a1 a2)
  unfold rLineK mLineK
  rw [s0]
  by_cases c0 : isWB Q 28 = true
  · rw [if_pos c0, if_neg (isWB_law c0 (Or.inl rfl)), if_neg (isWB_law c0 (Or.inr (Or.inl rfl))), if_neg (isWB_law c0 (Or.inr (Or.inr (Or.inl rfl)))), if_neg (isWB_law c0 (Or.inr (Or.inr (Or.inr (Or.inl rfl))))), if_neg (isWB_law c0 (Or.inr (Or.inr (Or.inr (Or.inr rfl))))), if_pos c0]
    exact law_sim ht h (see_tok (s0.trans c0)) b1 b2 b3 b10 b11 b12 (fun N1 Q1 L1 M1 a1 a2 a3 a4 a5 a6 => hok (zL Z N1 L1) Q1 C T M1 H a1 ⟨b1, b2, b3, ⟨t0, b4, b5, b6⟩, b7, b8, b9, a2, a3, a6, b13, b14, b15, b16⟩) (fun N1 e p a1 a2 => hbad _ e p a1 a2)
  · rw [if_neg c0, if_pos h.2.2.1, if_neg c0]
    unfold rLineB
    rw [s1, s2, s3, s4, s5, s6]
    by_cases c1 : isWB Q 23 = true
    · rw [if_pos c1, if_pos c1]; exact hnm 0 (by omega) (see_tok (s1.trans c1))
    · rw [if_neg c1, if_neg c1]
      by_cases c2 : isWB Q 24 = true
      · rw [if_pos c2, if_pos c2]; exact hnm 1 (by omega) (see_tok (s2.trans c2))
      · rw [if_neg c2, if_neg c2]
        by_cases c3 : isWB Q 25 = true
        · rw [if_pos c3, if_pos c3]; exact hnm 2 (by omega) (see_tok (s3.trans c3))
        · rw [if_neg c3, if_neg c3]
          by_cases c4 : isWB Q 26 = true
          · rw [if_pos c4, if_pos c4]; exact hnm 3 (by omega) (see_tok (s4.trans c4))
          · rw [if_neg c4, if_neg c4]
            by_cases c5 : isWB Q 27 = true
            · rw [if_pos c5, if_pos c5]
              exact road_sim ht h (see_tok (s5.trans c5)) b1 b2 b3 b4 b5 b7 b8 b6 b9 (fun N1 Q1 R1 T1 a1 a2 a3 a4 a5 => hok (zR Z N1 R1) Q1 C T1 M H a1 ⟨b1, b2, b3, ⟨t0, b4, b5, a4⟩, a2, a3, a5, b10, b11, b12, b13, b14, b15, b16⟩) hbad
            · rw [if_neg c5, if_neg c5]
              by_cases c6 : isWB Q 29 = true
              · rw [if_pos c6, if_pos c6]
                exact gift_sim ht h (see_tok (s6.trans c6)) b1 b2 b3 b13 b14 b15 b16 (fun N1 Q1 G1 H1 a1 a2 a3 a4 a5 => hok (zG Z N1 G1) Q1 C T M H1 a1 ⟨b1, b2, b3, ⟨t0, b4, b5, b6⟩, b7, b8, b9, b10, b11, b12, a2, a3, a4, a5⟩) hbad
              · rw [if_neg c6, if_neg c6]
                exact hbad _ _ _ (tX_pl h 1).1 (tX_pl h 1).2
theorem tok_ag {kn al : Int32} {N : NT} {Q : QT} (h : tX tx n kn al N Q) : (N.2.2.2.2.2.1 = 0 ↔ Q.2.1 = 1) ∧ (N.2.2.2.2.2.1 = 3 ↔ Q.2.1 = 4) := by
  rcases h.1.2.2.2.2 with ⟨z1, z2⟩ | ⟨z1, z2, -⟩ | ⟨z1, z2, -⟩ | ⟨z1, z2, -⟩ | ⟨z1, z2⟩ <;> rw [z1, z2] <;> decide
theorem bookL_sim {k : Bool → ZT → α} {k' : QT → BT → RT → LT → GT → β} {kf : Int32 → Nat → β} (ht : txB tx)
    (hok : ∀ Z1 Q1 C1 T1 M1 H1, tX tx n 0 0 Z1.1 Q1 → bkR Z1.2.1 Z1.2.2.1 Z1.2.2.2.1 Z1.2.2.2.2 C1 T1 M1 H1 → Φ (k true Z1) (k' Q1 C1 T1 M1 H1)) (hbad : ∀ Z1 e p, Z1.1.1 = e → Z1.1.2.1 = nI p → Φ (k false Z1) (kf e p)) :
    ∀ f Z C T M H Q, tX tx n 0 0 Z.1 Q → bkR Z.2.1 Z.2.2.1 Z.2.2.2.1 Z.2.2.2.2 C T M H → Φ (rReadL tx k f Z) (mBookL tx n k' kf f Q C T M H) := by
  intro f
  induction f with
  | zero =>
    intro Z C T M H Q h hb
    exact hbad _ _ _ (tX_pl h 1).1 (tX_pl h 1).2
  | succ f ih =>
    intro Z C T M H Q h hb
    rw [rReadL, mBookL]
    refine line_sim (k := fun b Z' => if b = true then (if Z'.1.2.2.2.2.2.1 = 0 then k true Z' else if Z'.1.2.2.2.2.2.1 = 3 then rReadL tx k f (zN Z' (stepF tx Z'.1)) else k false (zN Z' (failF Z'.1 1))) else k false Z') ht h hb (fun Z1 Q1 C1 T1 M1 H1 a1 a2 => ?_) (fun Z1 e p a1 a2 => ?_)
    · rw [if_pos rfl]
      obtain ⟨t1, t2⟩ := tok_ag a1
      by_cases c : Z1.1.2.2.2.2.2.1 = 0
      · rw [if_pos c, if_neg (fun z => by have := t2.mpr z; rw [c] at this; exact absurd this (by decide)), if_pos (t1.mp c)]
        exact hok _ _ _ _ _ _ a1 a2
      · rw [if_neg c]
        by_cases c3 : Z1.1.2.2.2.2.2.1 = 3
        · rw [if_pos c3, if_pos (t2.mp c3)]
          exact ih (zN Z1 (stepF tx Z1.1)) _ _ _ _ _ (tX_step ht a1 (Or.inr (Or.inr c3))) a2
        · rw [if_neg c3, if_neg (fun z => c3 (t2.mpr z)), if_neg (fun z => c (t1.mpr z))]
          exact hbad _ _ _ (tX_pl a1 1).1 (tX_pl a1 1).2
    · rw [if_neg (by decide)]
      exact hbad Z1 e p a1 a2
theorem start_tX {N : NT} {al : Bool} {kn so nu : Int32} {p0 : Nat} {wd : Int64} (ht : txB tx) (hn : n ≤ 700) : tX tx n kn (bI al) (stepF tx (rStart N n al kn)) (nxF tx n (0, so, p0, nu, wd)) :=
  ⟨step_ag ht ⟨hn, Nat.le_refl _, Nat.zero_le _⟩ rfl rfl, (step_kn tx _).1, (step_kn tx _).2.1, (step_kn tx _).2.2⟩
theorem bk0 (B : BT) (R : RT) (L : LT) (G : GT) : bkR (bookClear B) (roadsZ R) (lawsC L 0) (giftsZ G) zBT zRT zLT zGT := by
  have z4 : ∀ s, s < 4 → (bookClear B).1 s = 0 := fun s hs => by show zf 0 B.1 4 s = 0; rw [zf, if_pos hs]
  refine ⟨⟨fun s hs => z4 s hs, rfl, fun i hi => absurd hi (Nat.not_lt_zero i)⟩, fun i hi => absurd hi (Nat.not_lt_zero i), ⟨0, 0, 0, 0, z4 0 (by omega), z4 1 (by omega), z4 2 (by omega), z4 3 (by omega), by omega, by omega, by omega, by omega, rfl⟩, ⟨0, z4 0 (by omega), by omega, fun i hi => absurd hi (Nat.not_lt_zero i), fun i hi => absurd hi (Nat.not_lt_zero i), fun i hi => absurd hi (Nat.not_lt_zero i), fun i hi => absurd hi (Nat.not_lt_zero i)⟩, ⟨rfl, fun i hi => absurd hi (Nat.not_lt_zero i)⟩, ⟨Nat.zero_le _, fun i hi => absurd hi (Nat.not_lt_zero i)⟩, zR_i, ⟨rfl, fun i hi => absurd hi (Nat.not_lt_zero i)⟩, fun i hi => absurd hi (Nat.not_lt_zero i), Nat.zero_le _, ⟨rfl, fun i hi => absurd hi (Nat.not_lt_zero i)⟩, ⟨Nat.zero_le _, fun i hi => absurd hi (Nat.not_lt_zero i)⟩, fun i hi => absurd hi (Nat.not_lt_zero i), zG_i⟩
/-- BOOK: a text read on both sides -/
theorem book_sim {k : Bool → ZT → α} {k' : QT → BT → RT → LT → GT → β} {kf : Int32 → Nat → β} (ht : txB tx) (hn : n ≤ 700) {B : BT} {R : RT} {L : LT} {G : GT} {N : NT} {so nu : Int32} {p0 : Nat} {wd : Int64}
    (hok : ∀ Z1 Q1 C1 T1 M1 H1, Z1.1.1 = 0 → bkR Z1.2.1 Z1.2.2.1 Z1.2.2.2.1 Z1.2.2.2.2 C1 T1 M1 H1 → Φ (k true Z1) (k' Q1 C1 T1 M1 H1)) (hbad : ∀ Z1 e p, Z1.1.1 = e → Z1.1.2.1 = nI p → Φ (k false Z1) (kf e p)) :
    Φ (rReadK tx (bz4 B R L G N) n false 0 k) (mBookL tx n k' kf (n + 1) (nxF tx n (0, so, p0, nu, wd)) zBT zRT zLT zGT) := by
  unfold rReadK
  exact bookL_sim ht (fun Z1 Q1 C1 T1 M1 H1 a1 a2 => hok Z1 Q1 C1 T1 M1 H1 a1.2.2.2 a2) hbad (n + 1) _ _ _ _ _ _ (start_tX ht hn) (bk0 B R L G)
theorem lawsL_sim {kn : Int32} {k : Bool → ZT → α} {k' : QT → LT → β} {kf : Int32 → Nat → β} (ht : txB tx) {B C : BT} {R : RT} {G : GT} {L0 : LT} (hB : bAg B C) (hN : bNm B) (hI : bInv B)
    (hok : ∀ N1 Q1 L1 M1, N1.1 = 0 → lAg L1 M1 → lUn L1 → L_n L1 ≤ 24 → lPre L0 L1 → Φ (k true (N1, B, R, L1, G)) (k' Q1 M1)) (hbad : ∀ N1 L1 e p, N1.1 = e → N1.2.1 = nI p → lPre L0 L1 → Φ (k false (N1, B, R, L1, G)) (kf e p)) :
    ∀ f N L M Q, tX tx n kn 1 N Q → lAg L M → lUn L → L_n L ≤ 24 → lPre L0 L → Φ (rReadL tx k f (N, B, R, L, G)) (mLawsL tx n kn C k' kf f Q M) := by
  intro f
  induction f with
  | zero =>
    intro N L M Q h h1 h2 h3 h4
    exact hbad _ _ _ _ (tX_pl h 1).1 (tX_pl h 1).2 h4
  | succ f ih =>
    intro N L M Q h h1 h2 h3 h4
    rw [rReadL, mLawsL]
    unfold rLineK
    have s0 := see_ag h.1 (t := 0) (t' := 28) (by decide +kernel) (kb_ok (by omega) (by omega) (by omega))
    show Φ (if seeB tx N (kb 0) = true then rLawK tx (N, B, R, L, G) _ else if N.2.2.2.2.1 = 0 then _ else _) _
    rw [s0]
    by_cases c0 : isWB Q 28 = true
    · rw [if_pos c0, if_pos c0]
      refine law_sim (Z := (N, B, R, L, G)) ht h (see_tok (s0.trans c0)) hB hN hI h1 h2 h3 (fun N1 Q1 L1 M1 a1 a2 a3 a4 a5 a6 => ?_) (fun N1 e p a1 a2 => ?_)
      · rw [if_pos rfl]
        obtain ⟨t1, t2⟩ := tok_ag a1
        show Φ (if N1.2.2.2.2.2.1 = 0 then k true (N1, B, R, L1, G) else if N1.2.2.2.2.2.1 = 3 then rReadL tx k f (stepF tx N1, B, R, L1, G) else k false (failF N1 1, B, R, L1, G)) _
        by_cases c : N1.2.2.2.2.2.1 = 0
        · rw [if_pos c, if_neg (fun z => by have := t2.mpr z; rw [c] at this; exact absurd this (by decide)), if_pos (t1.mp c)]
          exact hok _ _ _ _ a1.2.2.2 a2 a3 a6 (lPre_t h4 a5)
        · rw [if_neg c]
          by_cases c3 : N1.2.2.2.2.2.1 = 3
          · rw [if_pos c3, if_pos (t2.mp c3)]
            exact ih _ _ _ _ (tX_step ht a1 (Or.inr (Or.inr c3))) a2 a3 a6 (lPre_t h4 a5)
          · rw [if_neg c3, if_neg (fun z => c3 (t2.mpr z)), if_neg (fun z => c (t1.mpr z))]
            exact hbad _ _ _ _ (tX_pl a1 1).1 (tX_pl a1 1).2 (lPre_t h4 a5)
      · rw [if_neg (by decide)]
        exact hbad N1 L e p a1 a2 h4
    · rw [if_neg c0, if_neg c0, if_neg (by rw [h.2.2.1]; decide)]
      show Φ (k false (failF N 1, B, R, L, G)) (kf 1 Q.2.2.1)
      exact hbad _ _ _ _ (tX_pl h 1).1 (tX_pl h 1).2 h4
theorem lPre_r (L : LT) : lPre L L := ⟨Nat.le_refl _, fun _ _ => ⟨rfl, rfl, rfl, rfl, rfl, rfl, rfl⟩⟩
/-- LAWS: later laws read on both sides -/
theorem laws_sim {kn : Int32} {k : Bool → ZT → α} {k' : QT → LT → β} {kf : Int32 → Nat → β} (ht : txB tx) (hn : n ≤ 700) {B C : BT} {R : RT} {L M : LT} {G : GT} {N : NT} {so nu : Int32} {p0 : Nat} {wd : Int64} (hB : bAg B C) (hN : bNm B) (hI : bInv B) (hL : lAg L M) (hu : lUn L) (h24 : L_n L ≤ 24)
    (hok : ∀ N1 Q1 L1 M1, N1.1 = 0 → lAg L1 M1 → lUn L1 → L_n L1 ≤ 24 → lPre L L1 → Φ (k true (N1, B, R, L1, G)) (k' Q1 M1)) (hbad : ∀ N1 L1 e p, N1.1 = e → N1.2.1 = nI p → lPre L L1 → Φ (k false (N1, B, R, L1, G)) (kf e p)) :
    Φ (rReadK tx (N, B, R, L, G) n true kn k) (mLawsL tx n kn C k' kf (n + 1) (nxF tx n (0, so, p0, nu, wd)) M) := by
  unfold rReadK
  exact lawsL_sim ht hB hN hI hok hbad (n + 1) _ L M _ (start_tX ht hn) hL hu h24 (lPre_r L)
end LINE
/-! ===== the reference's reading, as a value ===== -/
section NAT
variable {α β : Type} (h : α → β) {tx : Nat → Int32} {n : Nat} {kf : Int32 → Nat → α}
theorem tdK_nat (r : Int32 ⊕ (Int32 × QT)) (Q : QT) (k : Int32 → QT → α) : h (tdK r Q k kf) = tdK r Q (fun v Q' => h (k v Q')) (fun e p => h (kf e p)) := by cases r <;> rfl
theorem nwK_nat (Q : QT) (t : Nat) (k : QT → α) : h (nwK tx n Q t k kf) = nwK tx n Q t (fun Q' => h (k Q')) (fun e p => h (kf e p)) := by
  unfold nwK
  split <;> rfl
theorem mThK_nat (s : Nat) (rm : Int32) (B : BT) (Q : QT) (k : QT → BT → α) : h (mThK tx n s rm B Q k kf) = mThK tx n s rm B Q (fun Q' B' => h (k Q' B')) (fun e p => h (kf e p)) := by
  unfold mThK
  split
  · rfl
  · split
    · split <;> rfl
    · rfl
theorem mLaw3_nat (kn : Int32) (L : LT) (ld : Int32) (b : Bool) (kd of si : Int32) (Q : QT) (k : QT → LT → α) : h (mLaw3 tx n kn L ld b kd of si Q k kf) = mLaw3 tx n kn L ld b kd of si Q (fun Q' L' => h (k Q' L')) (fun e p => h (kf e p)) := by
  unfold mLaw3
  split
  · exact tdK_nat h _ _ _
  · rfl
theorem mLaw2_nat (kn : Int32) (B : BT) (L : LT) (ld : Int32) (b : Bool) (Q : QT) (k : QT → LT → α) : h (mLaw2 tx n kn B L ld b Q k kf) = mLaw2 tx n kn B L ld b Q (fun Q' L' => h (k Q' L')) (fun e p => h (kf e p)) := by
  unfold mLaw2
  simp only [tdK_nat h, nwK_nat h, mLaw3_nat h]
theorem mLawK_nat (kn : Int32) (B : BT) (L : LT) (Q : QT) (k : QT → LT → α) : h (mLawK tx n kn B L Q k kf) = mLawK tx n kn B L Q (fun Q' L' => h (k Q' L')) (fun e p => h (kf e p)) := by
  unfold mLawK
  simp only [apply_ite h, tdK_nat h, mLaw2_nat h]
theorem mPostsK_nat (B : BT) (r : Nat) (k : QT → RT → α) : ∀ f R Q, h (mPostsK tx n B r k kf f R Q) = mPostsK tx n B r (fun Q' R' => h (k Q' R')) (fun e p => h (kf e p)) f R Q
  | 0, R, Q => by
    rw [mPostsK, mPostsK]
    split <;> rfl
  | f + 1, R, Q => by
    have ih := mPostsK_nat B r k f
    rw [mPostsK, mPostsK]
    simp only [apply_ite h, tdK_nat h, nwK_nat h, ih]
theorem mRoadK_nat (B : BT) (R : RT) (Q : QT) (k : QT → RT → α) : h (mRoadK tx n B R Q k kf) = mRoadK tx n B R Q (fun Q' R' => h (k Q' R')) (fun e p => h (kf e p)) := by
  unfold mRoadK mRoad2
  simp only [apply_ite h, tdK_nat h, nwK_nat h, mPostsK_nat h]
theorem mCaseH_nat (B : BT) (G : GT) (q : Nat) (s : Int32) (Q : QT) (k : QT → GT → α) : h (mCaseH tx n B G q s Q k kf) = mCaseH tx n B G q s Q (fun Q' G' => h (k Q' G')) (fun e p => h (kf e p)) := by
  unfold mCaseH
  simp only [tdK_nat h, nwK_nat h]
theorem mCaseK_nat (B : BT) (G : GT) (q : Nat) (Q : QT) (k : QT → GT → α) : h (mCaseK tx n B G q Q k kf) = mCaseK tx n B G q Q (fun Q' G' => h (k Q' G')) (fun e p => h (kf e p)) := by
  unfold mCaseK
  simp only [apply_ite h, tdK_nat h, mCaseH_nat h]
theorem mCasesK_nat (B : BT) (g : Nat) (k : QT → GT → α) : ∀ f G Q, h (mCasesK tx n B g k kf f G Q) = mCasesK tx n B g (fun Q' G' => h (k Q' G')) (fun e p => h (kf e p)) f G Q
  | 0, G, Q => by
    rw [mCasesK, mCasesK]
    split <;> rfl
  | f + 1, G, Q => by
    have ih := mCasesK_nat B g k f
    rw [mCasesK, mCasesK]
    simp only [apply_ite h, mCaseK_nat h, ih]
theorem mGiftK_nat (B : BT) (G : GT) (Q : QT) (k : QT → GT → α) : h (mGiftK tx n B G Q k kf) = mGiftK tx n B G Q (fun Q' G' => h (k Q' G')) (fun e p => h (kf e p)) := by
  unfold mGiftK
  simp only [apply_ite h, tdK_nat h, nwK_nat h, mCasesK_nat h]
theorem mLineK_nat (B : BT) (R : RT) (L : LT) (G : GT) (Q : QT) (k : QT → BT → RT → LT → GT → α) : h (mLineK tx n B R L G Q k kf) = mLineK tx n B R L G Q (fun Q' B' R' L' G' => h (k Q' B' R' L' G')) (fun e p => h (kf e p)) := by
  unfold mLineK
  simp only [apply_ite h, mThK_nat h, mRoadK_nat h, mLawK_nat h, mGiftK_nat h]
theorem mBookL_nat (k : QT → BT → RT → LT → GT → α) : ∀ f Q B R L G, h (mBookL tx n k kf f Q B R L G) = mBookL tx n (fun Q' B' R' L' G' => h (k Q' B' R' L' G')) (fun e p => h (kf e p)) f Q B R L G
  | 0, Q, B, R, L, G => rfl
  | f + 1, Q, B, R, L, G => by
    have ih := mBookL_nat k f
    rw [mBookL, mBookL]
    simp only [apply_ite h, mLineK_nat h, ih]
theorem mLawsL_nat (kn : Int32) (B : BT) (k : QT → LT → α) : ∀ f Q L, h (mLawsL tx n kn B k kf f Q L) = mLawsL tx n kn B (fun Q' L' => h (k Q' L')) (fun e p => h (kf e p)) f Q L
  | 0, Q, L => rfl
  | f + 1, Q, L => by
    have ih := mLawsL_nat kn B k f
    rw [mLawsL, mLawsL]
    simp only [apply_ite h, mLawK_nat h, ih]
end NAT
abbrev bRes : Type := (QT × BT × RT × LT × GT) ⊕ (Int32 × Nat)
def mBres (tx : Nat → Int32) (n f : Nat) (Q : QT) (B : BT) (R : RT) (L : LT) (G : GT) : bRes := mBookL tx n (fun Q B R L G => .inl (Q, B, R, L, G)) (fun e p => .inr (e, p)) f Q B R L G
def mLres (tx : Nat → Int32) (n : Nat) (kn : Int32) (B : BT) (f : Nat) (Q : QT) (L : LT) : (QT × LT) ⊕ (Int32 × Nat) := mLawsL tx n kn B (fun Q L => .inl (Q, L)) (fun e p => .inr (e, p)) f Q L
theorem mBres_l {tx : Nat → Int32} {n f : Nat} {Q : QT} {B : BT} {R : RT} {L : LT} {G : GT} {Q' : QT} {B' : BT} {R' : RT} {L' : LT} {G' : GT} (e : mBres tx n f Q B R L G = .inl (Q', B', R', L', G')) {k : QT → BT → RT → LT → GT → Prop} {kf : Int32 → Nat → Prop} (h : k Q' B' R' L' G') : mBookL tx n k kf f Q B R L G := by
  have := mBookL_nat (fun r : bRes => match r with | .inl (Q, B, R, L, G) => k Q B R L G | .inr (e, p) => kf e p) (tx := tx) (n := n) (kf := fun e p => .inr (e, p)) (fun Q B R L G => .inl (Q, B, R, L, G)) f Q B R L G
  rw [← this]
  show (match mBres tx n f Q B R L G with | .inl (Q, B, R, L, G) => k Q B R L G | .inr (e, p) => kf e p)
  rw [e]
  exact h
theorem mBres_r {tx : Nat → Int32} {n f : Nat} {Q : QT} {B : BT} {R : RT} {L : LT} {G : GT} {x : Int32} {y : Nat} (e : mBres tx n f Q B R L G = .inr (x, y)) {k : QT → BT → RT → LT → GT → Prop} {kf : Int32 → Nat → Prop} (h : kf x y) : mBookL tx n k kf f Q B R L G := by
  have := mBookL_nat (fun r : bRes => match r with | .inl (Q, B, R, L, G) => k Q B R L G | .inr (e, p) => kf e p) (tx := tx) (n := n) (kf := fun e p => .inr (e, p)) (fun Q B R L G => .inl (Q, B, R, L, G)) f Q B R L G
  rw [← this]
  show (match mBres tx n f Q B R L G with | .inl (Q, B, R, L, G) => k Q B R L G | .inr (e, p) => kf e p)
  rw [e]
  exact h
theorem mLres_l {tx : Nat → Int32} {n : Nat} {kn : Int32} {B : BT} {f : Nat} {Q : QT} {L : LT} {Q' : QT} {L' : LT} (e : mLres tx n kn B f Q L = .inl (Q', L')) {k : QT → LT → Prop} {kf : Int32 → Nat → Prop} (h : k Q' L') : mLawsL tx n kn B k kf f Q L := by
  have := mLawsL_nat (fun r : (QT × LT) ⊕ (Int32 × Nat) => match r with | .inl (Q, L) => k Q L | .inr (e, p) => kf e p) (tx := tx) (n := n) (kf := fun e p => .inr (e, p)) kn B (fun Q L => .inl (Q, L)) f Q L
  rw [← this]
  show (match mLres tx n kn B f Q L with | .inl (Q, L) => k Q L | .inr (e, p) => kf e p)
  rw [e]
  exact h
theorem mLres_r {tx : Nat → Int32} {n : Nat} {kn : Int32} {B : BT} {f : Nat} {Q : QT} {L : LT} {x : Int32} {y : Nat} (e : mLres tx n kn B f Q L = .inr (x, y)) {k : QT → LT → Prop} {kf : Int32 → Nat → Prop} (h : kf x y) : mLawsL tx n kn B k kf f Q L := by
  have := mLawsL_nat (fun r : (QT × LT) ⊕ (Int32 × Nat) => match r with | .inl (Q, L) => k Q L | .inr (e, p) => kf e p) (tx := tx) (n := n) (kf := fun e p => .inr (e, p)) kn B (fun Q L => .inl (Q, L)) f Q L
  rw [← this]
  show (match mLres tx n kn B f Q L with | .inl (Q, L) => k Q L | .inr (e, p) => kf e p)
  rw [e]
  exact h

