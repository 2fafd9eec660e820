/-! ===== reading: names, numbers, laws on both sides ===== -/
def bAg (B C : BT) : Prop := (∀ s, s < 4 → B.1 s = C.1 s) ∧ B.2.2.2.2 = C.2.2.2.2 ∧ ∀ i, i < B.2.2.2.2 → B.2.1 i = C.2.1 i ∧ B.2.2.1 i = C.2.2.1 i ∧ B.2.2.2.1 i = C.2.2.2.1 i
def bNm (B : BT) : Prop := ∀ i, i < B.2.2.2.2 → ∃ s k t, s < 4 ∧ B.2.2.1 i = nI s ∧ B.2.2.2.1 i = nI k ∧ B.1 s = nI t ∧ k < t ∧ t ≤ 8
theorem fstO_cg {P Q : Nat → Bool} : ∀ n s, (∀ i, s ≤ i → i < s + n → P i = Q i) → fstO P s n = fstO Q s n
  | 0, _, _ => rfl
  | n + 1, s, h => by rw [fstO, fstO, h s (Nat.le_refl _) (by omega), fstO_cg n (s + 1) (fun i h1 h2 => h i (by omega) (by omega))]
theorem step_kn (tx : Nat → Int32) (N : NT) : (stepF tx N).2.2.2.1 = N.2.2.2.1 ∧ (stepF tx N).2.2.2.2.1 = N.2.2.2.2.1 ∧ (stepF tx N).1 = N.1 := by
  unfold stepF tokF
  split
  · split
    · exact ⟨rfl, rfl, rfl⟩
    · split
      · exact ⟨rfl, rfl, rfl⟩
      · exact ⟨rfl, rfl, rfl⟩
  · exact ⟨rfl, rfl, rfl⟩
def tX (tx : Nat → Int32) (n : Nat) (kn al : Int32) (N : NT) (Q : QT) : Prop := tR tx n N Q ∧ N.2.2.2.1 = kn ∧ N.2.2.2.2.1 = al ∧ N.1 = 0
theorem tX_step {tx : Nat → Int32} {n : Nat} {kn al : Int32} (ht : txB tx) {N : NT} {Q : QT} (h : tX tx n kn al N Q) (hk : N.2.2.2.2.2.1 = 1 ∨ N.2.2.2.2.2.1 = 2 ∨ N.2.2.2.2.2.1 = 3) : tX tx n kn al (stepF tx N) (nxF tx n Q) :=
  ⟨tR_step ht h.1 hk, (step_kn tx N).1.trans h.2.1, (step_kn tx N).2.1.trans h.2.2.1, (step_kn tx N).2.2.trans h.2.2.2⟩
theorem isNm_tok {tx : Nat → Int32} {N : NT} (h : isNm tx N = true) : N.2.2.2.2.2.1 = 1 := by
  unfold isNm at h
  rw [Bool.and_eq_true] at h
  exact of_decide_eq_true h.1
theorem see_tok {tx : Nat → Int32} {N : NT} {l : List Int32} (h : seeB tx N l = true) : N.2.2.2.2.2.1 = 1 := by
  unfold seeB at h
  rw [Bool.and_eq_true] at h
  exact of_decide_eq_true h.1
theorem use_sim {tx : Nat → Int32} {n : Nat} {kn al : Int32} (ht : txB tx) {N : NT} {Q : QT} (h : tX tx n kn al N Q) {B C : BT} (hB : bAg B C) (hN : bNm B) {s ts : Nat} (hs : s < 4) (hts : B.1 s = nI ts) (ht8 : ts ≤ 8) :
    (∃ e, useF tx B N (nI s) = (-1, failF N e) ∧ tdF tx n C Q (nI s) = .inl e) ∨ ∃ k, useF tx B N (nI s) = (nI k, stepF tx N) ∧ tdF tx n C Q (nI s) = .inr (nI k, nxF tx n Q) ∧ k < ts ∧ tX tx n kn al (stepF tx N) (nxF tx n Q) := by
  unfold useF tdF
  rw [← name_ag h.1]
  by_cases c : isNm tx N = true
  · rw [if_pos c, if_pos c]
    have hw : N.2.2.2.2.2.2.2.2.1 = Q.2.2.2.2 := by
      have h1 := isNm_tok c
      rcases h.1.2.2.2.2 with ⟨z, -⟩ | ⟨-, -, -, z, -⟩ | ⟨z, -⟩ | ⟨z, -⟩ | ⟨z, -⟩
      · rw [z] at h1; exact absurd h1 (by decide)
      · exact z
      · rw [z] at h1; exact absurd h1 (by decide)
      · rw [z] at h1; exact absurd h1 (by decide)
      · rw [z] at h1; exact absurd h1 (by decide)
    rw [← hB.2.1, ← fstO_cg (P := fun i => decide (B.2.1 i = N.2.2.2.2.2.2.2.2.1)) (Q := fun i => decide (C.2.1 i = Q.2.2.2.2)) B.2.2.2.2 0 (fun i _ hi => by rw [(hB.2.2 i (by omega)).1, hw])]
    cases hf : fstO (fun i => decide (B.2.1 i = N.2.2.2.2.2.2.2.2.1)) 0 B.2.2.2.2 with
    | none => exact Or.inl ⟨2, rfl, rfl⟩
    | some i =>
      have hi := (fstO_lt _ _ _ hf).2
      obtain ⟨e1, e2, e3⟩ := hB.2.2 i (by omega)
      obtain ⟨s', k, t, q1, q2, q3, q4, q5, q6⟩ := hN i (by omega)
      show (∃ e, (if B.2.2.1 i = nI s then (B.2.2.2.1 i, stepF tx N) else (-1, failF N 2)) = (-1, failF N e) ∧ (if C.2.2.1 i = nI s then (.inr (C.2.2.2.1 i, nxF tx n Q) : Int32 ⊕ (Int32 × QT)) else .inl 2) = .inl e) ∨ ∃ k, (if B.2.2.1 i = nI s then (B.2.2.2.1 i, stepF tx N) else (-1, failF N 2)) = (nI k, stepF tx N) ∧ (if C.2.2.1 i = nI s then (.inr (C.2.2.2.1 i, nxF tx n Q) : Int32 ⊕ (Int32 × QT)) else .inl 2) = .inr (nI k, nxF tx n Q) ∧ k < ts ∧ tX tx n kn al (stepF tx N) (nxF tx n Q)
      rw [← e2, ← e3]
      by_cases cs : B.2.2.1 i = nI s
      · rw [if_pos cs, if_pos cs]
        rw [q2] at cs
        have := nI_inj (by omega) (by omega) cs
        subst this
        rw [q4] at hts
        have := nI_inj (by omega) (by omega) hts
        subst this
        exact Or.inr ⟨k, by rw [q3], by rw [q3], q5, tX_step ht h (Or.inl (isNm_tok c))⟩
      · rw [if_neg cs, if_neg cs]
        exact Or.inl ⟨2, rfl, rfl⟩
  · rw [if_neg c, if_neg c]
    exact Or.inl ⟨1, rfl, rfl⟩
theorem num_sim {tx : Nat → Int32} {n : Nat} {kn al : Int32} (ht : txB tx) {N : NT} {Q : QT} (h : tX tx n kn al N Q) (lo hi : Int32) :
    (∃ e, numF tx N lo hi = (-1, failF N e) ∧ whF tx n Q lo hi = .inl e) ∨ ∃ v, numF tx N lo hi = (v, stepF tx N) ∧ whF tx n Q lo hi = .inr (v, nxF tx n Q) ∧ lo ≤ v ∧ v ≤ hi ∧ tX tx n kn al (stepF tx N) (nxF tx n Q) := by
  unfold numF whF
  by_cases c : N.2.2.2.2.2.1 = 2
  · have hw : Q.2.1 = 3 ∧ N.2.2.2.2.2.2.2.2.2 = Q.2.2.2.1 := by
      rcases h.1.2.2.2.2 with ⟨z, -⟩ | ⟨z, -⟩ | ⟨-, z1, -, z2⟩ | ⟨z, -⟩ | ⟨z, -⟩
      · rw [z] at c; exact absurd c (by decide)
      · rw [z] at c; exact absurd c (by decide)
      · exact ⟨z1, z2⟩
      · rw [z] at c; exact absurd c (by decide)
      · rw [z] at c; exact absurd c (by decide)
    rw [if_pos c, if_pos hw.1, ← hw.2]
    by_cases b : lo ≤ N.2.2.2.2.2.2.2.2.2 ∧ N.2.2.2.2.2.2.2.2.2 ≤ hi
    · rw [if_neg (in_nx b), if_pos (inB_iff.mpr b)]
      exact Or.inr ⟨_, rfl, rfl, b.1, b.2, tX_step ht h (Or.inr (Or.inl c))⟩
    · rw [if_pos (in_ex b), if_neg (fun z => b (inB_iff.mp z))]
      exact Or.inl ⟨4, rfl, rfl⟩
  · have hq : ¬ Q.2.1 = 3 := by
      rcases h.1.2.2.2.2 with ⟨-, z⟩ | ⟨-, z, -⟩ | ⟨z, -⟩ | ⟨-, z, -⟩ | ⟨-, z⟩
      · rw [z]; decide
      · rw [z]; decide
      · exact absurd z c
      · rw [z]; decide
      · rw [z]; decide
    rw [if_neg c, if_neg hq]
    exact Or.inl ⟨1, rfl, rfl⟩
theorem tX_pl {tx : Nat → Int32} {n : Nat} {kn al : Int32} {N : NT} {Q : QT} (h : tX tx n kn al N Q) (e : Int32) : (failF N e).1 = e ∧ (failF N e).2.1 = nI Q.2.2.1 := ⟨rfl, by show nI N.2.2.2.2.2.2.1 = _; rw [h.1.2.2.2.1]⟩
theorem kwUse_sim {α β : Type} {tx : Nat → Int32} {n : Nat} {kn al : Int32} (ht : txB tx) {N : NT} {Q : QT} (h : tX tx n kn al N Q) {B C : BT} (hB : bAg B C) (hN : bNm B) {s ts : Nat} (hs : s < 4) (hts : B.1 s = nI ts) (ht8 : ts ≤ 8) {t t' : Nat} (hkk : kb t = kb t') (hkw : kwOK (kb t) = true) {v : Int32} (hv : ¬ v = -1) (K : Int32 → NT → α) (K' : Int32 → QT → β) (kf : Int32 → Nat → β) :
    (∃ e p N', kwUseK tx B t (nI s) (v, N) K = K (-1) N' ∧ N'.1 = e ∧ N'.2.1 = nI p ∧ nwK tx n Q t' (fun Q4 => tdK (tdF tx n C Q4 (nI s)) Q4 K' kf) kf = kf e p) ∨
    ∃ k N' Q', kwUseK tx B t (nI s) (v, N) K = K (nI k) N' ∧ tX tx n kn al N' Q' ∧ k < ts ∧ nwK tx n Q t' (fun Q4 => tdK (tdF tx n C Q4 (nI s)) Q4 K' kf) kf = K' (nI k) Q' := by
  unfold kwUseK nwK
  rw [if_neg hv]
  show (∃ e p N', (if seeB tx N (kb t) = true then K (useF tx B (stepF tx N) (nI s)).1 (useF tx B (stepF tx N) (nI s)).2 else K (-1) (failF N 1)) = K (-1) N' ∧ _) ∨ ∃ k N' Q', (if seeB tx N (kb t) = true then K (useF tx B (stepF tx N) (nI s)).1 (useF tx B (stepF tx N) (nI s)).2 else K (-1) (failF N 1)) = K (nI k) N' ∧ _
  rw [← see_ag h.1 hkk hkw]
  by_cases c : seeB tx N (kb t) = true
  · rw [if_pos c, if_pos c]
    dsimp only
    have h2 := tX_step ht h (Or.inl (see_tok c))
    rcases use_sim ht h2 hB hN hs hts ht8 with ⟨e, u1, u2⟩ | ⟨k, u1, u2, u3, u4⟩
    · rw [u1, u2, tdK_l]
      exact Or.inl ⟨e, _, _, rfl, (tX_pl h2 e).1, (tX_pl h2 e).2, rfl⟩
    · rw [u1, u2, tdK_r]
      exact Or.inr ⟨k, _, _, rfl, u4, u3, rfl⟩
  · rw [if_neg c, if_neg c]
    exact Or.inl ⟨1, _, _, rfl, (tX_pl h 1).1, (tX_pl h 1).2, rfl⟩
theorem kwNum_sim {α β : Type} {tx : Nat → Int32} {n : Nat} {kn al : Int32} (ht : txB tx) {N : NT} {Q : QT} (h : tX tx n kn al N Q) {t t' : Nat} (hkk : kb t = kb t') (hkw : kwOK (kb t) = true) {v : Int32} (hv : ¬ v = -1) (lo hi : Int32) (K : Int32 → NT → α) (K' : Int32 → QT → β) (kf : Int32 → Nat → β) :
    (∃ e p N', kwNumK tx t lo hi v N K = K (-1) N' ∧ N'.1 = e ∧ N'.2.1 = nI p ∧ nwK tx n Q t' (fun Q4 => tdK (whF tx n Q4 lo hi) Q4 K' kf) kf = kf e p) ∨
    ∃ x N' Q', kwNumK tx t lo hi v N K = K x N' ∧ tX tx n kn al N' Q' ∧ lo ≤ x ∧ x ≤ hi ∧ nwK tx n Q t' (fun Q4 => tdK (whF tx n Q4 lo hi) Q4 K' kf) kf = K' x Q' := by
  unfold kwNumK nwK
  rw [if_neg hv, ← see_ag h.1 hkk hkw]
  by_cases c : seeB tx N (kb t) = true
  · rw [if_pos c, if_pos c]
    dsimp only
    have h2 := tX_step ht h (Or.inl (see_tok c))
    rcases num_sim ht h2 lo hi with ⟨e, u1, u2⟩ | ⟨k, u1, u2, u3, u4, u5⟩
    · rw [u1, u2, tdK_l]
      exact Or.inl ⟨e, _, _, rfl, (tX_pl h2 e).1, (tX_pl h2 e).2, rfl⟩
    · rw [u1, u2, tdK_r]
      exact Or.inr ⟨k, _, _, rfl, u5, u3, u4, rfl⟩
  · rw [if_neg c, if_neg c]
    exact Or.inl ⟨1, _, _, rfl, (tX_pl h 1).1, (tX_pl h 1).2, rfl⟩
theorem kwNum_m1 {α : Type} (tx : Nat → Int32) (t : Nat) (lo hi : Int32) (N : NT) (K : Int32 → NT → α) : kwNumK tx t lo hi (-1) N K = K (-1) N := by unfold kwNumK; rw [if_pos rfl]
theorem ge0_nm1 {x lo : Int32} (h0 : 0 ≤ lo.toInt) (h : lo ≤ x) : ¬ x = -1 := fun z => by
  rw [z, Int32.le_iff_toInt_le, show (-1 : Int32).toInt = -1 by decide] at h
  omega
theorem kb_ok {t : Nat} (h : t < 44) (h1 : t ≠ 21) (h2 : t ≠ 22) : kwOK (kb t) = true := by
  rcases kw_all ⟨t, h⟩ with z | z | z
  · exact absurd z h1
  · exact absurd z h2
  · exact z
/-- a law's line -/
theorem lAg_add {L M : LT} (h : lAg L M) (a b c : Int32) (t : Bool) (s u v k : Int32) (huv : u = v ∨ (u = 999 ∧ v = 1000000)) : lAg (lawAdd L a b c t s u k) (lawAdd M a b c t s v k) := by
  have hn : L_n L = L_n M := h.1
  refine ⟨by show L_n L + 1 = L_n M + 1; rw [hn], fun i hi => ?_⟩
  have hi' : i < L_n L + 1 := hi
  show upd L.1 (L_n L) a i = upd M.1 (L_n M) a i ∧ upd L.2.1 (L_n L) b i = upd M.2.1 (L_n M) b i ∧ upd L.2.2.1 (L_n L) c i = upd M.2.2.1 (L_n M) c i ∧ upd L.2.2.2.1 (L_n L) (bI t) i = upd M.2.2.2.1 (L_n M) (bI t) i ∧ upd L.2.2.2.2.1 (L_n L) s i = upd M.2.2.2.2.1 (L_n M) s i ∧ (upd L.2.2.2.2.2.1 (L_n L) u i = upd M.2.2.2.2.2.1 (L_n M) v i ∨ (upd L.2.2.2.2.2.1 (L_n L) u i = 999 ∧ upd M.2.2.2.2.2.1 (L_n M) v i = 1000000)) ∧ upd L.2.2.2.2.2.2.1 (L_n L) k i = upd M.2.2.2.2.2.2.1 (L_n M) k i
  rw [← hn]
  by_cases e : i = L_n L
  · subst e
    simp only [upd_eq]
    exact ⟨trivial, trivial, trivial, trivial, trivial, huv, trivial⟩
  · have := h.2 i (by omega)
    simp only [upd_ne e]
    exact this
theorem lPre_add (L : LT) (a b c : Int32) (t : Bool) (s u k : Int32) : lPre L (lawAdd L a b c t s u k) := ⟨Nat.le_succ _, fun i hi => by
  have e : i ≠ L_n L := by omega
  refine ⟨upd_ne e, upd_ne e, upd_ne e, upd_ne e, upd_ne e, upd_ne e, upd_ne e⟩⟩
theorem lUn_add {L : LT} (h : lUn L) (a b c : Int32) (t : Bool) (s u k : Int32) (hu : u ≤ 999) : lUn (lawAdd L a b c t s u k) := fun i hi => by
  show upd L.2.2.2.2.2.1 (L_n L) u i ≤ 999
  have hi' : i < L_n L + 1 := hi
  by_cases e : i = L_n L
  · subst e; rw [upd_eq]; exact hu
  · rw [upd_ne e]; exact h i (by omega)
section LAW
variable {α β : Type} {Φ : α → β → Prop} {tx : Nat → Int32} {n : Nat} {kn al : Int32} {Z : ZT} {C : BT} {M : LT} {k : Bool → ZT → α} {k' : QT → LT → β} {kf : Int32 → Nat → β}
theorem law3_sim (ht : txB tx) {N : NT} {Q : QT} (h : tX tx n kn al N Q) (hL : lAg Z.2.2.2.1 M) (hu : lUn Z.2.2.2.1)
    (hok : ∀ N1 Q1 L1 M1, tX tx n kn al N1 Q1 → lAg L1 M1 → lUn L1 → L_n L1 = L_n Z.2.2.2.1 + 1 → lPre Z.2.2.2.1 L1 → Φ (k true (zL Z N1 L1)) (k' Q1 M1)) (hbad : ∀ N1 e p, N1.1 = e → N1.2.1 = nI p → Φ (k false (zN Z N1)) (kf e p)) (ld : Int32) (ac : Bool) (kd o si : Int32) (h0 : 0 ≤ si) :
    Φ (rLaw3 tx Z ld ac kd o si N k) (mLaw3 tx n kn M ld ac kd o si Q k' kf) := by
  have h0' := Int32.le_iff_toInt_le.mp h0
  rw [I_0] at h0'
  have hsi : ¬ si = -1 := ge0_nm1 (lo := 0) (by decide) h0
  unfold rLaw3 mLaw3
  rw [if_neg hsi, see_ag h.1 (t' := 31) (by decide +kernel) (kb_ok (by omega) (by omega) (by omega))]
  by_cases c : isWB Q 31 = true
  · rw [if_pos c, if_pos c]
    have htk : N.2.2.2.2.2.1 = 1 := see_tok (l := kb 8) (by rw [see_ag h.1 (t' := 31) (by decide +kernel) (kb_ok (by omega) (by omega) (by omega))]; exact c)
    have h2 := tX_step ht h (Or.inl htk)
    rcases num_sim ht h2 si 999 with ⟨e, u1, u2⟩ | ⟨v, u1, u2, u3, u4, u5⟩
    · rw [u1, u2, tdK_l]
      unfold rLaw4
      rw [if_pos rfl]
      exact hbad _ _ _ (tX_pl h2 e).1 (tX_pl h2 e).2
    · rw [u1, u2, tdK_r]
      unfold rLaw4
      rw [if_neg (ge0_nm1 h0' u3)]
      show Φ (k true (zL Z (stepF tx (stepF tx N)) (lawAdd Z.2.2.2.1 ld kd o ac si v (stepF tx (stepF tx N)).2.2.2.1))) _
      rw [u5.2.1]
      exact hok _ _ _ _ u5 (lAg_add hL _ _ _ _ _ _ _ _ (Or.inl rfl)) (lUn_add hu _ _ _ _ _ _ _ u4) rfl (lPre_add _ _ _ _ _ _ _ _)
  · rw [if_neg c, if_neg c]
    unfold rLaw4
    rw [if_neg (show ¬ (999 : Int32) = -1 by decide)]
    show Φ (k true (zL Z N (lawAdd Z.2.2.2.1 ld kd o ac si 999 N.2.2.2.1))) _
    rw [h.2.1]
    exact hok _ _ _ _ h (lAg_add hL _ _ _ _ _ _ _ _ (Or.inr ⟨rfl, rfl⟩)) (lUn_add hu _ _ _ _ _ _ _ (Int32.le_refl _)) rfl (lPre_add _ _ _ _ _ _ _ _)
theorem law2_sim (ht : txB tx) {N : NT} {Q : QT} (h : tX tx n kn al N Q) (hB : bAg Z.2.1 C) (hN : bNm Z.2.1) (hI : bInv Z.2.1) (hL : lAg Z.2.2.2.1 M) (hu : lUn Z.2.2.2.1)
    (hok : ∀ N1 Q1 L1 M1, tX tx n kn al N1 Q1 → lAg L1 M1 → lUn L1 → L_n L1 = L_n Z.2.2.2.1 + 1 → lPre Z.2.2.2.1 L1 → Φ (k true (zL Z N1 L1)) (k' Q1 M1)) (hbad : ∀ N1 e p, N1.1 = e → N1.2.1 = nI p → Φ (k false (zN Z N1)) (kf e p)) (ld : Int32) (ac : Bool) :
    Φ (rLaw2 tx Z ld ac (useF tx Z.2.1 N 3) k) (mLaw2 tx n kn C M ld ac Q k' kf) := by
  obtain ⟨t0, t1, t2, t3, i0, i1, i2, i3, j0, j1, j2, j3, -⟩ := hI
  unfold rLaw2 mLaw2
  rcases use_sim ht h hB hN (s := 3) (by omega) i3 (by omega) with ⟨e, u1, u2⟩ | ⟨kd, u1, u2, u3, u4⟩
  · rw [show (3 : Int32) = nI 3 from rfl, u1, u2, tdK_l]
    unfold kwUseK
    rw [if_pos rfl]
    dsimp only
    rw [kwNum_m1]
    unfold rLaw3
    rw [if_pos rfl]
    exact hbad _ _ _ (tX_pl h e).1 (tX_pl h e).2
  · rw [show (3 : Int32) = nI 3 from rfl, u1, u2, tdK_r]
    rcases kwUse_sim (α := α) (β := β) ht u4 hB hN (s := 2) (by omega) i2 (by omega) (t := 12) (t' := 38) (by decide +kernel) (kb_ok (by omega) (by omega) (by omega)) (v := nI kd) (nI_nm1 (by omega)) (fun o N => kwNumK tx 13 0 999 o N (fun si N' => rLaw3 tx Z ld ac (nI kd) o si N' k)) (fun of Q5 => nwK tx n Q5 39 (fun Q6 => tdK (whF tx n Q6 0 999) Q6 (fun si Q7 => mLaw3 tx n kn M ld ac (nI kd) of si Q7 k' kf) kf) kf) kf with ⟨e, p, N', w1, w2, w3, w4⟩ | ⟨o, N', Q', w1, w2, w3, w4⟩
    · rw [show (2 : Int32) = nI 2 from rfl, w1, w4]
      rw [kwNum_m1]
      unfold rLaw3
      rw [if_pos rfl]
      exact hbad _ _ _ w2 w3
    · rw [show (2 : Int32) = nI 2 from rfl, w1, w4]
      rcases kwNum_sim (α := α) (β := β) ht w2 (t := 13) (t' := 39) (by decide +kernel) (kb_ok (by omega) (by omega) (by omega)) (v := nI o) (nI_nm1 (by omega)) 0 999 (fun si N' => rLaw3 tx Z ld ac (nI kd) (nI o) si N' k) (fun si Q7 => mLaw3 tx n kn M ld ac (nI kd) (nI o) si Q7 k' kf) kf with ⟨e, p, N2, y1, y2, y3, y4⟩ | ⟨si, N2, Q2, y1, y2, y3, y4, y5⟩
      · rw [y1, y4]
        unfold rLaw3
        rw [if_pos rfl]
        exact hbad _ _ _ y2 y3
      · rw [y1, y5]
        exact law3_sim ht y2 hL hu hok hbad ld ac (nI kd) (nI o) si y3
theorem law_sim (ht : txB tx) {Q : QT} (h : tX tx n kn al Z.1 Q) (htk : Z.1.2.2.2.2.2.1 = 1) (hB : bAg Z.2.1 C) (hN : bNm Z.2.1) (hI : bInv Z.2.1) (hL : lAg Z.2.2.2.1 M) (hu : lUn Z.2.2.2.1) (h24 : L_n Z.2.2.2.1 ≤ 24)
    (hok : ∀ N1 Q1 L1 M1, tX tx n kn al N1 Q1 → lAg L1 M1 → lUn L1 → L_n L1 = L_n Z.2.2.2.1 + 1 → lPre Z.2.2.2.1 L1 → L_n L1 ≤ 24 → Φ (k true (zL Z N1 L1)) (k' Q1 M1)) (hbad : ∀ N1 e p, N1.1 = e → N1.2.1 = nI p → Φ (k false (zN Z N1)) (kf e p)) :
    Φ (rLawK tx Z k) (mLawK tx n kn C M Q k' kf) := by
  have hn : L_n Z.2.2.2.1 = L_n M := hL.1
  unfold rLawK mLawK
  by_cases c : L_n Z.2.2.2.1 < 24
  · rw [if_pos c, if_neg (by omega)]
    have h2 := tX_step ht h (Or.inl htk)
    have hI' := hI
    obtain ⟨t0, t1, t2, t3, i0, i1, i2, i3, j0, j1, j2, j3, -⟩ := hI'
    have hok' : ∀ N1 Q1 L1 M1, tX tx n kn al N1 Q1 → lAg L1 M1 → lUn L1 → L_n L1 = L_n Z.2.2.2.1 + 1 → lPre Z.2.2.2.1 L1 → Φ (k true (zL Z N1 L1)) (k' Q1 M1) := fun N1 Q1 L1 M1 a b c d e => hok N1 Q1 L1 M1 a b c d e (by omega)
    rcases use_sim ht h2 hB hN (s := 1) (by omega) i1 (by omega) with ⟨e, u1, u2⟩ | ⟨ld, u1, u2, u3, u4⟩
    · rw [show (1 : Int32) = nI 1 from rfl, u1, u2, tdK_l]
      unfold rLaw1
      rw [if_pos rfl]
      exact hbad _ _ _ (tX_pl h2 e).1 (tX_pl h2 e).2
    · rw [show (1 : Int32) = nI 1 from rfl, u1, u2, tdK_r]
      unfold rLaw1
      rw [if_neg (nI_nm1 (by omega))]
      have s1 := see_ag u4.1 (t := 10) (t' := 36) (by decide +kernel) (kb_ok (by omega) (by omega) (by omega))
      have s2 := see_ag u4.1 (t := 11) (t' := 37) (by decide +kernel) (kb_ok (by omega) (by omega) (by omega))
      show Φ (if seeB tx (stepF tx (stepF tx Z.1)) (kb 10) = true then rLaw2 tx Z (nI ld) true (useF tx Z.2.1 (stepF tx (stepF tx (stepF tx Z.1))) 3) k else if seeB tx (stepF tx (stepF tx Z.1)) (kb 11) = true then rLaw2 tx Z (nI ld) false (useF tx Z.2.1 (stepF tx (stepF tx (stepF tx Z.1))) 3) k else k false (zN Z (failF (stepF tx (stepF tx Z.1)) 1))) _
      by_cases c1 : isWB (nxF tx n (nxF tx n Q)) 36 = true
      · rw [s1, if_pos c1, c1, Bool.true_or, if_pos rfl]
        exact law2_sim ht (tX_step ht u4 (Or.inl (see_tok (s1.trans c1)))) hB hN hI hL hu hok' hbad (nI ld) true
      · rw [s1, if_neg c1, s2, Bool.eq_false_iff.mpr c1, Bool.false_or]
        by_cases c2 : isWB (nxF tx n (nxF tx n Q)) 37 = true
        · rw [if_pos c2, if_pos c2]
          exact law2_sim ht (tX_step ht u4 (Or.inl (see_tok (s2.trans c2)))) hB hN hI hL hu hok' hbad (nI ld) false
        · rw [if_neg c2, if_neg c2]
          exact hbad _ _ _ (tX_pl u4 1).1 (tX_pl u4 1).2
  · rw [if_neg c, if_pos (by omega)]
    exact hbad _ _ _ (tX_pl h 5).1 (tX_pl h 5).2
end LAW

