/-! ===== reading: gifts on both sides ===== -/
theorem gcN_case {G : GT} {g : Nat} {s x o : Int32} (hl : gcN G g < 3) (i : Nat) : gcN (giftCase G g s x o) i = if i = g then gcN G g + 1 else gcN G i := by
  unfold gcN giftCase
  show (upd G.2.2.2.1 g (nI (gcN G g + 1)) i).toNatClampNeg = _
  by_cases e : i = g
  · subst e; rw [upd_eq, if_pos rfl, nI_clamp (by omega)]; rfl
  · rw [upd_ne e, if_neg e]
theorem gcN_add {G : GT} {k o f : Int32} (i : Nat) : gcN (giftAdd G k o f) i = if i = G.2.2.2.2.2.2.2.2 then 0 else gcN G i := by
  unfold gcN giftAdd
  show (upd G.2.2.2.1 G.2.2.2.2.2.2.2.2 0 i).toNatClampNeg = _
  by_cases e : i = G.2.2.2.2.2.2.2.2
  · subst e; rw [upd_eq, if_pos rfl]; rfl
  · rw [upd_ne e, if_neg e]
theorem gGd_case {G : GT} {g : Nat} {s x o : Int32} (h : gGd G) (hl : gcN G g < 3) (hs : s = 0 ∨ s = 1 ∨ s = 2) : gGd (giftCase G g s x o) := fun i hi => by
  have hi' : i < G.2.2.2.2.2.2.2.2 := hi
  obtain ⟨h1, h2⟩ := h i hi'
  refine ⟨h1, fun q q1 q2 => ?_⟩
  show upd G.2.2.2.2.1 (g * 3 + gcN G g) s q = 0 ∨ upd G.2.2.2.2.1 (g * 3 + gcN G g) s q = 1 ∨ upd G.2.2.2.2.1 (g * 3 + gcN G g) s q = 2
  rw [gcN_case hl] at q2
  by_cases e : q = g * 3 + gcN G g
  · subst e; rw [upd_eq]; exact hs
  · rw [upd_ne e]
    refine h2 q q1 ?_
    by_cases e9 : i = g
    · subst e9; rw [if_pos rfl] at q2; omega
    · rw [if_neg e9] at q2; exact q2
theorem gGd_add {G : GT} {k o f : Int32} (h : gGd G) (hf : 0 ≤ f.toInt ∧ f.toInt ≤ 400) : gGd (giftAdd G k o f) := fun i hi => by
  have hi' : i < G.2.2.2.2.2.2.2.2 + 1 := hi
  rw [gcN_add]
  show (0 ≤ (upd G.2.2.1 G.2.2.2.2.2.2.2.2 f i).toInt ∧ (upd G.2.2.1 G.2.2.2.2.2.2.2.2 f i).toInt ≤ 400) ∧ ∀ q, i * 3 ≤ q → q < i * 3 + (if i = G.2.2.2.2.2.2.2.2 then 0 else gcN G i) → G.2.2.2.2.1 q = 0 ∨ G.2.2.2.2.1 q = 1 ∨ G.2.2.2.2.1 q = 2
  by_cases e : i = G.2.2.2.2.2.2.2.2
  · subst e
    rw [upd_eq]
    refine ⟨hf, fun q q1 q2 => ?_⟩
    rw [if_pos rfl] at q2
    omega
  · rw [upd_ne e, if_neg e]
    exact h i (by omega)
theorem gAg_add {G H : GT} {k o f : Int32} (h : gAg G H) (hH : gInv H) : gAg (giftAdd G k o f) (gUp (upd H.1 H.2.2.2.2.2.2.2.2 k, upd H.2.1 H.2.2.2.2.2.2.2.2 o, upd H.2.2.1 H.2.2.2.2.2.2.2.2 f, H.2.2.2)) := by
  have hn := h.1
  refine ⟨by show G.2.2.2.2.2.2.2.2 + 1 = H.2.2.2.2.2.2.2.2 + 1; rw [hn], fun i hi => ?_⟩
  have hi' : i < G.2.2.2.2.2.2.2.2 + 1 := hi
  rw [gcN_add]
  show upd G.1 G.2.2.2.2.2.2.2.2 k i = upd H.1 H.2.2.2.2.2.2.2.2 k i ∧ upd G.2.1 G.2.2.2.2.2.2.2.2 o i = upd H.2.1 H.2.2.2.2.2.2.2.2 o i ∧ upd G.2.2.1 G.2.2.2.2.2.2.2.2 f i = upd H.2.2.1 H.2.2.2.2.2.2.2.2 f i ∧ upd G.2.2.2.1 G.2.2.2.2.2.2.2.2 0 i = H.2.2.2.1 i ∧ ∀ q, i * 3 ≤ q → q < i * 3 + (if i = G.2.2.2.2.2.2.2.2 then 0 else gcN G i) → G.2.2.2.2.1 q = H.2.2.2.2.1 q ∧ G.2.2.2.2.2.1 q = H.2.2.2.2.2.1 q ∧ (¬ G.2.2.2.2.1 q = 0 → G.2.2.2.2.2.2.1 q = H.2.2.2.2.2.2.1 q)
  rw [← hn]
  by_cases e : i = G.2.2.2.2.2.2.2.2
  · subst e
    simp only [upd_eq]
    refine ⟨trivial, trivial, trivial, (hH.2 _ (by rw [hn]; exact Nat.le_refl _)).symm, fun q q1 q2 => ?_⟩
    rw [if_pos trivial] at q2
    omega
  · simp only [upd_ne e, if_neg e]
    exact h.2 i (by omega)
/-- a case more: what the reference has written at its place -/
theorem gAg_case {G H H1 : GT} {g : Nat} {s x o : Int32} (h : gAg G (gUp H)) (hg : g < G.2.2.2.2.2.2.2.2) (hl : gcN G g < 3)
    (e1 : H1.1 = H.1) (e2 : H1.2.1 = H.2.1) (e3 : H1.2.2.1 = H.2.2.1) (e4 : H1.2.2.2.1 = H.2.2.2.1) (e5 : H1.2.2.2.2.1 = upd H.2.2.2.2.1 (g * 3 + gcN H g) s) (e6 : H1.2.2.2.2.2.1 = upd H.2.2.2.2.2.1 (g * 3 + gcN H g) x) (e7 : ∀ q, (q = g * 3 + gcN H g → ¬ s = 0 → H1.2.2.2.2.2.2.1 q = o) ∧ (q ≠ g * 3 + gcN H g → H1.2.2.2.2.2.2.1 q = H.2.2.2.2.2.2.1 q)) (e8 : H1.2.2.2.2.2.2.2.2 = H.2.2.2.2.2.2.2.2) :
    gAg (giftCase G g s x o) (gUp (gInc H1 g)) := by
  have el : gcN G g = gcN H g := gcN_cg h hg
  have el1 : gcN H1 g = gcN H g := by unfold gcN; rw [e4]
  refine ⟨by show G.2.2.2.2.2.2.2.2 = H1.2.2.2.2.2.2.2.2 + 1; rw [e8]; exact h.1, fun i hi => ?_⟩
  have hi' : i < G.2.2.2.2.2.2.2.2 := hi
  obtain ⟨h1, h2, h3, h4, h5⟩ := h.2 i hi'
  refine ⟨?_, ?_, ?_, ?_, fun q q1 q2 => ?_⟩
  · show G.1 i = H1.1 i
    rw [e1]; exact h1
  · show G.2.1 i = H1.2.1 i
    rw [e2]; exact h2
  · show G.2.2.1 i = H1.2.2.1 i
    rw [e3]; exact h3
  · show upd G.2.2.2.1 g (nI (gcN G g + 1)) i = upd H1.2.2.2.1 g (nI (gcN H1 g + 1)) i
    rw [el, el1, e4]
    by_cases e : i = g
    · subst e; rw [upd_eq, upd_eq]
    · rw [upd_ne e, upd_ne e]; exact h4
  · rw [gcN_case hl] at q2
    show upd G.2.2.2.2.1 (g * 3 + gcN G g) s q = H1.2.2.2.2.1 q ∧ upd G.2.2.2.2.2.1 (g * 3 + gcN G g) x q = H1.2.2.2.2.2.1 q ∧ (¬ upd G.2.2.2.2.1 (g * 3 + gcN G g) s q = 0 → upd G.2.2.2.2.2.2.1 (g * 3 + gcN G g) o q = H1.2.2.2.2.2.2.1 q)
    rw [e5, e6, el]
    by_cases e : q = g * 3 + gcN H g
    · subst e
      simp only [upd_eq]
      exact ⟨trivial, trivial, fun z => ((e7 _).1 rfl z).symm⟩
    · simp only [upd_ne e]
      rw [(e7 q).2 e]
      refine h5 q q1 ?_
      by_cases e9 : i = g
      · subst e9; rw [if_pos rfl] at q2; omega
      · rw [if_neg e9] at q2; exact q2
section GIFT
variable {α β : Type} {Φ : α → β → Prop} {tx : Nat → Int32} {n : Nat} {kn al : Int32} {C : BT} {k : Bool → ZT → α} {k' : QT → GT → β} {kf : Int32 → Nat → β}
theorem caseH_sim (ht : txB tx) {B : BT} {R : RT} {L : LT} {G H : GT} (hB : bAg B C) (hN : bNm B) (hI : bInv B) {g : Nat} {kk : Bool → ZT → α} {kk' : QT → GT → β} {N : NT} {Q : QT} (h1 : tX tx n kn al N Q) (htk : N.2.2.2.2.2.1 = 1) (h2 : gAg G (gUp H)) (h5 : g < G.2.2.2.2.2.2.2.2) (hl : gcN G g < 3)
    (hok : ∀ N1 Q1 G1 H1, tX tx n kn al N1 Q1 → gAg G1 (gUp (gInc H1 g)) → (∃ s x o, G1 = giftCase G g s x o ∧ (s = 0 ∨ s = 1 ∨ s = 2)) → H1.2.2.2.1 = H.2.2.2.1 → H1.2.2.2.2.2.2.2.2 = H.2.2.2.2.2.2.2.2 → Φ (kk true (N1, B, R, L, G1)) (kk' Q1 H1)) (hbad : ∀ Z1 e p, Z1.1.1 = e → Z1.1.2.1 = nI p → Φ (kk false Z1) (kf e p)) (pr : Bool) :
    Φ (rCase2 tx (N, B, R, L, G) g pr (useF tx B (stepF tx N) 3) kk) (mCaseH tx n C H (g * 3 + gcN H g) (if pr = true then 1 else 2) Q kk' kf) := by
  obtain ⟨t2, i2, j2⟩ := bInv_at hI (s := 2) (by omega)
  obtain ⟨t3, i3, j3⟩ := bInv_at hI (s := 3) (by omega)
  have h1' := tX_step ht h1 (Or.inl htk)
  unfold rCase2 mCaseH
  show Φ (kwUseK tx B 12 2 (useF tx B (stepF tx N) 3) (fun o N' => if o = -1 then kk false (N', B, R, L, G) else kk true (N', B, R, L, giftCase G g (if pr = true then 1 else 2) (useF tx B (stepF tx N) 3).1 o))) _
  rcases use_sim ht h1' hB hN (s := 3) (by omega) i3 (by omega) with ⟨e, u1, u2⟩ | ⟨kd, u1, u2, u3, u4⟩
  · rw [show (3 : Int32) = nI 3 from rfl, u1, u2, tdK_l]
    unfold kwUseK
    rw [if_pos rfl]
    dsimp only
    rw [if_pos rfl]
    exact hbad _ _ _ (tX_pl h1' e).1 (tX_pl h1' e).2
  · rw [show (3 : Int32) = nI 3 from rfl, u1, u2, tdK_r]
    dsimp only
    rcases kwUse_sim (α := α) (β := β) ht u4 hB hN (s := 2) (by omega) i2 (by omega) (t := 12) (t' := 38) (by decide +kernel) (kb_ok (by omega) (by omega) (by omega)) (v := nI kd) (nI_nm1 (by omega)) (fun o N' => if o = -1 then kk false (N', B, R, L, G) else kk true (N', B, R, L, giftCase G g (if pr = true then 1 else 2) (nI kd) o)) (fun x Q4 => kk' Q4 (gO (gC H (g * 3 + gcN H g) (if pr = true then 1 else 2) (nI kd)) (g * 3 + gcN H g) x)) kf with ⟨e, p, N', w1, w2, w3, w4⟩ | ⟨o, N', Q', w1, w2, w3, w4⟩
    · rw [show nI 2 = (2 : Int32) from rfl] at w1 w4
      rw [w1, w4, if_pos rfl]
      exact hbad _ _ _ w2 w3
    · rw [show nI 2 = (2 : Int32) from rfl] at w1 w4
      rw [w1, w4, if_neg (nI_nm1 (by omega))]
      refine hok _ _ _ _ w2 (gAg_case h2 h5 hl rfl rfl rfl rfl rfl rfl (fun q => ⟨fun z _ => ?_, fun z => ?_⟩) rfl) ⟨_, _, _, rfl, ?_⟩ rfl rfl
      · show upd H.2.2.2.2.2.2.1 (g * 3 + gcN H g) (nI o) q = nI o
        rw [z, upd_eq]
      · show upd H.2.2.2.2.2.2.1 (g * 3 + gcN H g) (nI o) q = _
        rw [upd_ne z]
      · cases pr
        · exact Or.inr (Or.inr rfl)
        · exact Or.inr (Or.inl rfl)
theorem case_sim (ht : txB tx) {B : BT} {R : RT} {L : LT} {G H : GT} (hB : bAg B C) (hN : bNm B) (hI : bInv B) {g : Nat} {kk : Bool → ZT → α} {kk' : QT → GT → β} {N : NT} {Q : QT} (h1 : tX tx n kn al N Q) (h2 : gAg G (gUp H)) (h5 : g < G.2.2.2.2.2.2.2.2) (hl : gcN G g < 3)
    (hok : ∀ N1 Q1 G1 H1, tX tx n kn al N1 Q1 → gAg G1 (gUp (gInc H1 g)) → (∃ s x o, G1 = giftCase G g s x o ∧ (s = 0 ∨ s = 1 ∨ s = 2)) → H1.2.2.2.1 = H.2.2.2.1 → H1.2.2.2.2.2.2.2.2 = H.2.2.2.2.2.2.2.2 → Φ (kk true (N1, B, R, L, G1)) (kk' Q1 H1)) (hbad : ∀ Z1 e p, Z1.1.1 = e → Z1.1.2.1 = nI p → Φ (kk false Z1) (kf e p)) :
    Φ (rCase1 tx (N, B, R, L, G) g N kk) (mCaseK tx n C H (g * 3 + gcN H g) Q kk' kf) := by
  obtain ⟨t0, i0, j0⟩ := bInv_at hI (s := 0) (by omega)
  unfold rCase1 mCaseK
  have s1 := see_ag h1.1 (t := 18) (t' := 41) (by decide +kernel) (kb_ok (by omega) (by omega) (by omega))
  have s2 := see_ag h1.1 (t := 19) (t' := 42) (by decide +kernel) (kb_ok (by omega) (by omega) (by omega))
  have s3 := see_ag h1.1 (t := 20) (t' := 43) (by decide +kernel) (kb_ok (by omega) (by omega) (by omega))
  rw [s1, s2, s3]
  by_cases c1 : isWB Q 41 = true
  · rw [if_pos c1, if_pos c1]
    have h1' := tX_step ht h1 (Or.inl (see_tok (s1.trans c1)))
    unfold rCaseB
    show Φ (if (useF tx B (stepF tx N) 0).1 = -1 then kk false (zN (N, B, R, L, G) (useF tx B (stepF tx N) 0).2) else kk true (zG (N, B, R, L, G) (useF tx B (stepF tx N) 0).2 (giftCase G g 0 (useF tx B (stepF tx N) 0).1 (-1)))) _
    rcases use_sim ht h1' hB hN (s := 0) (by omega) i0 (by omega) with ⟨e, u1, u2⟩ | ⟨x, u1, u2, u3, u4⟩
    · rw [show nI 0 = (0 : Int32) from rfl] at u1 u2
      rw [u1, u2, tdK_l, if_pos rfl]
      exact hbad _ _ _ (tX_pl h1' e).1 (tX_pl h1' e).2
    · rw [show nI 0 = (0 : Int32) from rfl] at u1 u2
      rw [u1, u2, tdK_r, if_neg (nI_nm1 (by omega))]
      exact hok _ _ _ _ u4 (gAg_case h2 h5 hl rfl rfl rfl rfl rfl rfl (fun q => ⟨fun _ z => absurd rfl z, fun _ => rfl⟩) rfl) ⟨_, _, _, rfl, Or.inl rfl⟩ rfl rfl
  · rw [if_neg c1, if_neg c1]
    by_cases c2 : isWB Q 42 = true
    · rw [if_pos c2, if_pos c2]
      exact caseH_sim ht hB hN hI h1 (see_tok (s2.trans c2)) h2 h5 hl hok hbad true
    · rw [if_neg c2, if_neg c2]
      by_cases c3 : isWB Q 43 = true
      · rw [if_pos c3, if_pos c3]
        exact caseH_sim ht hB hN hI h1 (see_tok (s3.trans c3)) h2 h5 hl hok hbad false
      · rw [if_neg c3, if_neg c3]
        exact hbad _ _ _ (tX_pl h1 1).1 (tX_pl h1 1).2
/-- where the token ahead is N0, its gifts' case begins behind it -/
theorem case0_sim (ht : txB tx) {B : BT} {R : RT} {L : LT} {G H : GT} (hB : bAg B C) (hN : bNm B) (hI : bInv B) {g : Nat} {kk : Bool → ZT → α} {kk' : QT → GT → β} {N N0 : NT} {Q : QT} (h1 : tX tx n kn al N Q) (h2 : gAg G (gUp H)) (h5 : g < G.2.2.2.2.2.2.2.2) (hl : gcN G g < 3)
    (hok : ∀ N1 Q1 G1 H1, tX tx n kn al N1 Q1 → gAg G1 (gUp (gInc H1 g)) → (∃ s x o, G1 = giftCase G g s x o ∧ (s = 0 ∨ s = 1 ∨ s = 2)) → H1.2.2.2.1 = H.2.2.2.1 → H1.2.2.2.2.2.2.2.2 = H.2.2.2.2.2.2.2.2 → Φ (kk true (N1, B, R, L, G1)) (kk' Q1 H1)) (hbad : ∀ Z1 e p, Z1.1.1 = e → Z1.1.2.1 = nI p → Φ (kk false Z1) (kf e p)) :
    Φ (rCase1 tx (N0, B, R, L, G) g N kk) (mCaseK tx n C H (g * 3 + gcN H g) Q kk' kf) :=
  case_sim (Φ := Φ) ht hB hN hI h1 h2 h5 hl hok hbad
theorem cases_sim (ht : txB tx) {B : BT} {R : RT} {L : LT} (hB : bAg B C) (hN : bNm B) (hI : bInv B) {g : Nat} (hg : g < 12)
    (hok : ∀ N1 Q1 G1 H1, tX tx n kn al N1 Q1 → gAg G1 H1 → gOk G1 → gGd G1 → gInv H1 → Φ (k true (N1, B, R, L, G1)) (k' Q1 H1)) (hbad : ∀ Z1 e p, Z1.1.1 = e → Z1.1.2.1 = nI p → Φ (k false Z1) (kf e p)) :
    ∀ f N G H Q, tX tx n kn al N Q → gAg G (gUp H) → gOk G → gGd G → G.2.2.2.2.2.2.2.2 = g + 1 → H.2.2.2.2.2.2.2.2 = g → (∀ i, g < i → H.2.2.2.1 i = 0) → gcN G g + f = 3 →
    Φ (rCasesK tx g k (f + 1) (N, B, R, L, G)) (mCasesK tx n C g k' kf f H Q) := by
  have fin : ∀ N G H Q, tX tx n kn al N Q → gAg G (gUp H) → gOk G → gGd G → H.2.2.2.2.2.2.2.2 = g → (∀ i, g < i → H.2.2.2.1 i = 0) → Φ (k true (N, B, R, L, G)) (k' Q (gUp H)) := fun N G H Q h1 h2 h3 h4 h6 h7 => hok _ _ _ _ h1 h2 h3 h4 ⟨by show H.2.2.2.2.2.2.2.2 + 1 ≤ 12; omega, fun i hi => h7 i (by have hi' : H.2.2.2.2.2.2.2.2 + 1 ≤ i := hi; omega)⟩
  intro f
  induction f with
  | zero =>
    intro N G H Q h1 h2 h3 h4 h5 h6 h7 h8
    rw [rCasesK, mCasesK]
    have s1 := see_ag h1.1 (t := 9) (t' := 32) (by decide +kernel) (kb_ok (by omega) (by omega) (by omega))
    show Φ (if seeB tx N (kb 9) = true then rCaseK tx (N, B, R, L, G) g (fun b Z' => if b = true then rCasesK tx g k 0 Z' else k false Z') else k true (N, B, R, L, G)) _
    rw [s1]
    by_cases c : isWB Q 32 = true
    · rw [if_pos c, if_pos c]
      unfold rCaseK
      rw [if_neg (show ¬ gcN G g < 3 by omega)]
      exact hbad _ _ _ (tX_pl h1 5).1 (tX_pl h1 5).2
    · rw [if_neg c, if_neg c]
      exact fin N G H Q h1 h2 h3 h4 h6 h7
  | succ f ih =>
    intro N G H Q h1 h2 h3 h4 h5 h6 h7 h8
    rw [rCasesK, mCasesK]
    have s1 := see_ag h1.1 (t := 9) (t' := 32) (by decide +kernel) (kb_ok (by omega) (by omega) (by omega))
    show Φ (if seeB tx N (kb 9) = true then rCaseK tx (N, B, R, L, G) g (fun b Z' => if b = true then rCasesK tx g k (f + 1) Z' else k false Z') else k true (N, B, R, L, G)) _
    rw [s1]
    by_cases c : isWB Q 32 = true
    · rw [if_pos c, if_pos c]
      unfold rCaseK
      have hl : gcN G g < 3 := by omega
      rw [if_pos (show gcN G g < 3 by omega)]
      have h1' := tX_step ht h1 (Or.inl (see_tok (s1.trans c)))
      have hgg : g < G.2.2.2.2.2.2.2.2 := by omega
      have el : gcN G g = gcN H g := gcN_cg h2 hgg
      refine case0_sim (N0 := N) (N := stepF tx N) (kk := fun b Z' => if b = true then rCasesK tx g k (f + 1) Z' else k false Z') ht hB hN hI h1' h2 hgg hl (fun N1 Q1 G1 H1 a1 a2 a3 a4 a5 => ?_) (fun Z1 e p a1 a2 => ?_)
      · rw [if_pos rfl]
        obtain ⟨s, x, o, rfl, hs⟩ := a3
        refine ih N1 _ (gInc H1 g) Q1 a1 a2 (gOk_case h3 hgg hl) (gGd_case h4 hl hs) h5 (a5.trans h6) (fun i hi => ?_) ?_
        · show upd H1.2.2.2.1 g (nI (gcN H1 g + 1)) i = 0
          rw [upd_ne (by omega), a4]; exact h7 i hi
        · rw [gcN_case hl, if_pos rfl]; omega
      · rw [if_neg (by decide)]
        exact hbad Z1 e p a1 a2
    · rw [if_neg c, if_neg c]
      exact fin N G H Q h1 h2 h3 h4 h6 h7
theorem gift_sim (ht : txB tx) {Z : ZT} {H : GT} {Q : QT} (h : tX tx n kn al Z.1 Q) (htk : Z.1.2.2.2.2.2.1 = 1) (hB : bAg Z.2.1 C) (hN : bNm Z.2.1) (hI : bInv Z.2.1) (hG : gAg Z.2.2.2.2 H) (hGo : gOk Z.2.2.2.2) (hGd : gGd Z.2.2.2.2) (hH : gInv H)
    (hok : ∀ N1 Q1 G1 H1, tX tx n kn al N1 Q1 → gAg G1 H1 → gOk G1 → gGd G1 → gInv H1 → Φ (k true (zG Z N1 G1)) (k' Q1 H1)) (hbad : ∀ Z1 e p, Z1.1.1 = e → Z1.1.2.1 = nI p → Φ (k false Z1) (kf e p)) :
    Φ (rGiftK tx Z k) (mGiftK tx n C H Q k' kf) := by
  obtain ⟨t2, i2, j2⟩ := bInv_at hI (s := 2) (by omega)
  obtain ⟨t3, i3, j3⟩ := bInv_at hI (s := 3) (by omega)
  have h12 := hGo.1
  have hn := hG.1
  unfold rGiftK mGiftK
  by_cases c : Z.2.2.2.2.2.2.2.2.2.2.2.2 < 12
  · rw [if_pos c, if_neg (by omega)]
    have h2 := tX_step ht h (Or.inl htk)
    unfold rGift2
    rcases use_sim ht h2 hB hN (s := 3) (by omega) i3 (by omega) with ⟨e, u1, u2⟩ | ⟨kd, u1, u2, u3, u4⟩
    · rw [show (3 : Int32) = nI 3 from rfl, u1, u2, tdK_l]
      unfold kwUseK
      rw [if_pos rfl]
      dsimp only
      rw [kwNum_m1]
      unfold rGift3
      rw [if_pos rfl]
      exact hbad _ _ _ (tX_pl h2 e).1 (tX_pl h2 e).2
    · rw [show (3 : Int32) = nI 3 from rfl, u1, u2, tdK_r]
      dsimp only
      rcases kwUse_sim (α := α) (β := β) ht u4 hB hN (s := 2) (by omega) i2 (by omega) (t := 12) (t' := 38) (by decide +kernel) (kb_ok (by omega) (by omega) (by omega)) (v := nI kd) (nI_nm1 (by omega)) (fun o N => kwNumK tx 17 0 400 o N (fun f N' => rGift3 tx Z (nI kd) o f N' k)) (fun of Q4 => nwK tx n Q4 40 (fun Q5 => tdK (whF tx n Q5 0 400) Q5 (fun af Q6 => mCasesK tx n C H.2.2.2.2.2.2.2.2 k' kf 3 (upd H.1 H.2.2.2.2.2.2.2.2 (nI kd), upd H.2.1 H.2.2.2.2.2.2.2.2 of, upd H.2.2.1 H.2.2.2.2.2.2.2.2 af, H.2.2.2) Q6) kf) kf) kf with ⟨e, p, N', w1, w2, w3, w4⟩ | ⟨o, N', Q', w1, w2, w3, w4⟩
      · rw [show nI 2 = (2 : Int32) from rfl] at w1 w4
        rw [w1, w4, kwNum_m1]
        unfold rGift3
        rw [if_pos rfl]
        exact hbad _ _ _ w2 w3
      · rw [show nI 2 = (2 : Int32) from rfl] at w1 w4
        rw [w1, w4]
        rcases kwNum_sim (α := α) (β := β) ht w2 (t := 17) (t' := 40) (by decide +kernel) (kb_ok (by omega) (by omega) (by omega)) (v := nI o) (nI_nm1 (by omega)) 0 400 (fun f N' => rGift3 tx Z (nI kd) (nI o) f N' k) (fun af Q6 => mCasesK tx n C H.2.2.2.2.2.2.2.2 k' kf 3 (upd H.1 H.2.2.2.2.2.2.2.2 (nI kd), upd H.2.1 H.2.2.2.2.2.2.2.2 (nI o), upd H.2.2.1 H.2.2.2.2.2.2.2.2 af, H.2.2.2) Q6) kf with ⟨e, p, N2, y1, y2, y3, y4⟩ | ⟨af, N2, Q2, y1, y2, y3, y5, y4⟩
        · rw [y1, y4]
          unfold rGift3
          rw [if_pos rfl]
          exact hbad _ _ _ y2 y3
        · rw [y1, y4]
          unfold rGift3
          rw [if_neg (ge0_nm1 (by decide) y3)]
          have y3' := Int32.le_iff_toInt_le.mp y3
          have y5' := Int32.le_iff_toInt_le.mp y5
          rw [I_0] at y3'
          rw [show (400 : Int32).toInt = 400 by decide] at y5'
          rw [hn]
          refine cases_sim ht hB hN hI (R := Z.2.2.1) (L := Z.2.2.2.1) (by omega) hok hbad 3 N2 (giftAdd Z.2.2.2.2 (nI kd) (nI o) af) _ Q2 y2 (gAg_add hG hH) (gOk_add hGo c) (gGd_add hGd ⟨y3', y5'⟩) (by show Z.2.2.2.2.2.2.2.2.2.2.2.2 + 1 = _; rw [hn]) rfl (fun i hi => hH.2 i (by omega)) ?_
          rw [gcN_add, if_pos hn.symm]
  · rw [if_neg c, if_pos (by omega)]
    exact hbad _ _ _ (tX_pl h 5).1 (tX_pl h 5).2
end GIFT

