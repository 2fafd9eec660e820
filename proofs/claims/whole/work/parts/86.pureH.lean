/-! ===== reading: names, roads on both sides ===== -/
theorem room_iff {B : BT} {s : Nat} (h : bInv B) (hs : s < 4) : (B.2.2.2.2 < 25 ∧ B.1 s < q_ROOM s) ↔ ¬ B.1 s = rmI s := by
  refine ⟨fun z y => ?_, fun z => ⟨(bInv_tell (x := 0) h hs z).1, ?_⟩⟩
  · have h2 := z.2
    rw [y] at h2
    have : s = 0 ∨ s = 1 ∨ s = 2 ∨ s = 3 := by omega
    rcases this with e | e | e | e <;> subst e <;> exact absurd h2 (by decide)
  · obtain ⟨t0, t1, t2, t3, i0, i1, i2, i3, j0, j1, j2, j3, -⟩ := h
    have : s = 0 ∨ s = 1 ∨ s = 2 ∨ s = 3 := by omega
    rcases this with e | e | e | e <;> subst e
    · rw [i0] at z ⊢
      exact nI_lt (b := 8) (Nat.lt_of_le_of_ne j0 (fun y => z (by rw [y]; rfl))) (by omega)
    · rw [i1] at z ⊢
      exact nI_lt (b := 5) (Nat.lt_of_le_of_ne j1 (fun y => z (by rw [y]; rfl))) (by omega)
    · rw [i2] at z ⊢
      exact nI_lt (b := 6) (Nat.lt_of_le_of_ne j2 (fun y => z (by rw [y]; rfl))) (by omega)
    · rw [i3] at z ⊢
      exact nI_lt (b := 6) (Nat.lt_of_le_of_ne j3 (fun y => z (by rw [y]; rfl))) (by omega)
theorem bInv_at {B : BT} {s : Nat} (h : bInv B) (hs : s < 4) : ∃ t, B.1 s = nI t ∧ t ≤ 8 := by
  obtain ⟨t0, t1, t2, t3, i0, i1, i2, i3, j0, j1, j2, j3, -⟩ := h
  have : s = 0 ∨ s = 1 ∨ s = 2 ∨ s = 3 := by omega
  rcases this with e | e | e | e <;> subst e
  · exact ⟨t0, i0, j0⟩
  · exact ⟨t1, i1, by omega⟩
  · exact ⟨t2, i2, by omega⟩
  · exact ⟨t3, i3, by omega⟩
theorem updL_ne {f : Nat → Int64} {i : Nat} {v : Int64} {j : Nat} (h : j ≠ i) : vp_updL f i v j = f j := by rw [vp_updL, if_neg h]
theorem bAg_tell {B C : BT} (h : bAg B C) {s : Nat} (hs : s < 4) (x : Int64) : bAg (bookTell B x s) (bookTell C x s) := by
  obtain ⟨h1, h2, h3⟩ := h
  refine ⟨fun i hi => ?_, by show B.2.2.2.2 + 1 = C.2.2.2.2 + 1; rw [h2], fun i hi => ?_⟩
  · show upd B.1 s (B.1 s + 1) i = upd C.1 s (C.1 s + 1) i
    rw [← h1 s hs]
    by_cases e : i = s
    · subst e; rw [upd_eq, upd_eq]
    · rw [upd_ne e, upd_ne e]; exact h1 i hi
  · have hi' : i < B.2.2.2.2 + 1 := hi
    show vp_updL B.2.1 B.2.2.2.2 x i = vp_updL C.2.1 C.2.2.2.2 x i ∧ upd B.2.2.1 B.2.2.2.2 (nI s) i = upd C.2.2.1 C.2.2.2.2 (nI s) i ∧ upd B.2.2.2.1 B.2.2.2.2 (B.1 s) i = upd C.2.2.2.1 C.2.2.2.2 (C.1 s) i
    rw [← h2, ← h1 s hs]
    by_cases e : i = B.2.2.2.2
    · subst e; simp only [upd_eq, updL_eq]; exact ⟨trivial, trivial, trivial⟩
    · simp only [upd_ne e, updL_ne e]; exact h3 i (by omega)
theorem bNm_tell {B : BT} (h : bNm B) (hI : bInv B) {s : Nat} (hs : s < 4) (hr : ¬ B.1 s = rmI s) (x : Int64) : bNm (bookTell B x s) := fun i hi => by
  obtain ⟨t, e1, e2⟩ := bInv_at hI hs
  have h8 : t < 8 := by
    have := (room_iff hI hs).mpr hr
    have h2 := this.2
    rw [e1] at h2
    have h3 : q_ROOM s ≤ nI 8 := by
      have : s = 0 ∨ s = 1 ∨ s = 2 ∨ s = 3 := by omega
      rcases this with e | e | e | e <;> subst e <;> decide
    have h4 := Int32.lt_of_lt_of_le h2 h3
    rw [Int32.lt_iff_toInt_lt, nI_toInt (by omega), nI_toInt (by omega)] at h4
    omega
  have eS : B.1 s + 1 = nI (t + 1) := by rw [e1, nI_succ]
  have hi' : i < B.2.2.2.2 + 1 := hi
  by_cases e : i = B.2.2.2.2
  · subst e
    refine ⟨s, t, t + 1, hs, ?_, ?_, ?_, by omega, by omega⟩
    · show upd B.2.2.1 B.2.2.2.2 (nI s) B.2.2.2.2 = nI s
      rw [upd_eq]
    · show upd B.2.2.2.1 B.2.2.2.2 (B.1 s) B.2.2.2.2 = nI t
      rw [upd_eq, e1]
    · show upd B.1 s (B.1 s + 1) s = nI (t + 1)
      rw [upd_eq, eS]
  · obtain ⟨s', k, t', q1, q2, q3, q4, q5, q6⟩ := h i (by omega)
    by_cases e9 : s' = s
    · subst e9
      rw [e1] at q4
      have := nI_inj (by omega) (by omega) q4
      subst this
      refine ⟨s', k, t + 1, hs, ?_, ?_, ?_, by omega, by omega⟩
      · show upd B.2.2.1 B.2.2.2.2 (nI s') i = nI s'
        rw [upd_ne e]; exact q2
      · show upd B.2.2.2.1 B.2.2.2.2 (B.1 s') i = nI k
        rw [upd_ne e]; exact q3
      · show upd B.1 s' (B.1 s' + 1) s' = nI (t + 1)
        rw [upd_eq, eS]
    · refine ⟨s', k, t', q1, ?_, ?_, ?_, q5, q6⟩
      · show upd B.2.2.1 B.2.2.2.2 (nI s) i = nI s'
        rw [upd_ne e]; exact q2
      · show upd B.2.2.2.1 B.2.2.2.2 (B.1 s) i = nI k
        rw [upd_ne e]; exact q3
      · show upd B.1 s (B.1 s + 1) s' = nI t'
        rw [upd_ne e9]; exact q4
def tGe (B B1 : BT) : Prop := ∀ a, B.1 0 = nI a → a ≤ 8 → ∃ a', B1.1 0 = nI a' ∧ a ≤ a' ∧ a' ≤ 8
theorem tGe_tell {B : BT} (hI : bInv B) {s : Nat} (hs : s < 4) (hr : ¬ B.1 s = rmI s) (x : Int64) : tGe B (bookTell B x s) := fun a ha ha8 => by
  obtain ⟨a', e1, e2⟩ := bInv_at (bInv_tell (x := x) hI hs hr).2 (s := 0) (by omega)
  refine ⟨a', e1, ?_, e2⟩
  have e3 : upd B.1 s (B.1 s + 1) 0 = nI a' := e1
  by_cases e : 0 = s
  · subst e
    rw [upd_eq, ha, ← nI_succ] at e3
    have := nI_inj (by omega) (by omega) e3
    omega
  · rw [upd_ne e, ha] at e3
    have := nI_inj (by omega) (by omega) e3
    omega
theorem name_sim {α β : Type} {Φ : α → β → Prop} {tx : Nat → Int32} {n : Nat} {kn al : Int32} {Z : ZT} {C : BT} {k : Bool → ZT → α} {k' : QT → BT → β} {kf : Int32 → Nat → β} (ht : txB tx) {Q : QT} (h : tX tx n kn al Z.1 Q) (htk : Z.1.2.2.2.2.2.1 = 1) (hB : bAg Z.2.1 C) (hN : bNm Z.2.1) (hI : bInv Z.2.1) {s : Nat} (hs : s < 4)
    (hok : ∀ N1 Q1 B1 C1, tX tx n kn al N1 Q1 → bAg B1 C1 → bNm B1 → bInv B1 → tGe Z.2.1 B1 → Φ (k true (zB Z N1 B1)) (k' Q1 C1)) (hbad : ∀ N1 e p, N1.1 = e → N1.2.1 = nI p → Φ (k false (zN Z N1)) (kf e p)) :
    Φ (rNameK tx Z s k) (mThK tx n s (rmI s) C Q k' kf) := by
  unfold rNameK mThK
  rw [← hB.1 s hs]
  by_cases c : Z.2.1.1 s = rmI s
  · rw [if_neg (fun z => (room_iff hI hs).mp z c), if_pos c]
    exact hbad _ _ _ (tX_pl h 5).1 (tX_pl h 5).2
  · rw [if_pos ((room_iff hI hs).mpr c), if_neg c]
    have h2 := tX_step ht h (Or.inl htk)
    rw [name_ag h2.1]
    by_cases c1 : isNM (nxF tx n Q) = true
    · rw [if_pos c1, if_pos c1]
      have h1 := isNm_tok ((name_ag h2.1).trans c1)
      have hw : (stepF tx Z.1).2.2.2.2.2.2.2.2.1 = (nxF tx n Q).2.2.2.2 := by
        rcases h2.1.2.2.2.2 with ⟨z, -⟩ | ⟨-, -, -, z, -⟩ | ⟨z, -⟩ | ⟨z, -⟩ | ⟨z, -⟩
        · rw [z] at h1; exact absurd h1 (by decide)
        · exact z
        · rw [z] at h1; exact absurd h1 (by decide)
        · rw [z] at h1; exact absurd h1 (by decide)
        · rw [z] at h1; exact absurd h1 (by decide)
      rw [← hB.2.1, ← hw, ← fstO_cg (P := fun i => decide (Z.2.1.2.1 i = (stepF tx Z.1).2.2.2.2.2.2.2.2.1)) (Q := fun i => decide (C.2.1 i = (stepF tx Z.1).2.2.2.2.2.2.2.2.1)) Z.2.1.2.2.2.2 0 (fun i _ hi => by rw [(hB.2.2 i (by omega)).1])]
      cases hf : fstO (fun i => decide (Z.2.1.2.1 i = (stepF tx Z.1).2.2.2.2.2.2.2.2.1)) 0 Z.2.1.2.2.2.2 with
      | none =>
        rw [if_pos (show oI none = -1 from rfl)]
        exact hok _ _ _ _ (tX_step ht h2 (Or.inl h1)) (bAg_tell hB hs _) (bNm_tell hN hI hs c _) (bInv_tell hI hs c).2 (tGe_tell hI hs c _)
      | some i =>
        have hi := (fstO_lt _ _ _ hf).2
        have := bInv_le hI
        rw [if_neg (show ¬ oI (some i) = -1 from nI_nm1 (by omega))]
        exact hbad _ _ _ (tX_pl h2 3).1 (tX_pl h2 3).2
    · rw [if_neg c1, if_neg c1]
      exact hbad _ _ _ (tX_pl h2 1).1 (tX_pl h2 1).2
/-! roads -/
def rX (R : RT) (t0 : Nat) : Prop := gEd R t0 ∧ rCn R ∧ rDy R ∧ rKd R
theorem rpN_post {R : RT} {r : Nat} {k l : Int32} (hl : rpN R r < 3) (i : Nat) : rpN (roadPost R r k l) i = if i = r then rpN R r + 1 else rpN R i := by
  unfold rpN roadPost
  show (upd R.2.2.2.2.1 r (nI (rpN R r + 1)) i).toNatClampNeg = _
  by_cases e : i = r
  · subst e; rw [upd_eq, if_pos rfl, nI_clamp (by omega)]; rfl
  · rw [upd_ne e, if_neg e]
theorem rX_post {R : RT} {t0 r k : Nat} {l : Int32} (h : rX R t0) (hl : rpN R r < 3) (hk : k < 100) : rX (roadPost R r (nI k) l) t0 := by
  obtain ⟨h1, h2, h3, h4⟩ := h
  refine ⟨h1, h2, h3, fun i hi q q1 q2 => ?_⟩
  have hi' : i < R.2.2.2.2.2.2.2 := hi
  show ¬ upd R.2.2.2.2.2.1 (r * 3 + rpN R r) (nI k) q = -1
  rw [rpN_post hl] at q2
  by_cases e : q = r * 3 + rpN R r
  · subst e; rw [upd_eq]; exact nI_nm1 (by omega)
  · rw [upd_ne e]
    refine h4 i hi' q q1 ?_
    by_cases e9 : i = r
    · subst e9; rw [if_pos rfl] at q2; omega
    · rw [if_neg e9] at q2; exact q2
theorem rpN_add {R : RT} {x y d c : Int32} (i : Nat) : rpN (roadAdd R x y d c) i = if i = R.2.2.2.2.2.2.2 then 0 else rpN R i := by
  unfold rpN roadAdd
  show (upd R.2.2.2.2.1 R.2.2.2.2.2.2.2 0 i).toNatClampNeg = _
  by_cases e : i = R.2.2.2.2.2.2.2
  · subst e; rw [upd_eq, if_pos rfl]; rfl
  · rw [upd_ne e, if_neg e]
theorem rX_add {R : RT} {t0 a b : Nat} {d c : Int32} (h : rX R t0) (ha : a < t0) (hb : b < t0) (hab : a ≠ b) (hd : 1 ≤ d.toInt ∧ d.toInt ≤ 60) (hc : cnI c) : rX (roadAdd R (nI a) (nI b) d c) t0 := by
  obtain ⟨h1, h2, h3, h4⟩ := h
  have lt : ∀ r, r < R.2.2.2.2.2.2.2 + 1 → r ≠ R.2.2.2.2.2.2.2 → r < R.2.2.2.2.2.2.2 := fun r z1 z2 => by omega
  refine ⟨fun r hr => ?_, fun r hr => ?_, fun r hr => ?_, fun r hr q q1 q2 => ?_⟩
  · show ∃ x y, upd R.1 R.2.2.2.2.2.2.2 (nI a) r = nI x ∧ upd R.2.1 R.2.2.2.2.2.2.2 (nI b) r = nI y ∧ x < t0 ∧ y < t0 ∧ x ≠ y
    by_cases e : r = R.2.2.2.2.2.2.2
    · subst e; rw [upd_eq, upd_eq]; exact ⟨a, b, rfl, rfl, ha, hb, hab⟩
    · rw [upd_ne e, upd_ne e]; exact h1 r (lt r hr e)
  · show cnI (upd R.2.2.2.1 R.2.2.2.2.2.2.2 c r)
    by_cases e : r = R.2.2.2.2.2.2.2
    · subst e; rw [upd_eq]; exact hc
    · rw [upd_ne e]; exact h2 r (lt r hr e)
  · show 1 ≤ (upd R.2.2.1 R.2.2.2.2.2.2.2 d r).toInt ∧ (upd R.2.2.1 R.2.2.2.2.2.2.2 d r).toInt ≤ 60
    by_cases e : r = R.2.2.2.2.2.2.2
    · subst e; rw [upd_eq]; exact hd
    · rw [upd_ne e]; exact h3 r (lt r hr e)
  · rw [rpN_add] at q2
    by_cases e : r = R.2.2.2.2.2.2.2
    · rw [if_pos e] at q2; omega
    · rw [if_neg e] at q2
      exact h4 r (lt r hr e) q q1 q2
theorem rAg_post {R T : RT} {r : Nat} {k l : Int32} (h : rAg R (rUp T)) (hr : r < R.2.2.2.2.2.2.2) (hl : rpN R r < 3) : rAg (roadPost R r k l) (rUp (roadPost T r k l)) := by
  have el : rpN R r = rpN T r := rpN_cg h hr
  refine ⟨h.1, fun i hi => ?_⟩
  have hi' : i < R.2.2.2.2.2.2.2 := hi
  obtain ⟨h1, h2, h3, h4, h5, h6⟩ := h.2 i hi'
  refine ⟨h1, h2, h3, h4, ?_, fun q q1 q2 => ?_⟩
  · show upd R.2.2.2.2.1 r (nI (rpN R r + 1)) i = upd T.2.2.2.2.1 r (nI (rpN T r + 1)) i
    rw [el]
    by_cases e : i = r
    · subst e; rw [upd_eq, upd_eq]
    · rw [upd_ne e, upd_ne e]; exact h5
  · rw [rpN_post hl] at q2
    show upd R.2.2.2.2.2.1 (r * 3 + rpN R r) k q = upd T.2.2.2.2.2.1 (r * 3 + rpN T r) k q ∧ upd R.2.2.2.2.2.2.1 (r * 3 + rpN R r) l q = upd T.2.2.2.2.2.2.1 (r * 3 + rpN T r) l q
    rw [← el]
    by_cases e : q = r * 3 + rpN R r
    · subst e; simp only [upd_eq]; exact ⟨trivial, trivial⟩
    · simp only [upd_ne e]
      refine h6 q q1 ?_
      by_cases e9 : i = r
      · subst e9; rw [if_pos rfl] at q2; omega
      · rw [if_neg e9] at q2; exact q2
theorem rAg_add {R T : RT} {x y d c : Int32} (h : rAg R T) (hT : rInv T) : rAg (roadAdd R x y d c) (rUp (upd T.1 T.2.2.2.2.2.2.2 x, upd T.2.1 T.2.2.2.2.2.2.2 y, upd T.2.2.1 T.2.2.2.2.2.2.2 d, upd T.2.2.2.1 T.2.2.2.2.2.2.2 c, T.2.2.2.2)) := by
  have hn := h.1
  refine ⟨by show R.2.2.2.2.2.2.2 + 1 = T.2.2.2.2.2.2.2 + 1; rw [hn], fun i hi => ?_⟩
  have hi' : i < R.2.2.2.2.2.2.2 + 1 := hi
  rw [rpN_add]
  show upd R.1 R.2.2.2.2.2.2.2 x i = upd T.1 T.2.2.2.2.2.2.2 x i ∧ upd R.2.1 R.2.2.2.2.2.2.2 y i = upd T.2.1 T.2.2.2.2.2.2.2 y i ∧ upd R.2.2.1 R.2.2.2.2.2.2.2 d i = upd T.2.2.1 T.2.2.2.2.2.2.2 d i ∧ upd R.2.2.2.1 R.2.2.2.2.2.2.2 c i = upd T.2.2.2.1 T.2.2.2.2.2.2.2 c i ∧ upd R.2.2.2.2.1 R.2.2.2.2.2.2.2 0 i = T.2.2.2.2.1 i ∧ ∀ q, i * 3 ≤ q → q < i * 3 + (if i = R.2.2.2.2.2.2.2 then 0 else rpN R i) → R.2.2.2.2.2.1 q = T.2.2.2.2.2.1 q ∧ R.2.2.2.2.2.2.1 q = T.2.2.2.2.2.2.1 q
  rw [← hn]
  by_cases e : i = R.2.2.2.2.2.2.2
  · subst e
    simp only [upd_eq]
    refine ⟨trivial, trivial, trivial, trivial, (hT.2 _ (by rw [hn]; exact Nat.le_refl _)).symm, fun q q1 q2 => ?_⟩
    rw [if_pos trivial] at q2
    omega
  · simp only [upd_ne e, if_neg e]
    exact h.2 i (by omega)
section ROAD
variable {α β : Type} {Φ : α → β → Prop} {tx : Nat → Int32} {n : Nat} {kn al : Int32} {C : BT} {k : Bool → ZT → α} {k' : QT → RT → β} {kf : Int32 → Nat → β}
theorem posts_sim (ht : txB tx) {B : BT} {L : LT} {G : GT} (hB : bAg B C) (hN : bNm B) (hI : bInv B) {r t0 : Nat} (hr : r < 16)
    (hok : ∀ N1 Q1 R1 T1, tX tx n kn al N1 Q1 → rAg R1 T1 → rOk R1 → rX R1 t0 → rInv T1 → Φ (k true (N1, B, R1, L, G)) (k' Q1 T1)) (hbad : ∀ Z1 e p, Z1.1.1 = e → Z1.1.2.1 = nI p → Φ (k false Z1) (kf e p)) :
    ∀ f N R T Q, tX tx n kn al N Q → rAg R (rUp T) → rOk R → rX R t0 → R.2.2.2.2.2.2.2 = r + 1 → T.2.2.2.2.2.2.2 = r → (∀ i, r < i → T.2.2.2.2.1 i = 0) → rpN R r + f = 3 →
    Φ (rPostsK tx r k (f + 1) (N, B, R, L, G)) (mPostsK tx n C r k' kf f T Q) := by
  obtain ⟨t1, i1, j1⟩ := bInv_at hI (s := 1) (by omega)
  obtain ⟨t3, i3, j3⟩ := bInv_at hI (s := 3) (by omega)
  have fin : ∀ N R T Q, tX tx n kn al N Q → rAg R (rUp T) → rOk R → rX R t0 → R.2.2.2.2.2.2.2 = r + 1 → T.2.2.2.2.2.2.2 = r → (∀ i, r < i → T.2.2.2.2.1 i = 0) → Φ (k true (N, B, R, L, G)) (k' Q (rUp T)) := fun N R T Q h1 h2 h3 h4 h5 h6 h7 => hok _ _ _ _ h1 h2 h3 h4 ⟨by show T.2.2.2.2.2.2.2 + 1 ≤ 16; omega, fun i hi => h7 i (by have hi' : T.2.2.2.2.2.2.2 + 1 ≤ i := hi; omega)⟩
  intro f
  induction f with
  | zero =>
    intro N R T Q h1 h2 h3 h4 h5 h6 h7 h8
    rw [rPostsK, mPostsK]
    have s1 := see_ag h1.1 (t := 7) (t' := 30) (by decide +kernel) (kb_ok (by omega) (by omega) (by omega))
    show Φ (if seeB tx N (kb 7) = true then rPostK tx (N, B, R, L, G) r (fun b Z' => if b = true then rPostsK tx r k 0 Z' else k false Z') else k true (N, B, R, L, G)) _
    rw [s1]
    by_cases c : isWB Q 30 = true
    · rw [if_pos c, if_pos c]
      unfold rPostK
      rw [if_neg (show ¬ rpN R r < 3 by omega)]
      exact hbad _ _ _ (tX_pl h1 5).1 (tX_pl h1 5).2
    · rw [if_neg c, if_neg c]
      exact fin N R T Q h1 h2 h3 h4 h5 h6 h7
  | succ f ih =>
    intro N R T Q h1 h2 h3 h4 h5 h6 h7 h8
    rw [rPostsK, mPostsK]
    have s1 := see_ag h1.1 (t := 7) (t' := 30) (by decide +kernel) (kb_ok (by omega) (by omega) (by omega))
    show Φ (if seeB tx N (kb 7) = true then rPostK tx (N, B, R, L, G) r (fun b Z' => if b = true then rPostsK tx r k (f + 1) Z' else k false Z') else k true (N, B, R, L, G)) _
    rw [s1]
    by_cases c : isWB Q 30 = true
    · rw [if_pos c, if_pos c]
      unfold rPostK
      have hl : rpN R r < 3 := by omega
      rw [if_pos (show rpN R r < 3 by omega)]
      show Φ (kwUseK tx B 16 1 (useF tx B (stepF tx N) 3) (fun v N' => if v = -1 then (if false = true then rPostsK tx r k (f + 1) (zN (N, B, R, L, G) N') else k false (zN (N, B, R, L, G) N')) else (if true = true then rPostsK tx r k (f + 1) (N', B, roadPost R r (useF tx B (stepF tx N) 3).1 v, L, G) else k false (N', B, roadPost R r (useF tx B (stepF tx N) 3).1 v, L, G)))) _
      have h1' := tX_step ht h1 (Or.inl (see_tok (s1.trans c)))
      rcases use_sim ht h1' hB hN (s := 3) (by omega) i3 (by omega) with ⟨e, u1, u2⟩ | ⟨kd, u1, u2, u3, u4⟩
      · rw [show (3 : Int32) = nI 3 from rfl, u1, u2, tdK_l]
        unfold kwUseK
        rw [if_pos rfl]
        exact hbad _ _ _ (tX_pl h1' e).1 (tX_pl h1' e).2
      · rw [show (3 : Int32) = nI 3 from rfl, u1, u2, tdK_r]
        dsimp only
        rcases kwUse_sim (α := α) (β := β) ht u4 hB hN (s := 1) (by omega) i1 (by omega) (t := 16) (t' := 35) (by decide +kernel) (kb_ok (by omega) (by omega) (by omega)) (v := nI kd) (nI_nm1 (by omega)) (fun v N' => if v = -1 then (if false = true then rPostsK tx r k (f + 1) (zN (N, B, R, L, G) N') else k false (zN (N, B, R, L, G) N')) else (if true = true then rPostsK tx r k (f + 1) (N', B, roadPost R r (nI kd) v, L, G) else k false (N', B, roadPost R r (nI kd) v, L, G))) (fun ld Q4 => mPostsK tx n C r k' kf f (roadPost T r (nI kd) ld) Q4) kf with ⟨e, p, N', w1, w2, w3, w4⟩ | ⟨ld, N', Q', w1, w2, w3, w4⟩
        · rw [show nI 1 = (1 : Int32) from rfl] at w1 w4
          rw [w1, w4, if_pos rfl, if_neg (by decide)]
          exact hbad _ _ _ w2 w3
        · rw [show nI 1 = (1 : Int32) from rfl] at w1 w4
          rw [w1, w4, if_neg (nI_nm1 (by omega)), if_pos rfl]
          have hrr : r < R.2.2.2.2.2.2.2 := by omega
          refine ih N' (roadPost R r (nI kd) (nI ld)) (roadPost T r (nI kd) (nI ld)) Q' w2 (rAg_post h2 hrr hl) (rOk_post h3 hrr hl) (rX_post h4 hl (by omega)) h5 h6 (fun i hi => ?_) ?_
          · show upd T.2.2.2.2.1 r (nI (rpN T r + 1)) i = 0
            rw [upd_ne (by omega)]; exact h7 i hi
          · rw [rpN_post hl, if_pos rfl]; omega
    · rw [if_neg c, if_neg c]
      exact fin N R T Q h1 h2 h3 h4 h5 h6 h7
theorem road_sim (ht : txB tx) {Z : ZT} {T : RT} {Q : QT} (h : tX tx n kn al Z.1 Q) (htk : Z.1.2.2.2.2.2.1 = 1) (hB : bAg Z.2.1 C) (hN : bNm Z.2.1) (hI : bInv Z.2.1) {t0 : Nat} (ht0 : Z.2.1.1 0 = nI t0) (ht8 : t0 ≤ 8) (hR : rAg Z.2.2.1 T) (hRo : rOk Z.2.2.1) (hRx : rX Z.2.2.1 t0) (hT : rInv T)
    (hok : ∀ N1 Q1 R1 T1, tX tx n kn al N1 Q1 → rAg R1 T1 → rOk R1 → rX R1 t0 → rInv T1 → Φ (k true (zR Z N1 R1)) (k' Q1 T1)) (hbad : ∀ Z1 e p, Z1.1.1 = e → Z1.1.2.1 = nI p → Φ (k false Z1) (kf e p)) :
    Φ (rRoadK tx Z k) (mRoadK tx n C T Q k' kf) := by
  have i0 := ht0
  have h16 := hRo.1
  have hn := hR.1
  unfold rRoadK mRoadK
  by_cases c : Z.2.2.1.2.2.2.2.2.2.2 < 16
  · rw [if_pos c, if_neg (by omega)]
    have h2 := tX_step ht h (Or.inl htk)
    rcases use_sim ht h2 hB hN (s := 0) (by omega) i0 (by omega) with ⟨e, u1, u2⟩ | ⟨a, u1, u2, u3, u4⟩
    · rw [show (0 : Int32) = nI 0 from rfl, u1, u2, tdK_l]
      unfold rRoad1
      rw [if_pos rfl]
      unfold rRoad2
      rw [if_pos rfl]
      exact hbad _ _ _ (tX_pl h2 e).1 (tX_pl h2 e).2
    · rw [show (0 : Int32) = nI 0 from rfl, u1, u2, tdK_r]
      unfold rRoad1
      rw [if_neg (nI_nm1 (by omega))]
      show Φ (rRoad2 tx Z (nI a) (nI (stepF tx (stepF tx Z.1)).2.2.2.2.2.2.1) (useF tx Z.2.1 (stepF tx (stepF tx Z.1)) 0) k) _
      rcases use_sim ht u4 hB hN (s := 0) (by omega) i0 (by omega) with ⟨e, v1, v2⟩ | ⟨b, v1, v2, v3, v4⟩
      · rw [show (0 : Int32) = nI 0 from rfl, v1, v2, tdK_l]
        unfold rRoad2
        rw [if_pos rfl]
        exact hbad _ _ _ (tX_pl u4 e).1 (tX_pl u4 e).2
      · rw [show (0 : Int32) = nI 0 from rfl, v1, v2, tdK_r]
        unfold rRoad2
        rw [if_neg (nI_nm1 (by omega))]
        by_cases cab : nI a = nI b
        · rw [if_pos cab.symm, if_pos cab]
          refine hbad _ _ _ rfl ?_
          show nI (stepF tx (stepF tx Z.1)).2.2.2.2.2.2.1 = _
          rw [u4.1.2.2.2.1]
        · rw [if_neg (fun z => cab z.symm), if_neg cab]
          unfold mRoad2
          rcases kwNum_sim (α := α) (β := β) ht v4 (t := 14) (t' := 33) (by decide +kernel) (kb_ok (by omega) (by omega) (by omega)) (v := 0) (by decide) 1 60 (fun d N => kwNumK tx 15 0 999 d N (fun c N' => rRoad3 tx Z (nI a) (nI b) d c N' k)) (fun dy Q5 => nwK tx n Q5 34 (fun Q6 => tdK (whF tx n Q6 0 999) Q6 (fun co Q7 => mPostsK tx n C T.2.2.2.2.2.2.2 k' kf 3 (upd T.1 T.2.2.2.2.2.2.2 (nI a), upd T.2.1 T.2.2.2.2.2.2.2 (nI b), upd T.2.2.1 T.2.2.2.2.2.2.2 dy, upd T.2.2.2.1 T.2.2.2.2.2.2.2 co, T.2.2.2.2) Q7) kf) kf) kf with ⟨e, p, N', w1, w2, w3, w4⟩ | ⟨dy, N', Q', w1, w2, w3, w5, w4⟩
          · show Φ (kwNumK tx 14 1 60 0 (stepF tx (stepF tx (stepF tx Z.1))) (fun d N => kwNumK tx 15 0 999 d N (fun c N' => rRoad3 tx Z (nI a) (nI b) d c N' k))) _
            rw [w1, w4, kwNum_m1]
            unfold rRoad3
            rw [if_pos rfl]
            exact hbad _ _ _ w2 w3
          · show Φ (kwNumK tx 14 1 60 0 (stepF tx (stepF tx (stepF tx Z.1))) (fun d N => kwNumK tx 15 0 999 d N (fun c N' => rRoad3 tx Z (nI a) (nI b) d c N' k))) _
            rw [w1, w4]
            rcases kwNum_sim (α := α) (β := β) ht w2 (t := 15) (t' := 34) (by decide +kernel) (kb_ok (by omega) (by omega) (by omega)) (v := dy) (ge0_nm1 (by decide) w3) 0 999 (fun c N' => rRoad3 tx Z (nI a) (nI b) dy c N' k) (fun co Q7 => mPostsK tx n C T.2.2.2.2.2.2.2 k' kf 3 (upd T.1 T.2.2.2.2.2.2.2 (nI a), upd T.2.1 T.2.2.2.2.2.2.2 (nI b), upd T.2.2.1 T.2.2.2.2.2.2.2 dy, upd T.2.2.2.1 T.2.2.2.2.2.2.2 co, T.2.2.2.2) Q7) kf with ⟨e, p, N2, y1, y2, y3, y4⟩ | ⟨co, N2, Q2, y1, y2, y3, y5, y4⟩
            · rw [y1, y4]
              unfold rRoad3
              rw [if_pos rfl]
              exact hbad _ _ _ y2 y3
            · rw [y1, y4]
              unfold rRoad3
              rw [if_neg (ge0_nm1 (by decide) y3)]
              have w3' := Int32.le_iff_toInt_le.mp w3
              have w5' := Int32.le_iff_toInt_le.mp w5
              have y3' := Int32.le_iff_toInt_le.mp y3
              have y5' := Int32.le_iff_toInt_le.mp y5
              rw [show (1 : Int32).toInt = 1 by decide] at w3'
              rw [show (60 : Int32).toInt = 60 by decide] at w5'
              rw [I_0] at y3'
              rw [I_999] at y5'
              have hab : a ≠ b := fun z => cab (by rw [z])
              rw [hn]
              refine posts_sim ht hB hN hI (t0 := t0) (L := Z.2.2.2.1) (G := Z.2.2.2.2) (by omega) hok hbad 3 N2 (roadAdd Z.2.2.1 (nI a) (nI b) dy co) _ Q2 y2 (rAg_add hR hT) (rOk_add hRo c) ?_ (by show Z.2.2.1.2.2.2.2.2.2.2 + 1 = _; rw [hn]) rfl (fun i hi => hT.2 i (by omega)) ?_
              · exact rX_add hRx u3 v3 hab ⟨w3', w5'⟩ ⟨y3', y5'⟩
              · rw [rpN_add, if_pos hn.symm]
  · rw [if_neg c, if_pos (by omega)]
    exact hbad _ _ _ (tX_pl h 5).1 (tX_pl h 5).2
end ROAD

