def lPre (L L' : LT) : Prop := L_n L ≤ L_n L' ∧ ∀ i, i < L_n L → L'.1 i = L.1 i ∧ L'.2.1 i = L.2.1 i ∧ L'.2.2.1 i = L.2.2.1 i ∧ L'.2.2.2.1 i = L.2.2.2.1 i ∧ L'.2.2.2.2.1 i = L.2.2.2.2.1 i ∧ L'.2.2.2.2.2.1 i = L.2.2.2.2.2.1 i ∧ L'.2.2.2.2.2.2.1 i = L.2.2.2.2.2.2.1 i
theorem lPre_t {L L1 L2 : LT} (h : lPre L L1) (h2 : lPre L1 L2) : lPre L L2 := ⟨Nat.le_trans h.1 h2.1, fun i hi => by
  obtain ⟨a1, a2, a3, a4, a5, a6, a7⟩ := h.2 i hi
  obtain ⟨b1, b2, b3, b4, b5, b6, b7⟩ := h2.2 i (Nat.lt_of_lt_of_le hi h.1)
  exact ⟨b1.trans a1, b2.trans a2, b3.trans a3, b4.trans a4, b5.trans a5, b6.trans a6, b7.trans a7⟩⟩
theorem lPre_e {L L' : LT} (h : lEq L L') : lPre L L' := ⟨Nat.le_of_eq h.1.symm, h.2⟩
theorem lPre_s {L L' : LT} (hn : L_n L' = L_n L + 1) (h : lEq L (lawsC L' (L_n L))) : lPre L L' := ⟨by omega, h.2⟩

def tX14_readLaws : List q_I := [(0, .iconst 1, 1, 1, 0), (1, .istore_n 1, 1, 0, 0), (2, .iload_n 1, 1, 0, 0), (3, .ifCond .eq 51, 3, 0, 54), (6, .aload_n 0, 1, 0, 0), (7, .ldc 191, 2, 0, 0), (9, .invokevirtual 180, 3, 0, 0), (12, .ifCond .ne 9, 3, 0, 21), (15, .aload_n 0, 1, 0, 0), (16, .iconst 1, 1, 1, 0), (17, .invokevirtual 201, 3, 0, 0), (20, .athrow, 1, 0, 0), (21, .aload_n 0, 1, 0, 0), (22, .aload_n 0, 1, 0, 0), (23, .getfield 243, 3, 0, 0), (26, .invokevirtual 236, 3, 0, 0), (29, .aload_n 0, 1, 0, 0), (30, .getfield 158, 3, 0, 0), (33, .iconst 4, 1, 4, 0), (34, .if_icmp .ne 7, 3, 0, 41), (37, .iconst 1, 1, 1, 0), (38, .goto 4, 3, 0, 42), (41, .iconst 0, 1, 0, 0), (42, .istore_n 1, 1, 0, 0), (43, .iload_n 1, 1, 0, 0), (44, .ifCond .eq (-42), 3, 0, 2), (47, .aload_n 0, 1, 0, 0), (48, .invokevirtual 204, 3, 0, 0), (51, .goto (-49), 3, 0, 2), (54, .aload_n 0, 1, 0, 0), (55, .getfield 158, 3, 0, 0), (58, .iconst 1, 1, 1, 0), (59, .if_icmp .eq 9, 3, 0, 68), (62, .aload_n 0, 1, 0, 0), (63, .iconst 1, 1, 1, 0), (64, .invokevirtual 201, 3, 0, 0), (67, .athrow, 1, 0, 0), (68, .return_, 1, 0, 0)]
theorem tX14_readLaws_ok : (tX14_readLaws.all (q_okI cX14_readLaws)) = true := by decide +kernel

abbrev fdX14_readLaws : List (Nat ⊕ (Nat × Nat)) := [.inl 0, .inr (0, 7), .inr (0, 6), .inr (0, 5), .inr (3, 0), .inr (3, 1), .inr (3, 2), .inr (3, 3), .inr (3, 8), .inr (3, 9), .inr (3, 10), .inr (3, 11), .inr (3, 12), .inr (3, 13), .inr (3, 14), .inr (3, 15), .inr (3, 16), .inr (3, 17), .inr (3, 18), .inr (3, 19), .inr (3, 20), .inr (3, 21), .inr (3, 22), .inr (3, 23), .inr (3, 24), .inr (3, 25), .inr (3, 26), .inr (3, 27), .inr (3, 28)]
def spX14_readLaws : q_P := fun a w K => ∃ (th : Int32) (tr : Int32) (wh : Int32) (fa : Int32) (ta : Int32) (td : Int32) (pn : Int32) (mk : Int32) (mo : Int32) (sn : Int32) (bo : Int32) (jn : Int32) (qn : Int32) (cn : Int32) (n : Nat) (Q : QT) (bk : Value) (tx : Nat → Int32) (sk : Int32) (sp : Int32) (B : BT) (R : RT) (L : LT) (G : GT), w = (modelZ th tr wh fa ta td pn mk mo sn bo jn qn cn n Q bk tx sk sp B R L G) ∧ a = [.ref 0] ∧ n ≤ 700 ∧ Q.1 ≤ n ∧ bkZ bk ∧ B.2.2.2.2 ≤ 25 ∧ L_n L ≤ 24 ∧ mLawsL tx n td B (fun Q' L' => K (.inl none) (modelZ th tr wh fa ta td pn mk mo sn bo jn qn cn n (Q') bk tx sk sp B R (L') G)) (fun e p => ∀ Q' L', lPre L L' → K (.inr (.ref 2)) (modelZ th tr wh fa ta td pn mk mo sn bo jn qn cn n (Q') bk tx (e) (nI p) B R (L') G)) (n + 1) Q L
abbrev csX14_readLaws : q_S := (1, 14, 9, 2, 0, 0, fdX14_readLaws, spX14_readLaws)
theorem coX14_236 (l : Launch) : q_CO l RX14 236 csX14_readLaw := ⟨yX14_readLaw, cX14_readLaw, none, 1, ⟨by decide +kernel, by decide +kernel, by decide +kernel⟩, q_G_i 17 (by decide +kernel) rfl, Or.inl ⟨by decide, rfl, rfl, q_G_i 1650 (by decide +kernel) rfl, q_G_i 1652 (by decide +kernel) rfl, q_G_s (n := 53) 61 (by decide +kernel), Or.inl ⟨q_G_i 1653 (by decide +kernel) rfl, ctX14_readLaw l⟩⟩⟩
def EX14_readLaws : q_E := (tX14_readLaws, [(2, [0, 1])], 2, flX14, [(180, csX14_isWord), (201, csX14_stop), (236, csX14_readLaw), (204, csX14_next)], [], [], [(191, 28)], [], [], 9, 0, 0, none, [], [], 0, 0)
theorem okX14_readLaws (l : Launch) : q_Eok l RX14 cX14_readLaws EX14_readLaws := ⟨tX14_readLaws_ok, flX14_ok, List.forall_mem_cons.mpr ⟨(coX14_180 l), List.forall_mem_cons.mpr ⟨(coX14_201 l), List.forall_mem_cons.mpr ⟨(coX14_236 l), List.forall_mem_cons.mpr ⟨(coX14_204 l), q_nil⟩⟩⟩⟩, q_nil, q_nil, List.forall_mem_cons.mpr ⟨⟨_, rfl, rfl, rfl⟩, q_nil⟩, q_nil, q_nil, (fun h => absurd h (by decide))⟩
set_option maxRecDepth 100000 in
set_option maxHeartbeats 4000000 in
theorem ctX14_readLaws (l : Launch) : q_CT l yX14_readLaws (.code yX14_readLaws cX14_readLaws 2 none) 9 0 0 spX14_readLaws := by
  refine q_ct_of EX14_readLaws (by decide +kernel) (okX14_readLaws l) rfl rfl rfl rfl rfl q_nil (fun ci h => by cases h) rfl ?_
  intro a w K h
  obtain ⟨th, tr, wh, fa, ta, td, pn, mk, mo, sn, bo, jn, qn, cn, n, Q, bk, tx, sk, sp, B, R, L, G, rfl, rfl, hn, hQ, hbk, hB, hL, hK⟩ := h
  rcases hbk with rfl | rfl | rfl
  · refine ⟨Nat.le_of_ble_eq_true rfl, fun C hC => ?_⟩
    have c0 : ∀ (Q' : QT) (L' : LT), lPre L L' → (if Q'.2.1 = 1 then (fun Q' L' => K (.inl none) (modelZ th tr wh fa ta td pn mk mo sn bo jn qn cn n (Q') (.null) tx sk sp B R (L') G)) Q' L' else (fun e p => ∀ Q' L', lPre L L' → K (.inr (.ref 2)) (modelZ th tr wh fa ta td pn mk mo sn bo jn qn cn n (Q') (.null) tx (e) (nI p) B R (L') G)) 1 Q'.2.2.1) → C 2 [(0, .ref 0), (1, .int 0)] [] (modelZ th tr wh fa ta td pn mk mo sn bo jn qn cn n (Q') (.null) tx sk sp B R (L') G) 0 0 := by
      intro Q' L' hl hK
      refine hC _ _ _ _ _ _ (And.intro (fun _ => And.intro (fun c => ?_) (fun c => ?_)) (fun z => absurd rfl z))
      · rw [if_pos c] at hK; exact hK
      · rw [if_neg c] at hK
        exact ⟨_, _, _, _, _, _, _, _, _, _, _, _, _, _, _, Q', _, _, _, _, _, rfl, rfl, hK Q' L' hl⟩
    have loop : ∀ f (Q : QT) (Lj : LT), n < f + Q.1 → Q.1 ≤ n → L_n Lj ≤ 24 → lPre L Lj → mLawsL tx n td B (fun Q' L' => K (.inl none) (modelZ th tr wh fa ta td pn mk mo sn bo jn qn cn n (Q') (.null) tx sk sp B R (L') G)) (fun e p => ∀ Q' L', lPre L L' → K (.inr (.ref 2)) (modelZ th tr wh fa ta td pn mk mo sn bo jn qn cn n (Q') (.null) tx (e) (nI p) B R (L') G)) f Q Lj → C 2 [(0, .ref 0), (1, .int 1)] [] (modelZ th tr wh fa ta td pn mk mo sn bo jn qn cn n (Q) (.null) tx sk sp B R (Lj) G) 0 0 := by
      intro f
      induction f with
      | zero => intro Q Lj h1 h2; exact absurd h1 (by omega)
      | succ f ih =>
        intro Q Lj h1 hQ hL hl hK
        rw [mLawsL] at hK
        refine hC _ _ _ _ _ _ (And.intro (fun z => absurd z (by decide)) (fun _ => ⟨by decide, _, _, _, _, _, _, _, _, _, _, _, _, _, _, _, Q, _, 28, rfl, rfl, by decide, And.intro (fun c => ?_) (fun c => ?_)⟩))
        · rw [if_pos (bI_n0.mp c)] at hK
          refine ⟨_, _, _, _, _, _, _, _, _, _, _, _, _, _, _, Q, _, _, _, _, _, _, Lj, _, td, rfl, rfl, hn, hQ, (by first | exact Or.inl rfl | exact Or.inr (Or.inl rfl) | exact Or.inr (Or.inr rfl)), hB, hL, mLawK_mono hQ hL (fun Q' L' hQ' h4 hn1 hn2 hle hk => ?_) (fun e p hk => fun Q' L' hl' => hk Q' L' (lPre_t hl (lPre_e hl'))) hK⟩
          have hl2 := lPre_t hl (lPre_s hn1 hle)
          refine And.intro (fun c2 => ?_) (fun c2 => ?_)
          · rw [if_neg c2] at hk
            exact And.intro (fun _ => c0 Q' L' hl2 hk) (fun z => absurd rfl z)
          · rw [if_pos c2] at hk
            have hlt := h4.2 c2
            have hge : Q'.1 ≤ (nxF tx n Q').1 := nxF_ge (Nat.le_refl _)
            exact And.intro (fun z => absurd z (by decide)) (fun _ => ⟨_, _, _, _, _, _, _, _, _, _, _, _, _, _, _, Q', _, _, rfl, rfl, hn, hQ', (by first | exact Or.inl rfl | exact Or.inr rfl), ih (nxF tx n Q') L' (by omega) (nxF_le hQ') hn2 hl2 hk⟩)
        · rw [if_neg (by rw [bI_0.mp c]; decide)] at hK
          exact ⟨_, _, _, _, _, _, _, _, _, _, _, _, _, _, _, Q, _, _, _, _, _, rfl, rfl, hK Q Lj hl⟩
    exact hC _ _ _ _ _ _ (loop (n + 1) Q L (by omega) hQ hL ⟨Nat.le_refl _, fun _ _ => ⟨rfl, rfl, rfl, rfl, rfl, rfl, rfl⟩⟩ hK)
  · refine ⟨Nat.le_of_ble_eq_true rfl, fun C hC => ?_⟩
    have c0 : ∀ (Q' : QT) (L' : LT), lPre L L' → (if Q'.2.1 = 1 then (fun Q' L' => K (.inl none) (modelZ th tr wh fa ta td pn mk mo sn bo jn qn cn n (Q') (tk 0 4) tx sk sp B R (L') G)) Q' L' else (fun e p => ∀ Q' L', lPre L L' → K (.inr (.ref 2)) (modelZ th tr wh fa ta td pn mk mo sn bo jn qn cn n (Q') (tk 0 4) tx (e) (nI p) B R (L') G)) 1 Q'.2.2.1) → C 2 [(0, .ref 0), (1, .int 0)] [] (modelZ th tr wh fa ta td pn mk mo sn bo jn qn cn n (Q') (tk 0 4) tx sk sp B R (L') G) 0 0 := by
      intro Q' L' hl hK
      refine hC _ _ _ _ _ _ (And.intro (fun _ => And.intro (fun c => ?_) (fun c => ?_)) (fun z => absurd rfl z))
      · rw [if_pos c] at hK; exact hK
      · rw [if_neg c] at hK
        exact ⟨_, _, _, _, _, _, _, _, _, _, _, _, _, _, _, Q', _, _, _, _, _, rfl, rfl, hK Q' L' hl⟩
    have loop : ∀ f (Q : QT) (Lj : LT), n < f + Q.1 → Q.1 ≤ n → L_n Lj ≤ 24 → lPre L Lj → mLawsL tx n td B (fun Q' L' => K (.inl none) (modelZ th tr wh fa ta td pn mk mo sn bo jn qn cn n (Q') (tk 0 4) tx sk sp B R (L') G)) (fun e p => ∀ Q' L', lPre L L' → K (.inr (.ref 2)) (modelZ th tr wh fa ta td pn mk mo sn bo jn qn cn n (Q') (tk 0 4) tx (e) (nI p) B R (L') G)) f Q Lj → C 2 [(0, .ref 0), (1, .int 1)] [] (modelZ th tr wh fa ta td pn mk mo sn bo jn qn cn n (Q) (tk 0 4) tx sk sp B R (Lj) G) 0 0 := by
      intro f
      induction f with
      | zero => intro Q Lj h1 h2; exact absurd h1 (by omega)
      | succ f ih =>
        intro Q Lj h1 hQ hL hl hK
        rw [mLawsL] at hK
        refine hC _ _ _ _ _ _ (And.intro (fun z => absurd z (by decide)) (fun _ => ⟨by decide, _, _, _, _, _, _, _, _, _, _, _, _, _, _, _, Q, _, 28, rfl, rfl, by decide, And.intro (fun c => ?_) (fun c => ?_)⟩))
        · rw [if_pos (bI_n0.mp c)] at hK
          refine ⟨_, _, _, _, _, _, _, _, _, _, _, _, _, _, _, Q, _, _, _, _, _, _, Lj, _, td, rfl, rfl, hn, hQ, (by first | exact Or.inl rfl | exact Or.inr (Or.inl rfl) | exact Or.inr (Or.inr rfl)), hB, hL, mLawK_mono hQ hL (fun Q' L' hQ' h4 hn1 hn2 hle hk => ?_) (fun e p hk => fun Q' L' hl' => hk Q' L' (lPre_t hl (lPre_e hl'))) hK⟩
          have hl2 := lPre_t hl (lPre_s hn1 hle)
          refine And.intro (fun c2 => ?_) (fun c2 => ?_)
          · rw [if_neg c2] at hk
            exact And.intro (fun _ => c0 Q' L' hl2 hk) (fun z => absurd rfl z)
          · rw [if_pos c2] at hk
            have hlt := h4.2 c2
            have hge : Q'.1 ≤ (nxF tx n Q').1 := nxF_ge (Nat.le_refl _)
            exact And.intro (fun z => absurd z (by decide)) (fun _ => ⟨_, _, _, _, _, _, _, _, _, _, _, _, _, _, _, Q', _, _, rfl, rfl, hn, hQ', (by first | exact Or.inl rfl | exact Or.inr rfl), ih (nxF tx n Q') L' (by omega) (nxF_le hQ') hn2 hl2 hk⟩)
        · rw [if_neg (by rw [bI_0.mp c]; decide)] at hK
          exact ⟨_, _, _, _, _, _, _, _, _, _, _, _, _, _, _, Q, _, _, _, _, _, rfl, rfl, hK Q Lj hl⟩
    exact hC _ _ _ _ _ _ (loop (n + 1) Q L (by omega) hQ hL ⟨Nat.le_refl _, fun _ _ => ⟨rfl, rfl, rfl, rfl, rfl, rfl, rfl⟩⟩ hK)
  · refine ⟨Nat.le_of_ble_eq_true rfl, fun C hC => ?_⟩
    have c0 : ∀ (Q' : QT) (L' : LT), lPre L L' → (if Q'.2.1 = 1 then (fun Q' L' => K (.inl none) (modelZ th tr wh fa ta td pn mk mo sn bo jn qn cn n (Q') (.ref 3) tx sk sp B R (L') G)) Q' L' else (fun e p => ∀ Q' L', lPre L L' → K (.inr (.ref 2)) (modelZ th tr wh fa ta td pn mk mo sn bo jn qn cn n (Q') (.ref 3) tx (e) (nI p) B R (L') G)) 1 Q'.2.2.1) → C 2 [(0, .ref 0), (1, .int 0)] [] (modelZ th tr wh fa ta td pn mk mo sn bo jn qn cn n (Q') (.ref 3) tx sk sp B R (L') G) 0 0 := by
      intro Q' L' hl hK
      refine hC _ _ _ _ _ _ (And.intro (fun _ => And.intro (fun c => ?_) (fun c => ?_)) (fun z => absurd rfl z))
      · rw [if_pos c] at hK; exact hK
      · rw [if_neg c] at hK
        exact ⟨_, _, _, _, _, _, _, _, _, _, _, _, _, _, _, Q', _, _, _, _, _, rfl, rfl, hK Q' L' hl⟩
    have loop : ∀ f (Q : QT) (Lj : LT), n < f + Q.1 → Q.1 ≤ n → L_n Lj ≤ 24 → lPre L Lj → mLawsL tx n td B (fun Q' L' => K (.inl none) (modelZ th tr wh fa ta td pn mk mo sn bo jn qn cn n (Q') (.ref 3) tx sk sp B R (L') G)) (fun e p => ∀ Q' L', lPre L L' → K (.inr (.ref 2)) (modelZ th tr wh fa ta td pn mk mo sn bo jn qn cn n (Q') (.ref 3) tx (e) (nI p) B R (L') G)) f Q Lj → C 2 [(0, .ref 0), (1, .int 1)] [] (modelZ th tr wh fa ta td pn mk mo sn bo jn qn cn n (Q) (.ref 3) tx sk sp B R (Lj) G) 0 0 := by
      intro f
      induction f with
      | zero => intro Q Lj h1 h2; exact absurd h1 (by omega)
      | succ f ih =>
        intro Q Lj h1 hQ hL hl hK
        rw [mLawsL] at hK
        refine hC _ _ _ _ _ _ (And.intro (fun z => absurd z (by decide)) (fun _ => ⟨by decide, _, _, _, _, _, _, _, _, _, _, _, _, _, _, _, Q, _, 28, rfl, rfl, by decide, And.intro (fun c => ?_) (fun c => ?_)⟩))
        · rw [if_pos (bI_n0.mp c)] at hK
          refine ⟨_, _, _, _, _, _, _, _, _, _, _, _, _, _, _, Q, _, _, _, _, _, _, Lj, _, td, rfl, rfl, hn, hQ, (by first | exact Or.inl rfl | exact Or.inr (Or.inl rfl) | exact Or.inr (Or.inr rfl)), hB, hL, mLawK_mono hQ hL (fun Q' L' hQ' h4 hn1 hn2 hle hk => ?_) (fun e p hk => fun Q' L' hl' => hk Q' L' (lPre_t hl (lPre_e hl'))) hK⟩
          have hl2 := lPre_t hl (lPre_s hn1 hle)
          refine And.intro (fun c2 => ?_) (fun c2 => ?_)
          · rw [if_neg c2] at hk
            exact And.intro (fun _ => c0 Q' L' hl2 hk) (fun z => absurd rfl z)
          · rw [if_pos c2] at hk
            have hlt := h4.2 c2
            have hge : Q'.1 ≤ (nxF tx n Q').1 := nxF_ge (Nat.le_refl _)
            exact And.intro (fun z => absurd z (by decide)) (fun _ => ⟨_, _, _, _, _, _, _, _, _, _, _, _, _, _, _, Q', _, _, rfl, rfl, hn, hQ', (by first | exact Or.inl rfl | exact Or.inr rfl), ih (nxF tx n Q') L' (by omega) (nxF_le hQ') hn2 hl2 hk⟩)
        · rw [if_neg (by rw [bI_0.mp c]; decide)] at hK
          exact ⟨_, _, _, _, _, _, _, _, _, _, _, _, _, _, _, Q, _, _, _, _, _, rfl, rfl, hK Q Lj hl⟩
    exact hC _ _ _ _ _ _ (loop (n + 1) Q L (by omega) hQ hL ⟨Nat.le_refl _, fun _ _ => ⟨rfl, rfl, rfl, rfl, rfl, rfl, rfl⟩⟩ hK)
def tX14_readBook : List q_I := [(0, .iconst 1, 1, 1, 0), (1, .istore_n 1, 1, 0, 0), (2, .iload_n 1, 1, 0, 0), (3, .ifCond .eq 158, 3, 0, 161), (6, .aload_n 0, 1, 0, 0), (7, .ldc 179, 2, 0, 0), (9, .invokevirtual 180, 3, 0, 0), (12, .ifCond .eq 13, 3, 0, 25), (15, .aload_n 0, 1, 0, 0), (16, .iconst 0, 1, 0, 0), (17, .bipush 8, 2, 8, 0), (19, .invokevirtual 229, 3, 0, 0), (22, .goto 114, 3, 0, 136), (25, .aload_n 0, 1, 0, 0), (26, .ldc 184, 2, 0, 0), (28, .invokevirtual 180, 3, 0, 0), (31, .ifCond .eq 12, 3, 0, 43), (34, .aload_n 0, 1, 0, 0), (35, .iconst 1, 1, 1, 0), (36, .iconst 5, 1, 5, 0), (37, .invokevirtual 229, 3, 0, 0), (40, .goto 96, 3, 0, 136), (43, .aload_n 0, 1, 0, 0), (44, .ldc 186, 2, 0, 0), (46, .invokevirtual 180, 3, 0, 0), (49, .ifCond .eq 13, 3, 0, 62), (52, .aload_n 0, 1, 0, 0), (53, .iconst 2, 1, 2, 0), (54, .bipush 6, 2, 6, 0), (56, .invokevirtual 229, 3, 0, 0), (59, .goto 77, 3, 0, 136), (62, .aload_n 0, 1, 0, 0), (63, .ldc 188, 2, 0, 0), (65, .invokevirtual 180, 3, 0, 0), (68, .ifCond .eq 13, 3, 0, 81), (71, .aload_n 0, 1, 0, 0), (72, .iconst 3, 1, 3, 0), (73, .bipush 6, 2, 6, 0), (75, .invokevirtual 229, 3, 0, 0), (78, .goto 58, 3, 0, 136), (81, .aload_n 0, 1, 0, 0), (82, .ldc 189, 2, 0, 0), (84, .invokevirtual 180, 3, 0, 0), (87, .ifCond .eq 10, 3, 0, 97), (90, .aload_n 0, 1, 0, 0), (91, .invokevirtual 233, 3, 0, 0), (94, .goto 42, 3, 0, 136), (97, .aload_n 0, 1, 0, 0), (98, .ldc 191, 2, 0, 0), (100, .invokevirtual 180, 3, 0, 0), (103, .ifCond .eq 11, 3, 0, 114), (106, .aload_n 0, 1, 0, 0), (107, .iconst 0, 1, 0, 0), (108, .invokevirtual 236, 3, 0, 0), (111, .goto 25, 3, 0, 136), (114, .aload_n 0, 1, 0, 0), (115, .ldc 193, 2, 0, 0), (117, .invokevirtual 180, 3, 0, 0), (120, .ifCond .eq 10, 3, 0, 130), (123, .aload_n 0, 1, 0, 0), (124, .invokevirtual 240, 3, 0, 0), (127, .goto 9, 3, 0, 136), (130, .aload_n 0, 1, 0, 0), (131, .iconst 1, 1, 1, 0), (132, .invokevirtual 201, 3, 0, 0), (135, .athrow, 1, 0, 0), (136, .aload_n 0, 1, 0, 0), (137, .getfield 158, 3, 0, 0), (140, .iconst 4, 1, 4, 0), (141, .if_icmp .ne 7, 3, 0, 148), (144, .iconst 1, 1, 1, 0), (145, .goto 4, 3, 0, 149), (148, .iconst 0, 1, 0, 0), (149, .istore_n 1, 1, 0, 0), (150, .iload_n 1, 1, 0, 0), (151, .ifCond .eq (-149), 3, 0, 2), (154, .aload_n 0, 1, 0, 0), (155, .invokevirtual 204, 3, 0, 0), (158, .goto (-156), 3, 0, 2), (161, .aload_n 0, 1, 0, 0), (162, .getfield 158, 3, 0, 0), (165, .iconst 1, 1, 1, 0), (166, .if_icmp .eq 9, 3, 0, 175), (169, .aload_n 0, 1, 0, 0), (170, .iconst 1, 1, 1, 0), (171, .invokevirtual 201, 3, 0, 0), (174, .athrow, 1, 0, 0), (175, .return_, 1, 0, 0)]
theorem tX14_readBook_ok : (tX14_readBook.all (q_okI cX14_readBook)) = true := by decide +kernel

abbrev fdX14_readBook : List (Nat ⊕ (Nat × Nat)) := [.inl 0, .inr (0, 7), .inr (0, 6), .inr (0, 5), .inr (3, 0), .inr (3, 1), .inr (3, 2), .inr (3, 3), .inr (3, 8), .inr (3, 9), .inr (3, 10), .inr (3, 11), .inr (3, 12), .inr (3, 13), .inr (3, 14), .inr (3, 15), .inr (3, 16), .inr (3, 17), .inr (3, 18), .inr (3, 19), .inr (3, 20), .inr (3, 21), .inr (3, 22), .inr (3, 23), .inr (3, 24), .inr (3, 25), .inr (3, 26), .inr (3, 27), .inr (3, 28)]
def spX14_readBook : q_P := fun a w K => ∃ (th : Int32) (tr : Int32) (wh : Int32) (fa : Int32) (ta : Int32) (td : Int32) (pn : Int32) (mk : Int32) (mo : Int32) (sn : Int32) (bo : Int32) (jn : Int32) (qn : Int32) (cn : Int32) (n : Nat) (Q : QT) (bk : Value) (tx : Nat → Int32) (sk : Int32) (sp : Int32) (B : BT) (R : RT) (L : LT) (G : GT), w = (modelZ th tr wh fa ta td pn mk mo sn bo jn qn cn n Q bk tx sk sp B R L G) ∧ a = [.ref 0] ∧ n ≤ 700 ∧ Q.1 ≤ n ∧ bkZ bk ∧ bInv B ∧ rInv R ∧ L_n L ≤ 24 ∧ gInv G ∧ mBookL tx n (fun Q' B' R' L' G' => K (.inl none) (modelZ th tr wh fa ta td pn mk mo sn bo jn qn cn n (Q') bk tx sk sp (B') (R') (L') (G'))) (fun e p => ∀ Q' B' R' L' G', K (.inr (.ref 2)) (modelZ th tr wh fa ta td pn mk mo sn bo jn qn cn n (Q') bk tx (e) (nI p) (B') (R') (L') (G'))) (n + 1) Q B R L G
abbrev csX14_readBook : q_S := (1, 14, 10, 2, 0, 0, fdX14_readBook, spX14_readBook)
theorem coX14_229 (l : Launch) : q_CO l RX14 229 csX14_readThing := ⟨yX14_readThing, cX14_readThing, none, 2, ⟨by decide +kernel, by decide +kernel, by decide +kernel⟩, q_G_i 17 (by decide +kernel) rfl, Or.inl ⟨by decide, rfl, rfl, q_G_i 1603 (by decide +kernel) rfl, q_G_i 1605 (by decide +kernel) rfl, q_G_s (n := 53) 54 (by decide +kernel), Or.inl ⟨q_G_i 1606 (by decide +kernel) rfl, ctX14_readThing l⟩⟩⟩
theorem coX14_233 (l : Launch) : q_CO l RX14 233 csX14_readRoad := ⟨yX14_readRoad, cX14_readRoad, none, 0, ⟨by decide +kernel, by decide +kernel, by decide +kernel⟩, q_G_i 17 (by decide +kernel) rfl, Or.inl ⟨by decide, rfl, rfl, q_G_i 1628 (by decide +kernel) rfl, q_G_i 1630 (by decide +kernel) rfl, q_G_s (n := 53) 57 (by decide +kernel), Or.inl ⟨q_G_i 1631 (by decide +kernel) rfl, ctX14_readRoad l⟩⟩⟩
theorem coX14_240 (l : Launch) : q_CO l RX14 240 csX14_readGift := ⟨yX14_readGift, cX14_readGift, none, 0, ⟨by decide +kernel, by decide +kernel, by decide +kernel⟩, q_G_i 17 (by decide +kernel) rfl, Or.inl ⟨by decide, rfl, rfl, q_G_i 1659 (by decide +kernel) rfl, q_G_i 1661 (by decide +kernel) rfl, q_G_s (n := 53) 62 (by decide +kernel), Or.inl ⟨q_G_i 1662 (by decide +kernel) rfl, ctX14_readGift l⟩⟩⟩
def EX14_readBook : q_E := (tX14_readBook, [(2, [0, 1]), (136, [0])], 2, flX14, [(180, csX14_isWord), (229, csX14_readThing), (233, csX14_readRoad), (236, csX14_readLaw), (240, csX14_readGift), (201, csX14_stop), (204, csX14_next)], [], [], [(179, 23), (184, 24), (186, 25), (188, 26), (189, 27), (191, 28), (193, 29)], [], [], 10, 0, 0, none, [], [], 0, 0)
theorem okX14_readBook (l : Launch) : q_Eok l RX14 cX14_readBook EX14_readBook := ⟨tX14_readBook_ok, flX14_ok, List.forall_mem_cons.mpr ⟨(coX14_180 l), List.forall_mem_cons.mpr ⟨(coX14_229 l), List.forall_mem_cons.mpr ⟨(coX14_233 l), List.forall_mem_cons.mpr ⟨(coX14_236 l), List.forall_mem_cons.mpr ⟨(coX14_240 l), List.forall_mem_cons.mpr ⟨(coX14_201 l), List.forall_mem_cons.mpr ⟨(coX14_204 l), q_nil⟩⟩⟩⟩⟩⟩⟩, q_nil, q_nil, List.forall_mem_cons.mpr ⟨⟨_, rfl, rfl, rfl⟩, List.forall_mem_cons.mpr ⟨⟨_, rfl, rfl, rfl⟩, List.forall_mem_cons.mpr ⟨⟨_, rfl, rfl, rfl⟩, List.forall_mem_cons.mpr ⟨⟨_, rfl, rfl, rfl⟩, List.forall_mem_cons.mpr ⟨⟨_, rfl, rfl, rfl⟩, List.forall_mem_cons.mpr ⟨⟨_, rfl, rfl, rfl⟩, List.forall_mem_cons.mpr ⟨⟨_, rfl, rfl, rfl⟩, q_nil⟩⟩⟩⟩⟩⟩⟩, q_nil, q_nil, (fun h => absurd h (by decide))⟩
set_option maxRecDepth 100000 in
set_option maxHeartbeats 4000000 in
theorem ctX14_readBook (l : Launch) : q_CT l yX14_readBook (.code yX14_readBook cX14_readBook 2 none) 10 0 0 spX14_readBook := by
  refine q_ct_of EX14_readBook (by decide +kernel) (okX14_readBook l) rfl rfl rfl rfl rfl q_nil (fun ci h => by cases h) rfl ?_
  intro a w K h
  obtain ⟨th, tr, wh, fa, ta, td, pn, mk, mo, sn, bo, jn, qn, cn, n, Q, bk, tx, sk, sp, B, R, L, G, rfl, rfl, hn, hQ, hbk, hBi, hRi, hLi, hGi, hK⟩ := h
  rcases hbk with rfl | rfl | rfl
  · refine ⟨Nat.le_of_ble_eq_true rfl, fun C hC => ?_⟩
    have c0 : ∀ (Q' : QT) (B' : BT) (R' : RT) (L' : LT) (G' : GT), (if Q'.2.1 = 1 then (fun Q' B' R' L' G' => K (.inl none) (modelZ th tr wh fa ta td pn mk mo sn bo jn qn cn n (Q') (.null) tx sk sp (B') (R') (L') (G'))) Q' B' R' L' G' else (fun e p => ∀ Q' B' R' L' G', K (.inr (.ref 2)) (modelZ th tr wh fa ta td pn mk mo sn bo jn qn cn n (Q') (.null) tx (e) (nI p) (B') (R') (L') (G'))) 1 Q'.2.2.1) → C 2 [(0, .ref 0), (1, .int 0)] [] (modelZ th tr wh fa ta td pn mk mo sn bo jn qn cn n (Q') (.null) tx sk sp (B') (R') (L') (G')) 0 0 := by
      intro Q' B' R' L' G' hK
      refine hC _ _ _ _ _ _ (And.intro (fun _ => And.intro (fun c => ?_) (fun c => ?_)) (fun z => absurd rfl z))
      · rw [if_pos c] at hK; exact hK
      · rw [if_neg c] at hK
        exact ⟨_, _, _, _, _, _, _, _, _, _, _, _, _, _, _, Q', _, _, _, _, _, rfl, rfl, hK Q' B' R' L' G'⟩
    have loop : ∀ f (Q : QT) (B : BT) (R : RT) (L : LT) (G : GT), n < f + Q.1 → Q.1 ≤ n → bInv B → rInv R → L_n L ≤ 24 → gInv G → mBookL tx n (fun Q' B' R' L' G' => K (.inl none) (modelZ th tr wh fa ta td pn mk mo sn bo jn qn cn n (Q') (.null) tx sk sp (B') (R') (L') (G'))) (fun e p => ∀ Q' B' R' L' G', K (.inr (.ref 2)) (modelZ th tr wh fa ta td pn mk mo sn bo jn qn cn n (Q') (.null) tx (e) (nI p) (B') (R') (L') (G'))) f Q B R L G → C 2 [(0, .ref 0), (1, .int 1)] [] (modelZ th tr wh fa ta td pn mk mo sn bo jn qn cn n (Q) (.null) tx sk sp (B) (R) (L) (G)) 0 0 := by
      intro f
      induction f with
      | zero => intro Q B R L G h1 h2; exact absurd h1 (by omega)
      | succ f ih =>
        intro Q B R L G h1 hQ hBi hRi hLi hGi hK
        rw [mBookL] at hK
        have nx : ∀ (Q' : QT) (B' : BT) (R' : RT) (L' : LT) (G' : GT), Q'.1 ≤ n → lt4 Q Q' → bInv B' → rInv R' → L_n L' ≤ 24 → gInv G' → (if Q'.2.1 = 4 then mBookL tx n (fun Q' B' R' L' G' => K (.inl none) (modelZ th tr wh fa ta td pn mk mo sn bo jn qn cn n (Q') (.null) tx sk sp (B') (R') (L') (G'))) (fun e p => ∀ Q' B' R' L' G', K (.inr (.ref 2)) (modelZ th tr wh fa ta td pn mk mo sn bo jn qn cn n (Q') (.null) tx (e) (nI p) (B') (R') (L') (G'))) f (nxF tx n Q') B' R' L' G' else if Q'.2.1 = 1 then (fun Q' B' R' L' G' => K (.inl none) (modelZ th tr wh fa ta td pn mk mo sn bo jn qn cn n (Q') (.null) tx sk sp (B') (R') (L') (G'))) Q' B' R' L' G' else (fun e p => ∀ Q' B' R' L' G', K (.inr (.ref 2)) (modelZ th tr wh fa ta td pn mk mo sn bo jn qn cn n (Q') (.null) tx (e) (nI p) (B') (R') (L') (G'))) 1 Q'.2.2.1) → C 136 [(0, .ref 0)] [] (modelZ th tr wh fa ta td pn mk mo sn bo jn qn cn n (Q') (.null) tx sk sp (B') (R') (L') (G')) 0 0 := by
          intro Q' B' R' L' G' hQ' h4 hB' hR' hL' hG' hk
          refine hC _ _ _ _ _ _ (And.intro (fun c2 => ?_) (fun c2 => ?_))
          · rw [if_neg c2] at hk
            exact And.intro (fun _ => c0 Q' B' R' L' G' hk) (fun z => absurd rfl z)
          · rw [if_pos c2] at hk
            have hlt := h4.2 c2
            have hge : Q'.1 ≤ (nxF tx n Q').1 := nxF_ge (Nat.le_refl _)
            exact And.intro (fun z => absurd z (by decide)) (fun _ => ⟨_, _, _, _, _, _, _, _, _, _, _, _, _, _, _, Q', _, _, rfl, rfl, hn, hQ', (by first | exact Or.inl rfl | exact Or.inr rfl), ih (nxF tx n Q') B' R' L' G' (by omega) (nxF_le hQ') hB' hR' hL' hG' hk⟩)
        unfold mLineK at hK
        refine hC _ _ _ _ _ _ (And.intro (fun z => absurd z (by decide)) (fun _ => ?_))
        refine ⟨by decide, _, _, _, _, _, _, _, _, _, _, _, _, _, _, _, Q, _, 23, rfl, rfl, by decide, And.intro (fun c => ?_) (fun c => ?_)⟩
        rotate_left
        · rw [if_pos (bI_n0.mp c)] at hK
          exact ⟨_, _, _, _, _, _, _, _, _, _, _, _, _, _, _, Q, _, _, _, _, B, R, L, G, 0, 8, rfl, rfl, hn, hQ, (by first | exact Or.inl rfl | exact Or.inr (Or.inl rfl) | exact Or.inr (Or.inr rfl)), by decide, bInv_le hBi, (fun z => (bInv_tell (x := 0) hBi (by decide) z).1), mThK_mono (s := 0) hQ hBi (by decide) (fun Q' B' hQ' h4 hB' hk => nx Q' B' R L G hQ' h4 hB' hRi hLi hGi hk) (fun e p hk => fun Q' => hk Q' B R L G) hK⟩
        rw [if_neg (by rw [bI_0.mp c]; decide)] at hK
        refine ⟨by decide, _, _, _, _, _, _, _, _, _, _, _, _, _, _, _, Q, _, 24, rfl, rfl, by decide, And.intro (fun c => ?_) (fun c => ?_)⟩
        rotate_left
        · rw [if_pos (bI_n0.mp c)] at hK
          exact ⟨_, _, _, _, _, _, _, _, _, _, _, _, _, _, _, Q, _, _, _, _, B, R, L, G, 1, 5, rfl, rfl, hn, hQ, (by first | exact Or.inl rfl | exact Or.inr (Or.inl rfl) | exact Or.inr (Or.inr rfl)), by decide, bInv_le hBi, (fun z => (bInv_tell (x := 0) hBi (by decide) z).1), mThK_mono (s := 1) hQ hBi (by decide) (fun Q' B' hQ' h4 hB' hk => nx Q' B' R L G hQ' h4 hB' hRi hLi hGi hk) (fun e p hk => fun Q' => hk Q' B R L G) hK⟩
        rw [if_neg (by rw [bI_0.mp c]; decide)] at hK
        refine ⟨by decide, _, _, _, _, _, _, _, _, _, _, _, _, _, _, _, Q, _, 25, rfl, rfl, by decide, And.intro (fun c => ?_) (fun c => ?_)⟩
        rotate_left
        · rw [if_pos (bI_n0.mp c)] at hK
          exact ⟨_, _, _, _, _, _, _, _, _, _, _, _, _, _, _, Q, _, _, _, _, B, R, L, G, 2, 6, rfl, rfl, hn, hQ, (by first | exact Or.inl rfl | exact Or.inr (Or.inl rfl) | exact Or.inr (Or.inr rfl)), by decide, bInv_le hBi, (fun z => (bInv_tell (x := 0) hBi (by decide) z).1), mThK_mono (s := 2) hQ hBi (by decide) (fun Q' B' hQ' h4 hB' hk => nx Q' B' R L G hQ' h4 hB' hRi hLi hGi hk) (fun e p hk => fun Q' => hk Q' B R L G) hK⟩
        rw [if_neg (by rw [bI_0.mp c]; decide)] at hK
        refine ⟨by decide, _, _, _, _, _, _, _, _, _, _, _, _, _, _, _, Q, _, 26, rfl, rfl, by decide, And.intro (fun c => ?_) (fun c => ?_)⟩
        rotate_left
        · rw [if_pos (bI_n0.mp c)] at hK
          exact ⟨_, _, _, _, _, _, _, _, _, _, _, _, _, _, _, Q, _, _, _, _, B, R, L, G, 3, 6, rfl, rfl, hn, hQ, (by first | exact Or.inl rfl | exact Or.inr (Or.inl rfl) | exact Or.inr (Or.inr rfl)), by decide, bInv_le hBi, (fun z => (bInv_tell (x := 0) hBi (by decide) z).1), mThK_mono (s := 3) hQ hBi (by decide) (fun Q' B' hQ' h4 hB' hk => nx Q' B' R L G hQ' h4 hB' hRi hLi hGi hk) (fun e p hk => fun Q' => hk Q' B R L G) hK⟩
        rw [if_neg (by rw [bI_0.mp c]; decide)] at hK
        refine ⟨by decide, _, _, _, _, _, _, _, _, _, _, _, _, _, _, _, Q, _, 27, rfl, rfl, by decide, And.intro (fun c => ?_) (fun c => ?_)⟩
        rotate_left
        · rw [if_pos (bI_n0.mp c)] at hK
          exact ⟨_, _, _, _, _, _, _, _, _, _, _, _, _, _, _, Q, _, _, _, _, B, R, L, G, rfl, rfl, hn, hQ, (by first | exact Or.inl rfl | exact Or.inr (Or.inl rfl) | exact Or.inr (Or.inr rfl)), bInv_le hBi, hRi.1, (fun _ => hRi.2 _ (Nat.le_refl _)), mRoadK_mono hQ hRi (fun Q' R' hQ' h4 hR' hk => nx Q' B R' L G hQ' h4 hBi hR' hLi hGi hk) (fun e p hk => fun Q' R' => hk Q' B R' L G) hK⟩
        rw [if_neg (by rw [bI_0.mp c]; decide)] at hK
        refine ⟨by decide, _, _, _, _, _, _, _, _, _, _, _, _, _, _, _, Q, _, 28, rfl, rfl, by decide, And.intro (fun c => ?_) (fun c => ?_)⟩
        rotate_left
        · rw [if_pos (bI_n0.mp c)] at hK
          exact ⟨_, _, _, _, _, _, _, _, _, _, _, _, _, _, _, Q, _, _, _, _, B, R, L, G, 0, rfl, rfl, hn, hQ, (by first | exact Or.inl rfl | exact Or.inr (Or.inl rfl) | exact Or.inr (Or.inr rfl)), bInv_le hBi, hLi, mLawK_mono hQ hLi (fun Q' L' hQ' h4 _ hn2 _ hk => nx Q' B R L' G hQ' h4 hBi hRi hn2 hGi hk) (fun e p hk => fun Q' L' _ => hk Q' B R L' G) hK⟩
        rw [if_neg (by rw [bI_0.mp c]; decide)] at hK
        refine ⟨by decide, _, _, _, _, _, _, _, _, _, _, _, _, _, _, _, Q, _, 29, rfl, rfl, by decide, And.intro (fun c => ?_) (fun c => ?_)⟩
        rotate_left
        · rw [if_pos (bI_n0.mp c)] at hK
          exact ⟨_, _, _, _, _, _, _, _, _, _, _, _, _, _, _, Q, _, _, _, _, B, R, L, G, rfl, rfl, hn, hQ, (by first | exact Or.inl rfl | exact Or.inr (Or.inl rfl) | exact Or.inr (Or.inr rfl)), bInv_le hBi, hGi.1, (fun _ => hGi.2 _ (Nat.le_refl _)), mGiftK_mono hQ hGi (fun Q' G' hQ' h4 hG' hk => nx Q' B R L G' hQ' h4 hBi hRi hLi hG' hk) (fun e p hk => fun Q' G' => hk Q' B R L G') hK⟩
        rw [if_neg (by rw [bI_0.mp c]; decide)] at hK
        exact ⟨_, _, _, _, _, _, _, _, _, _, _, _, _, _, _, Q, _, _, _, _, _, rfl, rfl, hK Q B R L G⟩
    exact hC _ _ _ _ _ _ (loop (n + 1) Q B R L G (by omega) hQ hBi hRi hLi hGi hK)
  · refine ⟨Nat.le_of_ble_eq_true rfl, fun C hC => ?_⟩
    have c0 : ∀ (Q' : QT) (B' : BT) (R' : RT) (L' : LT) (G' : GT), (if Q'.2.1 = 1 then (fun Q' B' R' L' G' => K (.inl none) (modelZ th tr wh fa ta td pn mk mo sn bo jn qn cn n (Q') (tk 0 4) tx sk sp (B') (R') (L') (G'))) Q' B' R' L' G' else (fun e p => ∀ Q' B' R' L' G', K (.inr (.ref 2)) (modelZ th tr wh fa ta td pn mk mo sn bo jn qn cn n (Q') (tk 0 4) tx (e) (nI p) (B') (R') (L') (G'))) 1 Q'.2.2.1) → C 2 [(0, .ref 0), (1, .int 0)] [] (modelZ th tr wh fa ta td pn mk mo sn bo jn qn cn n (Q') (tk 0 4) tx sk sp (B') (R') (L') (G')) 0 0 := by
      intro Q' B' R' L' G' hK
      refine hC _ _ _ _ _ _ (And.intro (fun _ => And.intro (fun c => ?_) (fun c => ?_)) (fun z => absurd rfl z))
      · rw [if_pos c] at hK; exact hK
      · rw [if_neg c] at hK
        exact ⟨_, _, _, _, _, _, _, _, _, _, _, _, _, _, _, Q', _, _, _, _, _, rfl, rfl, hK Q' B' R' L' G'⟩
    have loop : ∀ f (Q : QT) (B : BT) (R : RT) (L : LT) (G : GT), n < f + Q.1 → Q.1 ≤ n → bInv B → rInv R → L_n L ≤ 24 → gInv G → mBookL tx n (fun Q' B' R' L' G' => K (.inl none) (modelZ th tr wh fa ta td pn mk mo sn bo jn qn cn n (Q') (tk 0 4) tx sk sp (B') (R') (L') (G'))) (fun e p => ∀ Q' B' R' L' G', K (.inr (.ref 2)) (modelZ th tr wh fa ta td pn mk mo sn bo jn qn cn n (Q') (tk 0 4) tx (e) (nI p) (B') (R') (L') (G'))) f Q B R L G → C 2 [(0, .ref 0), (1, .int 1)] [] (modelZ th tr wh fa ta td pn mk mo sn bo jn qn cn n (Q) (tk 0 4) tx sk sp (B) (R) (L) (G)) 0 0 := by
      intro f
      induction f with
      | zero => intro Q B R L G h1 h2; exact absurd h1 (by omega)
      | succ f ih =>
        intro Q B R L G h1 hQ hBi hRi hLi hGi hK
        rw [mBookL] at hK
        have nx : ∀ (Q' : QT) (B' : BT) (R' : RT) (L' : LT) (G' : GT), Q'.1 ≤ n → lt4 Q Q' → bInv B' → rInv R' → L_n L' ≤ 24 → gInv G' → (if Q'.2.1 = 4 then mBookL tx n (fun Q' B' R' L' G' => K (.inl none) (modelZ th tr wh fa ta td pn mk mo sn bo jn qn cn n (Q') (tk 0 4) tx sk sp (B') (R') (L') (G'))) (fun e p => ∀ Q' B' R' L' G', K (.inr (.ref 2)) (modelZ th tr wh fa ta td pn mk mo sn bo jn qn cn n (Q') (tk 0 4) tx (e) (nI p) (B') (R') (L') (G'))) f (nxF tx n Q') B' R' L' G' else if Q'.2.1 = 1 then (fun Q' B' R' L' G' => K (.inl none) (modelZ th tr wh fa ta td pn mk mo sn bo jn qn cn n (Q') (tk 0 4) tx sk sp (B') (R') (L') (G'))) Q' B' R' L' G' else (fun e p => ∀ Q' B' R' L' G', K (.inr (.ref 2)) (modelZ th tr wh fa ta td pn mk mo sn bo jn qn cn n (Q') (tk 0 4) tx (e) (nI p) (B') (R') (L') (G'))) 1 Q'.2.2.1) → C 136 [(0, .ref 0)] [] (modelZ th tr wh fa ta td pn mk mo sn bo jn qn cn n (Q') (tk 0 4) tx sk sp (B') (R') (L') (G')) 0 0 := by
          intro Q' B' R' L' G' hQ' h4 hB' hR' hL' hG' hk
          refine hC _ _ _ _ _ _ (And.intro (fun c2 => ?_) (fun c2 => ?_))
          · rw [if_neg c2] at hk
            exact And.intro (fun _ => c0 Q' B' R' L' G' hk) (fun z => absurd rfl z)
          · rw [if_pos c2] at hk
            have hlt := h4.2 c2
            have hge : Q'.1 ≤ (nxF tx n Q').1 := nxF_ge (Nat.le_refl _)
            exact And.intro (fun z => absurd z (by decide)) (fun _ => ⟨_, _, _, _, _, _, _, _, _, _, _, _, _, _, _, Q', _, _, rfl, rfl, hn, hQ', (by first | exact Or.inl rfl | exact Or.inr rfl), ih (nxF tx n Q') B' R' L' G' (by omega) (nxF_le hQ') hB' hR' hL' hG' hk⟩)
        unfold mLineK at hK
        refine hC _ _ _ _ _ _ (And.intro (fun z => absurd z (by decide)) (fun _ => ?_))
        refine ⟨by decide, _, _, _, _, _, _, _, _, _, _, _, _, _, _, _, Q, _, 23, rfl, rfl, by decide, And.intro (fun c => ?_) (fun c => ?_)⟩
        rotate_left
        · rw [if_pos (bI_n0.mp c)] at hK
          exact ⟨_, _, _, _, _, _, _, _, _, _, _, _, _, _, _, Q, _, _, _, _, B, R, L, G, 0, 8, rfl, rfl, hn, hQ, (by first | exact Or.inl rfl | exact Or.inr (Or.inl rfl) | exact Or.inr (Or.inr rfl)), by decide, bInv_le hBi, (fun z => (bInv_tell (x := 0) hBi (by decide) z).1), mThK_mono (s := 0) hQ hBi (by decide) (fun Q' B' hQ' h4 hB' hk => nx Q' B' R L G hQ' h4 hB' hRi hLi hGi hk) (fun e p hk => fun Q' => hk Q' B R L G) hK⟩
        rw [if_neg (by rw [bI_0.mp c]; decide)] at hK
        refine ⟨by decide, _, _, _, _, _, _, _, _, _, _, _, _, _, _, _, Q, _, 24, rfl, rfl, by decide, And.intro (fun c => ?_) (fun c => ?_)⟩
        rotate_left
        · rw [if_pos (bI_n0.mp c)] at hK
          exact ⟨_, _, _, _, _, _, _, _, _, _, _, _, _, _, _, Q, _, _, _, _, B, R, L, G, 1, 5, rfl, rfl, hn, hQ, (by first | exact Or.inl rfl | exact Or.inr (Or.inl rfl) | exact Or.inr (Or.inr rfl)), by decide, bInv_le hBi, (fun z => (bInv_tell (x := 0) hBi (by decide) z).1), mThK_mono (s := 1) hQ hBi (by decide) (fun Q' B' hQ' h4 hB' hk => nx Q' B' R L G hQ' h4 hB' hRi hLi hGi hk) (fun e p hk => fun Q' => hk Q' B R L G) hK⟩
        rw [if_neg (by rw [bI_0.mp c]; decide)] at hK
        refine ⟨by decide, _, _, _, _, _, _, _, _, _, _, _, _, _, _, _, Q, _, 25, rfl, rfl, by decide, And.intro (fun c => ?_) (fun c => ?_)⟩
        rotate_left
        · rw [if_pos (bI_n0.mp c)] at hK
          exact ⟨_, _, _, _, _, _, _, _, _, _, _, _, _, _, _, Q, _, _, _, _, B, R, L, G, 2, 6, rfl, rfl, hn, hQ, (by first | exact Or.inl rfl | exact Or.inr (Or.inl rfl) | exact Or.inr (Or.inr rfl)), by decide, bInv_le hBi, (fun z => (bInv_tell (x := 0) hBi (by decide) z).1), mThK_mono (s := 2) hQ hBi (by decide) (fun Q' B' hQ' h4 hB' hk => nx Q' B' R L G hQ' h4 hB' hRi hLi hGi hk) (fun e p hk => fun Q' => hk Q' B R L G) hK⟩
        rw [if_neg (by rw [bI_0.mp c]; decide)] at hK
        refine ⟨by decide, _, _, _, _, _, _, _, _, _, _, _, _, _, _, _, Q, _, 26, rfl, rfl, by decide, And.intro (fun c => ?_) (fun c => ?_)⟩
        rotate_left
        · rw [if_pos (bI_n0.mp c)] at hK
          exact ⟨_, _, _, _, _, _, _, _, _, _, _, _, _, _, _, Q, _, _, _, _, B, R, L, G, 3, 6, rfl, rfl, hn, hQ, (by first | exact Or.inl rfl | exact Or.inr (Or.inl rfl) | exact Or.inr (Or.inr rfl)), by decide, bInv_le hBi, (fun z => (bInv_tell (x := 0) hBi (by decide) z).1), mThK_mono (s := 3) hQ hBi (by decide) (fun Q' B' hQ' h4 hB' hk => nx Q' B' R L G hQ' h4 hB' hRi hLi hGi hk) (fun e p hk => fun Q' => hk Q' B R L G) hK⟩
        rw [if_neg (by rw [bI_0.mp c]; decide)] at hK
        refine ⟨by decide, _, _, _, _, _, _, _, _, _, _, _, _, _, _, _, Q, _, 27, rfl, rfl, by decide, And.intro (fun c => ?_) (fun c => ?_)⟩
        rotate_left
        · rw [if_pos (bI_n0.mp c)] at hK
          exact ⟨_, _, _, _, _, _, _, _, _, _, _, _, _, _, _, Q, _, _, _, _, B, R, L, G, rfl, rfl, hn, hQ, (by first | exact Or.inl rfl | exact Or.inr (Or.inl rfl) | exact Or.inr (Or.inr rfl)), bInv_le hBi, hRi.1, (fun _ => hRi.2 _ (Nat.le_refl _)), mRoadK_mono hQ hRi (fun Q' R' hQ' h4 hR' hk => nx Q' B R' L G hQ' h4 hBi hR' hLi hGi hk) (fun e p hk => fun Q' R' => hk Q' B R' L G) hK⟩
        rw [if_neg (by rw [bI_0.mp c]; decide)] at hK
        refine ⟨by decide, _, _, _, _, _, _, _, _, _, _, _, _, _, _, _, Q, _, 28, rfl, rfl, by decide, And.intro (fun c => ?_) (fun c => ?_)⟩
        rotate_left
        · rw [if_pos (bI_n0.mp c)] at hK
          exact ⟨_, _, _, _, _, _, _, _, _, _, _, _, _, _, _, Q, _, _, _, _, B, R, L, G, 0, rfl, rfl, hn, hQ, (by first | exact Or.inl rfl | exact Or.inr (Or.inl rfl) | exact Or.inr (Or.inr rfl)), bInv_le hBi, hLi, mLawK_mono hQ hLi (fun Q' L' hQ' h4 _ hn2 _ hk => nx Q' B R L' G hQ' h4 hBi hRi hn2 hGi hk) (fun e p hk => fun Q' L' _ => hk Q' B R L' G) hK⟩
        rw [if_neg (by rw [bI_0.mp c]; decide)] at hK
        refine ⟨by decide, _, _, _, _, _, _, _, _, _, _, _, _, _, _, _, Q, _, 29, rfl, rfl, by decide, And.intro (fun c => ?_) (fun c => ?_)⟩
        rotate_left
        · rw [if_pos (bI_n0.mp c)] at hK
          exact ⟨_, _, _, _, _, _, _, _, _, _, _, _, _, _, _, Q, _, _, _, _, B, R, L, G, rfl, rfl, hn, hQ, (by first | exact Or.inl rfl | exact Or.inr (Or.inl rfl) | exact Or.inr (Or.inr rfl)), bInv_le hBi, hGi.1, (fun _ => hGi.2 _ (Nat.le_refl _)), mGiftK_mono hQ hGi (fun Q' G' hQ' h4 hG' hk => nx Q' B R L G' hQ' h4 hBi hRi hLi hG' hk) (fun e p hk => fun Q' G' => hk Q' B R L G') hK⟩
        rw [if_neg (by rw [bI_0.mp c]; decide)] at hK
        exact ⟨_, _, _, _, _, _, _, _, _, _, _, _, _, _, _, Q, _, _, _, _, _, rfl, rfl, hK Q B R L G⟩
    exact hC _ _ _ _ _ _ (loop (n + 1) Q B R L G (by omega) hQ hBi hRi hLi hGi hK)
  · refine ⟨Nat.le_of_ble_eq_true rfl, fun C hC => ?_⟩
    have c0 : ∀ (Q' : QT) (B' : BT) (R' : RT) (L' : LT) (G' : GT), (if Q'.2.1 = 1 then (fun Q' B' R' L' G' => K (.inl none) (modelZ th tr wh fa ta td pn mk mo sn bo jn qn cn n (Q') (.ref 3) tx sk sp (B') (R') (L') (G'))) Q' B' R' L' G' else (fun e p => ∀ Q' B' R' L' G', K (.inr (.ref 2)) (modelZ th tr wh fa ta td pn mk mo sn bo jn qn cn n (Q') (.ref 3) tx (e) (nI p) (B') (R') (L') (G'))) 1 Q'.2.2.1) → C 2 [(0, .ref 0), (1, .int 0)] [] (modelZ th tr wh fa ta td pn mk mo sn bo jn qn cn n (Q') (.ref 3) tx sk sp (B') (R') (L') (G')) 0 0 := by
      intro Q' B' R' L' G' hK
      refine hC _ _ _ _ _ _ (And.intro (fun _ => And.intro (fun c => ?_) (fun c => ?_)) (fun z => absurd rfl z))
      · rw [if_pos c] at hK; exact hK
      · rw [if_neg c] at hK
        exact ⟨_, _, _, _, _, _, _, _, _, _, _, _, _, _, _, Q', _, _, _, _, _, rfl, rfl, hK Q' B' R' L' G'⟩
    have loop : ∀ f (Q : QT) (B : BT) (R : RT) (L : LT) (G : GT), n < f + Q.1 → Q.1 ≤ n → bInv B → rInv R → L_n L ≤ 24 → gInv G → mBookL tx n (fun Q' B' R' L' G' => K (.inl none) (modelZ th tr wh fa ta td pn mk mo sn bo jn qn cn n (Q') (.ref 3) tx sk sp (B') (R') (L') (G'))) (fun e p => ∀ Q' B' R' L' G', K (.inr (.ref 2)) (modelZ th tr wh fa ta td pn mk mo sn bo jn qn cn n (Q') (.ref 3) tx (e) (nI p) (B') (R') (L') (G'))) f Q B R L G → C 2 [(0, .ref 0), (1, .int 1)] [] (modelZ th tr wh fa ta td pn mk mo sn bo jn qn cn n (Q) (.ref 3) tx sk sp (B) (R) (L) (G)) 0 0 := by
      intro f
      induction f with
      | zero => intro Q B R L G h1 h2; exact absurd h1 (by omega)
      | succ f ih =>
        intro Q B R L G h1 hQ hBi hRi hLi hGi hK
        rw [mBookL] at hK
        have nx : ∀ (Q' : QT) (B' : BT) (R' : RT) (L' : LT) (G' : GT), Q'.1 ≤ n → lt4 Q Q' → bInv B' → rInv R' → L_n L' ≤ 24 → gInv G' → (if Q'.2.1 = 4 then mBookL tx n (fun Q' B' R' L' G' => K (.inl none) (modelZ th tr wh fa ta td pn mk mo sn bo jn qn cn n (Q') (.ref 3) tx sk sp (B') (R') (L') (G'))) (fun e p => ∀ Q' B' R' L' G', K (.inr (.ref 2)) (modelZ th tr wh fa ta td pn mk mo sn bo jn qn cn n (Q') (.ref 3) tx (e) (nI p) (B') (R') (L') (G'))) f (nxF tx n Q') B' R' L' G' else if Q'.2.1 = 1 then (fun Q' B' R' L' G' => K (.inl none) (modelZ th tr wh fa ta td pn mk mo sn bo jn qn cn n (Q') (.ref 3) tx sk sp (B') (R') (L') (G'))) Q' B' R' L' G' else (fun e p => ∀ Q' B' R' L' G', K (.inr (.ref 2)) (modelZ th tr wh fa ta td pn mk mo sn bo jn qn cn n (Q') (.ref 3) tx (e) (nI p) (B') (R') (L') (G'))) 1 Q'.2.2.1) → C 136 [(0, .ref 0)] [] (modelZ th tr wh fa ta td pn mk mo sn bo jn qn cn n (Q') (.ref 3) tx sk sp (B') (R') (L') (G')) 0 0 := by
          intro Q' B' R' L' G' hQ' h4 hB' hR' hL' hG' hk
          refine hC _ _ _ _ _ _ (And.intro (fun c2 => ?_) (fun c2 => ?_))
          · rw [if_neg c2] at hk
            exact And.intro (fun _ => c0 Q' B' R' L' G' hk) (fun z => absurd rfl z)
          · rw [if_pos c2] at hk
            have hlt := h4.2 c2
            have hge : Q'.1 ≤ (nxF tx n Q').1 := nxF_ge (Nat.le_refl _)
            exact And.intro (fun z => absurd z (by decide)) (fun _ => ⟨_, _, _, _, _, _, _, _, _, _, _, _, _, _, _, Q', _, _, rfl, rfl, hn, hQ', (by first | exact Or.inl rfl | exact Or.inr rfl), ih (nxF tx n Q') B' R' L' G' (by omega) (nxF_le hQ') hB' hR' hL' hG' hk⟩)
        unfold mLineK at hK
        refine hC _ _ _ _ _ _ (And.intro (fun z => absurd z (by decide)) (fun _ => ?_))
        refine ⟨by decide, _, _, _, _, _, _, _, _, _, _, _, _, _, _, _, Q, _, 23, rfl, rfl, by decide, And.intro (fun c => ?_) (fun c => ?_)⟩
        rotate_left
        · rw [if_pos (bI_n0.mp c)] at hK
          exact ⟨_, _, _, _, _, _, _, _, _, _, _, _, _, _, _, Q, _, _, _, _, B, R, L, G, 0, 8, rfl, rfl, hn, hQ, (by first | exact Or.inl rfl | exact Or.inr (Or.inl rfl) | exact Or.inr (Or.inr rfl)), by decide, bInv_le hBi, (fun z => (bInv_tell (x := 0) hBi (by decide) z).1), mThK_mono (s := 0) hQ hBi (by decide) (fun Q' B' hQ' h4 hB' hk => nx Q' B' R L G hQ' h4 hB' hRi hLi hGi hk) (fun e p hk => fun Q' => hk Q' B R L G) hK⟩
        rw [if_neg (by rw [bI_0.mp c]; decide)] at hK
        refine ⟨by decide, _, _, _, _, _, _, _, _, _, _, _, _, _, _, _, Q, _, 24, rfl, rfl, by decide, And.intro (fun c => ?_) (fun c => ?_)⟩
        rotate_left
        · rw [if_pos (bI_n0.mp c)] at hK
          exact ⟨_, _, _, _, _, _, _, _, _, _, _, _, _, _, _, Q, _, _, _, _, B, R, L, G, 1, 5, rfl, rfl, hn, hQ, (by first | exact Or.inl rfl | exact Or.inr (Or.inl rfl) | exact Or.inr (Or.inr rfl)), by decide, bInv_le hBi, (fun z => (bInv_tell (x := 0) hBi (by decide) z).1), mThK_mono (s := 1) hQ hBi (by decide) (fun Q' B' hQ' h4 hB' hk => nx Q' B' R L G hQ' h4 hB' hRi hLi hGi hk) (fun e p hk => fun Q' => hk Q' B R L G) hK⟩
        rw [if_neg (by rw [bI_0.mp c]; decide)] at hK
        refine ⟨by decide, _, _, _, _, _, _, _, _, _, _, _, _, _, _, _, Q, _, 25, rfl, rfl, by decide, And.intro (fun c => ?_) (fun c => ?_)⟩
        rotate_left
        · rw [if_pos (bI_n0.mp c)] at hK
          exact ⟨_, _, _, _, _, _, _, _, _, _, _, _, _, _, _, Q, _, _, _, _, B, R, L, G, 2, 6, rfl, rfl, hn, hQ, (by first | exact Or.inl rfl | exact Or.inr (Or.inl rfl) | exact Or.inr (Or.inr rfl)), by decide, bInv_le hBi, (fun z => (bInv_tell (x := 0) hBi (by decide) z).1), mThK_mono (s := 2) hQ hBi (by decide) (fun Q' B' hQ' h4 hB' hk => nx Q' B' R L G hQ' h4 hB' hRi hLi hGi hk) (fun e p hk => fun Q' => hk Q' B R L G) hK⟩
        rw [if_neg (by rw [bI_0.mp c]; decide)] at hK
        refine ⟨by decide, _, _, _, _, _, _, _, _, _, _, _, _, _, _, _, Q, _, 26, rfl, rfl, by decide, And.intro (fun c => ?_) (fun c => ?_)⟩
        rotate_left
        · rw [if_pos (bI_n0.mp c)] at hK
          exact ⟨_, _, _, _, _, _, _, _, _, _, _, _, _, _, _, Q, _, _, _, _, B, R, L, G, 3, 6, rfl, rfl, hn, hQ, (by first | exact Or.inl rfl | exact Or.inr (Or.inl rfl) | exact Or.inr (Or.inr rfl)), by decide, bInv_le hBi, (fun z => (bInv_tell (x := 0) hBi (by decide) z).1), mThK_mono (s := 3) hQ hBi (by decide) (fun Q' B' hQ' h4 hB' hk => nx Q' B' R L G hQ' h4 hB' hRi hLi hGi hk) (fun e p hk => fun Q' => hk Q' B R L G) hK⟩
        rw [if_neg (by rw [bI_0.mp c]; decide)] at hK
        refine ⟨by decide, _, _, _, _, _, _, _, _, _, _, _, _, _, _, _, Q, _, 27, rfl, rfl, by decide, And.intro (fun c => ?_) (fun c => ?_)⟩
        rotate_left
        · rw [if_pos (bI_n0.mp c)] at hK
          exact ⟨_, _, _, _, _, _, _, _, _, _, _, _, _, _, _, Q, _, _, _, _, B, R, L, G, rfl, rfl, hn, hQ, (by first | exact Or.inl rfl | exact Or.inr (Or.inl rfl) | exact Or.inr (Or.inr rfl)), bInv_le hBi, hRi.1, (fun _ => hRi.2 _ (Nat.le_refl _)), mRoadK_mono hQ hRi (fun Q' R' hQ' h4 hR' hk => nx Q' B R' L G hQ' h4 hBi hR' hLi hGi hk) (fun e p hk => fun Q' R' => hk Q' B R' L G) hK⟩
        rw [if_neg (by rw [bI_0.mp c]; decide)] at hK
        refine ⟨by decide, _, _, _, _, _, _, _, _, _, _, _, _, _, _, _, Q, _, 28, rfl, rfl, by decide, And.intro (fun c => ?_) (fun c => ?_)⟩
        rotate_left
        · rw [if_pos (bI_n0.mp c)] at hK
          exact ⟨_, _, _, _, _, _, _, _, _, _, _, _, _, _, _, Q, _, _, _, _, B, R, L, G, 0, rfl, rfl, hn, hQ, (by first | exact Or.inl rfl | exact Or.inr (Or.inl rfl) | exact Or.inr (Or.inr rfl)), bInv_le hBi, hLi, mLawK_mono hQ hLi (fun Q' L' hQ' h4 _ hn2 _ hk => nx Q' B R L' G hQ' h4 hBi hRi hn2 hGi hk) (fun e p hk => fun Q' L' _ => hk Q' B R L' G) hK⟩
        rw [if_neg (by rw [bI_0.mp c]; decide)] at hK
        refine ⟨by decide, _, _, _, _, _, _, _, _, _, _, _, _, _, _, _, Q, _, 29, rfl, rfl, by decide, And.intro (fun c => ?_) (fun c => ?_)⟩
        rotate_left
        · rw [if_pos (bI_n0.mp c)] at hK
          exact ⟨_, _, _, _, _, _, _, _, _, _, _, _, _, _, _, Q, _, _, _, _, B, R, L, G, rfl, rfl, hn, hQ, (by first | exact Or.inl rfl | exact Or.inr (Or.inl rfl) | exact Or.inr (Or.inr rfl)), bInv_le hBi, hGi.1, (fun _ => hGi.2 _ (Nat.le_refl _)), mGiftK_mono hQ hGi (fun Q' G' hQ' h4 hG' hk => nx Q' B R L G' hQ' h4 hBi hRi hLi hG' hk) (fun e p hk => fun Q' G' => hk Q' B R L G') hK⟩
        rw [if_neg (by rw [bI_0.mp c]; decide)] at hK
        exact ⟨_, _, _, _, _, _, _, _, _, _, _, _, _, _, _, Q, _, _, _, _, _, rfl, rfl, hK Q B R L G⟩
    exact hC _ _ _ _ _ _ (loop (n + 1) Q B R L G (by omega) hQ hBi hRi hLi hGi hK)
