def gC (G : GT) (q : Nat) (s x : Int32) : GT := (G.1, G.2.1, G.2.2.1, G.2.2.2.1, upd G.2.2.2.2.1 q s, upd G.2.2.2.2.2.1 q x, G.2.2.2.2.2.2.1, G.2.2.2.2.2.2.2)
def gS (G : GT) (q : Nat) (s : Int32) : GT := (G.1, G.2.1, G.2.2.1, G.2.2.2.1, upd G.2.2.2.2.1 q s, G.2.2.2.2.2)
def gO (G : GT) (q : Nat) (x : Int32) : GT := (G.1, G.2.1, G.2.2.1, G.2.2.2.1, G.2.2.2.2.1, G.2.2.2.2.2.1, upd G.2.2.2.2.2.2.1 q x, G.2.2.2.2.2.2.2)
def mCaseH {α : Type} (tx : Nat → Int32) (n : Nat) (B : BT) (G : GT) (q : Nat) (s : Int32) (Q : QT) (k : QT → GT → α) (kf : Int32 → Nat → α) : α :=
  tdK (tdF tx n B (nxF tx n Q) 3) (nxF tx n Q) (fun v Q2 => nwK tx n Q2 38 (fun Q3 => tdK (tdF tx n B Q3 2) Q3 (fun x Q4 => k Q4 (gO (gC G q s v) q x)) kf) kf) kf
def mCaseK {α : Type} (tx : Nat → Int32) (n : Nat) (B : BT) (G : GT) (q : Nat) (Q : QT) (k : QT → GT → α) (kf : Int32 → Nat → α) : α :=
  if isWB Q 41 = true then tdK (tdF tx n B (nxF tx n Q) 0) (nxF tx n Q) (fun v Q2 => k Q2 (gC G q 0 v)) kf
  else if isWB Q 42 = true then mCaseH tx n B G q 1 Q k kf else if isWB Q 43 = true then mCaseH tx n B G q 2 Q k kf else kf 1 Q.2.2.1

def tX14_readCase : List q_I := [(0, .aload_n 0, 1, 0, 0), (1, .ldc_w 344, 3, 0, 0), (4, .invokevirtual 180, 3, 0, 0), (7, .ifCond .eq 7, 3, 0, 14), (10, .iconst 0, 1, 0, 0), (11, .goto 32, 3, 0, 43), (14, .aload_n 0, 1, 0, 0), (15, .ldc_w 346, 3, 0, 0), (18, .invokevirtual 180, 3, 0, 0), (21, .ifCond .eq 7, 3, 0, 28), (24, .iconst 1, 1, 1, 0), (25, .goto 18, 3, 0, 43), (28, .aload_n 0, 1, 0, 0), (29, .ldc_w 348, 3, 0, 0), (32, .invokevirtual 180, 3, 0, 0), (35, .ifCond .eq 7, 3, 0, 42), (38, .iconst 2, 1, 2, 0), (39, .goto 4, 3, 0, 43), (42, .iconst (-1), 1, (-1), 0), (43, .istore_n 2, 1, 0, 0), (44, .iload_n 2, 1, 0, 0), (45, .iconst (-1), 1, (-1), 0), (46, .if_icmp .ne 9, 3, 0, 55), (49, .aload_n 0, 1, 0, 0), (50, .iconst 1, 1, 1, 0), (51, .invokevirtual 201, 3, 0, 0), (54, .athrow, 1, 0, 0), (55, .aload_n 0, 1, 0, 0), (56, .invokevirtual 204, 3, 0, 0), (59, .aload_n 0, 1, 0, 0), (60, .getfield 215, 3, 0, 0), (63, .getfield 350, 3, 0, 0), (66, .iload_n 1, 1, 0, 0), (67, .iload_n 2, 1, 0, 0), (68, .iastore, 1, 0, 0), (69, .aload_n 0, 1, 0, 0), (70, .getfield 215, 3, 0, 0), (73, .getfield 353, 3, 0, 0), (76, .iload_n 1, 1, 0, 0), (77, .aload_n 0, 1, 0, 0), (78, .iload_n 2, 1, 0, 0), (79, .ifCond .ne 7, 3, 0, 86), (82, .iconst 0, 1, 0, 0), (83, .goto 4, 3, 0, 87), (86, .iconst 3, 1, 3, 0), (87, .invokevirtual 261, 3, 0, 0), (90, .iastore, 1, 0, 0), (91, .iload_n 2, 1, 0, 0), (92, .ifCond .ne 4, 3, 0, 96), (95, .return_, 1, 0, 0), (96, .aload_n 0, 1, 0, 0), (97, .ldc_w 310, 3, 0, 0), (100, .invokevirtual 269, 3, 0, 0), (103, .aload_n 0, 1, 0, 0), (104, .getfield 215, 3, 0, 0), (107, .getfield 356, 3, 0, 0), (110, .iload_n 1, 1, 0, 0), (111, .aload_n 0, 1, 0, 0), (112, .iconst 2, 1, 2, 0), (113, .invokevirtual 261, 3, 0, 0), (116, .iastore, 1, 0, 0), (117, .return_, 1, 0, 0)]
theorem tX14_readCase_ok : (tX14_readCase.all (q_okI cX14_readCase)) = true := by decide +kernel

abbrev fdX14_readCase : List (Nat ⊕ (Nat × Nat)) := [.inl 0, .inr (0, 7), .inr (0, 6), .inr (0, 5), .inr (3, 0), .inr (3, 1), .inr (3, 2), .inr (3, 3), .inr (3, 8), .inr (3, 9), .inr (3, 10), .inr (3, 11), .inr (3, 12), .inr (3, 13), .inr (3, 14), .inr (3, 15), .inr (3, 16), .inr (3, 17), .inr (3, 18), .inr (3, 19), .inr (3, 20), .inr (3, 21), .inr (3, 22), .inr (3, 23), .inr (3, 24), .inr (3, 25), .inr (3, 26), .inr (3, 27), .inr (3, 28)]
def spX14_readCase : q_P := fun a w K => ∃ (th : Int32) (tr : Int32) (wh : Int32) (fa : Int32) (ta : Int32) (td : Int32) (pn : Int32) (mk : Int32) (mo : Int32) (sn : Int32) (bo : Int32) (jn : Int32) (qn : Int32) (cn : Int32) (n : Nat) (Q : QT) (bk : Value) (tx : Nat → Int32) (sk : Int32) (sp : Int32) (B : BT) (R : RT) (L : LT) (G : GT) (q : Nat), w = (modelZ th tr wh fa ta td pn mk mo sn bo jn qn cn n Q bk tx sk sp B R L G) ∧ a = [.ref 0, .int (nI q)] ∧ n ≤ 700 ∧ Q.1 ≤ n ∧ bkZ bk ∧ B.2.2.2.2 ≤ 25 ∧ q < 36 ∧ mCaseK tx n B G q Q (fun Q' G' => K (.inl none) (modelZ th tr wh fa ta td pn mk mo sn bo jn qn cn n (Q') bk tx sk sp B R L (G'))) (fun e p => ∀ Q' G', K (.inr (.ref 2)) (modelZ th tr wh fa ta td pn mk mo sn bo jn qn cn n (Q') bk tx (e) (nI p) B R L (G')))
abbrev csX14_readCase : q_S := (2, 14, 8, 3, 0, 0, fdX14_readCase, spX14_readCase)
def EX14_readCase : q_E := (tX14_readCase, [(43, [0, 1])], 3, flX14, [(180, csX14_isWord), (201, csX14_stop), (204, csX14_next), (261, csX14_readTold), (269, csX14_needWord)], [], [], [(310, 38), (344, 41), (346, 42), (348, 43)], [], [], 8, 0, 0, none, [], [], 0, 0)
theorem okX14_readCase (l : Launch) : q_Eok l RX14 cX14_readCase EX14_readCase := ⟨tX14_readCase_ok, flX14_ok, List.forall_mem_cons.mpr ⟨(coX14_180 l), List.forall_mem_cons.mpr ⟨(coX14_201 l), List.forall_mem_cons.mpr ⟨(coX14_204 l), List.forall_mem_cons.mpr ⟨(coX14_261 l), List.forall_mem_cons.mpr ⟨(coX14_269 l), q_nil⟩⟩⟩⟩⟩, q_nil, q_nil, List.forall_mem_cons.mpr ⟨⟨_, rfl, rfl, rfl⟩, List.forall_mem_cons.mpr ⟨⟨_, rfl, rfl, rfl⟩, List.forall_mem_cons.mpr ⟨⟨_, rfl, rfl, rfl⟩, List.forall_mem_cons.mpr ⟨⟨_, rfl, rfl, rfl⟩, q_nil⟩⟩⟩⟩, q_nil, q_nil, (fun h => absurd h (by decide))⟩
set_option maxRecDepth 100000 in
set_option maxHeartbeats 4000000 in
theorem ctX14_readCase (l : Launch) : q_CT l yX14_readCase (.code yX14_readCase cX14_readCase 3 none) 8 0 0 spX14_readCase := by
  refine q_ct_of EX14_readCase (by decide +kernel) (okX14_readCase l) rfl rfl rfl rfl rfl q_nil (fun ci h => by cases h) rfl ?_
  intro a w K h
  obtain ⟨th, tr, wh, fa, ta, td, pn, mk, mo, sn, bo, jn, qn, cn, n, Q, bk, tx, sk, sp, B, R, L, G, q, rfl, rfl, hn, hQ, hbk, hB, hq, hK⟩ := h
  have hQ1 : (nxF tx n Q).1 ≤ n := nxF_le hQ
  have hvq : vp_in (nI q) 36 := vp_in_nI hq (by omega)
  have hcq : (nI q).toNatClampNeg = q := nI_clamp (by omega)
  rcases hbk with rfl | rfl | rfl
  · refine ⟨Nat.le_of_ble_eq_true rfl, fun C hC => hC _ _ _ _ _ _ ?_⟩
    have cH : ∀ s : Int32, ¬ s = -1 → ¬ s = 0 → mCaseH tx n B G q s Q (fun Q' G' => K (.inl none) (modelZ th tr wh fa ta td pn mk mo sn bo jn qn cn n (Q') (.null) tx sk sp B R L (G'))) (fun e p => ∀ Q' G', K (.inr (.ref 2)) (modelZ th tr wh fa ta td pn mk mo sn bo jn qn cn n (Q') (.null) tx (e) (nI p) B R L (G'))) → C 43 [(0, .ref 0), (1, .int (nI q))] [.int s] (modelZ th tr wh fa ta td pn mk mo sn bo jn qn cn n Q (.null) tx sk sp B R L G) 0 0 := by
      intro s hs hs0 hK
      rw [mCaseH] at hK
      refine hC _ _ _ _ _ _ (And.intro (fun _ => ⟨_, _, _, _, _, _, _, _, _, _, _, _, _, _, _, _, _, _, rfl, rfl, hn, hQ, (by first | exact Or.inl rfl | exact Or.inr rfl), hvq, ?_⟩) (fun z => absurd z hs))
      rw [hcq]
      refine And.intro (fun _ => ⟨_, _, _, _, _, _, _, _, _, _, _, _, _, _, _, nxF tx n Q, _, _, _, _, _, _, _, gS G q s, 3, rfl, rfl, hn, hQ1, (by first | exact Or.inl rfl | exact Or.inr (Or.inl rfl) | exact Or.inr (Or.inr rfl)), hB, ?_⟩) (fun z => absurd z hs0)
      rcases ht : tdF tx n B (nxF tx n Q) 3 with e | ⟨v, Q2⟩
      · rw [ht, tdK_l] at hK
        exact hK (nxF tx n Q) (gS G q s)
      rw [ht, tdK_r] at hK
      have hQ2 : Q2.1 ≤ n := by rw [tdF_Q ht]; exact nxF_le hQ1
      have hQ3 : (nxF tx n Q2).1 ≤ n := nxF_le hQ2
      refine ⟨hvq, And.intro (fun _ => ?_) (fun z => absurd z hs0)⟩
      rw [hcq]
      refine ⟨by decide, _, _, _, _, _, _, _, _, _, _, _, _, _, _, _, Q2, _, _, _, _, _, _, _, gC G q s v, 38, rfl, rfl, by decide, hn, hQ2, (by first | exact Or.inl rfl | exact Or.inr (Or.inl rfl) | exact Or.inr (Or.inr rfl)), ?_⟩
      by_cases w38 : isWB Q2 38 = true
      rotate_left
      · rw [nwK, if_neg w38] at hK
        rw [if_neg w38]
        exact hK Q2 (gC G q s v)
      rw [nwK, if_pos w38] at hK
      rw [if_pos w38]
      refine ⟨_, _, _, _, _, _, _, _, _, _, _, _, _, _, _, nxF tx n Q2, _, _, _, _, _, _, _, gC G q s v, 2, rfl, rfl, hn, hQ3, (by first | exact Or.inl rfl | exact Or.inr (Or.inl rfl) | exact Or.inr (Or.inr rfl)), hB, ?_⟩
      rcases ht2 : tdF tx n B (nxF tx n Q2) 2 with e | ⟨x, Q4⟩
      · rw [ht2, tdK_l] at hK
        exact hK (nxF tx n Q2) (gC G q s v)
      rw [ht2, tdK_r] at hK
      refine ⟨hvq, ?_⟩
      rw [hcq]
      exact hK
    rw [mCaseK] at hK
    refine ⟨by decide, _, _, _, _, _, _, _, _, _, _, _, _, _, _, _, _, _, 41, rfl, rfl, by decide, And.intro (fun c => ⟨by decide, _, _, _, _, _, _, _, _, _, _, _, _, _, _, _, _, _, 42, rfl, rfl, by decide, And.intro (fun c2 => ⟨by decide, _, _, _, _, _, _, _, _, _, _, _, _, _, _, _, _, _, 43, rfl, rfl, by decide, And.intro (fun c3 => ?_) (fun c3 => ?_)⟩) (fun c2 => ?_)⟩) (fun c => ?_)⟩
    · rw [if_neg (by rw [bI_0.mp c]; decide), if_neg (by rw [bI_0.mp c2]; decide), if_neg (by rw [bI_0.mp c3]; decide)] at hK
      exact hC _ _ _ _ _ _ (And.intro (fun z => absurd rfl z) (fun _ => ⟨_, _, _, _, _, _, _, _, _, _, _, _, _, _, _, _, _, _, _, _, _, rfl, rfl, hK Q G⟩))
    · rw [if_neg (by rw [bI_0.mp c]; decide), if_neg (by rw [bI_0.mp c2]; decide), if_pos (bI_n0.mp c3)] at hK
      exact cH 2 (by decide) (by decide) hK
    · rw [if_neg (by rw [bI_0.mp c]; decide), if_pos (bI_n0.mp c2)] at hK
      exact cH 1 (by decide) (by decide) hK
    · rw [if_pos (bI_n0.mp c)] at hK
      refine hC _ _ _ _ _ _ (And.intro (fun _ => ⟨_, _, _, _, _, _, _, _, _, _, _, _, _, _, _, _, _, _, rfl, rfl, hn, hQ, (by first | exact Or.inl rfl | exact Or.inr rfl), hvq, ?_⟩) (fun z => absurd z (by decide)))
      rw [hcq]
      refine And.intro (fun z => absurd rfl z) (fun _ => ⟨_, _, _, _, _, _, _, _, _, _, _, _, _, _, _, nxF tx n Q, _, _, _, _, _, _, _, gS G q 0, 0, rfl, rfl, hn, hQ1, (by first | exact Or.inl rfl | exact Or.inr (Or.inl rfl) | exact Or.inr (Or.inr rfl)), hB, ?_⟩)
      rcases ht : tdF tx n B (nxF tx n Q) 0 with e | ⟨v, Q2⟩
      · rw [ht, tdK_l] at hK
        exact hK (nxF tx n Q) (gS G q 0)
      rw [ht, tdK_r] at hK
      refine ⟨hvq, And.intro (fun z => absurd rfl z) (fun _ => ?_)⟩
      rw [hcq]
      exact hK
  · refine ⟨Nat.le_of_ble_eq_true rfl, fun C hC => hC _ _ _ _ _ _ ?_⟩
    have cH : ∀ s : Int32, ¬ s = -1 → ¬ s = 0 → mCaseH tx n B G q s Q (fun Q' G' => K (.inl none) (modelZ th tr wh fa ta td pn mk mo sn bo jn qn cn n (Q') (tk 0 4) tx sk sp B R L (G'))) (fun e p => ∀ Q' G', K (.inr (.ref 2)) (modelZ th tr wh fa ta td pn mk mo sn bo jn qn cn n (Q') (tk 0 4) tx (e) (nI p) B R L (G'))) → C 43 [(0, .ref 0), (1, .int (nI q))] [.int s] (modelZ th tr wh fa ta td pn mk mo sn bo jn qn cn n Q (tk 0 4) tx sk sp B R L G) 0 0 := by
      intro s hs hs0 hK
      rw [mCaseH] at hK
      refine hC _ _ _ _ _ _ (And.intro (fun _ => ⟨_, _, _, _, _, _, _, _, _, _, _, _, _, _, _, _, _, _, rfl, rfl, hn, hQ, (by first | exact Or.inl rfl | exact Or.inr rfl), hvq, ?_⟩) (fun z => absurd z hs))
      rw [hcq]
      refine And.intro (fun _ => ⟨_, _, _, _, _, _, _, _, _, _, _, _, _, _, _, nxF tx n Q, _, _, _, _, _, _, _, gS G q s, 3, rfl, rfl, hn, hQ1, (by first | exact Or.inl rfl | exact Or.inr (Or.inl rfl) | exact Or.inr (Or.inr rfl)), hB, ?_⟩) (fun z => absurd z hs0)
      rcases ht : tdF tx n B (nxF tx n Q) 3 with e | ⟨v, Q2⟩
      · rw [ht, tdK_l] at hK
        exact hK (nxF tx n Q) (gS G q s)
      rw [ht, tdK_r] at hK
      have hQ2 : Q2.1 ≤ n := by rw [tdF_Q ht]; exact nxF_le hQ1
      have hQ3 : (nxF tx n Q2).1 ≤ n := nxF_le hQ2
      refine ⟨hvq, And.intro (fun _ => ?_) (fun z => absurd z hs0)⟩
      rw [hcq]
      refine ⟨by decide, _, _, _, _, _, _, _, _, _, _, _, _, _, _, _, Q2, _, _, _, _, _, _, _, gC G q s v, 38, rfl, rfl, by decide, hn, hQ2, (by first | exact Or.inl rfl | exact Or.inr (Or.inl rfl) | exact Or.inr (Or.inr rfl)), ?_⟩
      by_cases w38 : isWB Q2 38 = true
      rotate_left
      · rw [nwK, if_neg w38] at hK
        rw [if_neg w38]
        exact hK Q2 (gC G q s v)
      rw [nwK, if_pos w38] at hK
      rw [if_pos w38]
      refine ⟨_, _, _, _, _, _, _, _, _, _, _, _, _, _, _, nxF tx n Q2, _, _, _, _, _, _, _, gC G q s v, 2, rfl, rfl, hn, hQ3, (by first | exact Or.inl rfl | exact Or.inr (Or.inl rfl) | exact Or.inr (Or.inr rfl)), hB, ?_⟩
      rcases ht2 : tdF tx n B (nxF tx n Q2) 2 with e | ⟨x, Q4⟩
      · rw [ht2, tdK_l] at hK
        exact hK (nxF tx n Q2) (gC G q s v)
      rw [ht2, tdK_r] at hK
      refine ⟨hvq, ?_⟩
      rw [hcq]
      exact hK
    rw [mCaseK] at hK
    refine ⟨by decide, _, _, _, _, _, _, _, _, _, _, _, _, _, _, _, _, _, 41, rfl, rfl, by decide, And.intro (fun c => ⟨by decide, _, _, _, _, _, _, _, _, _, _, _, _, _, _, _, _, _, 42, rfl, rfl, by decide, And.intro (fun c2 => ⟨by decide, _, _, _, _, _, _, _, _, _, _, _, _, _, _, _, _, _, 43, rfl, rfl, by decide, And.intro (fun c3 => ?_) (fun c3 => ?_)⟩) (fun c2 => ?_)⟩) (fun c => ?_)⟩
    · rw [if_neg (by rw [bI_0.mp c]; decide), if_neg (by rw [bI_0.mp c2]; decide), if_neg (by rw [bI_0.mp c3]; decide)] at hK
      exact hC _ _ _ _ _ _ (And.intro (fun z => absurd rfl z) (fun _ => ⟨_, _, _, _, _, _, _, _, _, _, _, _, _, _, _, _, _, _, _, _, _, rfl, rfl, hK Q G⟩))
    · rw [if_neg (by rw [bI_0.mp c]; decide), if_neg (by rw [bI_0.mp c2]; decide), if_pos (bI_n0.mp c3)] at hK
      exact cH 2 (by decide) (by decide) hK
    · rw [if_neg (by rw [bI_0.mp c]; decide), if_pos (bI_n0.mp c2)] at hK
      exact cH 1 (by decide) (by decide) hK
    · rw [if_pos (bI_n0.mp c)] at hK
      refine hC _ _ _ _ _ _ (And.intro (fun _ => ⟨_, _, _, _, _, _, _, _, _, _, _, _, _, _, _, _, _, _, rfl, rfl, hn, hQ, (by first | exact Or.inl rfl | exact Or.inr rfl), hvq, ?_⟩) (fun z => absurd z (by decide)))
      rw [hcq]
      refine And.intro (fun z => absurd rfl z) (fun _ => ⟨_, _, _, _, _, _, _, _, _, _, _, _, _, _, _, nxF tx n Q, _, _, _, _, _, _, _, gS G q 0, 0, rfl, rfl, hn, hQ1, (by first | exact Or.inl rfl | exact Or.inr (Or.inl rfl) | exact Or.inr (Or.inr rfl)), hB, ?_⟩)
      rcases ht : tdF tx n B (nxF tx n Q) 0 with e | ⟨v, Q2⟩
      · rw [ht, tdK_l] at hK
        exact hK (nxF tx n Q) (gS G q 0)
      rw [ht, tdK_r] at hK
      refine ⟨hvq, And.intro (fun z => absurd rfl z) (fun _ => ?_)⟩
      rw [hcq]
      exact hK
  · refine ⟨Nat.le_of_ble_eq_true rfl, fun C hC => hC _ _ _ _ _ _ ?_⟩
    have cH : ∀ s : Int32, ¬ s = -1 → ¬ s = 0 → mCaseH tx n B G q s Q (fun Q' G' => K (.inl none) (modelZ th tr wh fa ta td pn mk mo sn bo jn qn cn n (Q') (.ref 3) tx sk sp B R L (G'))) (fun e p => ∀ Q' G', K (.inr (.ref 2)) (modelZ th tr wh fa ta td pn mk mo sn bo jn qn cn n (Q') (.ref 3) tx (e) (nI p) B R L (G'))) → C 43 [(0, .ref 0), (1, .int (nI q))] [.int s] (modelZ th tr wh fa ta td pn mk mo sn bo jn qn cn n Q (.ref 3) tx sk sp B R L G) 0 0 := by
      intro s hs hs0 hK
      rw [mCaseH] at hK
      refine hC _ _ _ _ _ _ (And.intro (fun _ => ⟨_, _, _, _, _, _, _, _, _, _, _, _, _, _, _, _, _, _, rfl, rfl, hn, hQ, (by first | exact Or.inl rfl | exact Or.inr rfl), hvq, ?_⟩) (fun z => absurd z hs))
      rw [hcq]
      refine And.intro (fun _ => ⟨_, _, _, _, _, _, _, _, _, _, _, _, _, _, _, nxF tx n Q, _, _, _, _, _, _, _, gS G q s, 3, rfl, rfl, hn, hQ1, (by first | exact Or.inl rfl | exact Or.inr (Or.inl rfl) | exact Or.inr (Or.inr rfl)), hB, ?_⟩) (fun z => absurd z hs0)
      rcases ht : tdF tx n B (nxF tx n Q) 3 with e | ⟨v, Q2⟩
      · rw [ht, tdK_l] at hK
        exact hK (nxF tx n Q) (gS G q s)
      rw [ht, tdK_r] at hK
      have hQ2 : Q2.1 ≤ n := by rw [tdF_Q ht]; exact nxF_le hQ1
      have hQ3 : (nxF tx n Q2).1 ≤ n := nxF_le hQ2
      refine ⟨hvq, And.intro (fun _ => ?_) (fun z => absurd z hs0)⟩
      rw [hcq]
      refine ⟨by decide, _, _, _, _, _, _, _, _, _, _, _, _, _, _, _, Q2, _, _, _, _, _, _, _, gC G q s v, 38, rfl, rfl, by decide, hn, hQ2, (by first | exact Or.inl rfl | exact Or.inr (Or.inl rfl) | exact Or.inr (Or.inr rfl)), ?_⟩
      by_cases w38 : isWB Q2 38 = true
      rotate_left
      · rw [nwK, if_neg w38] at hK
        rw [if_neg w38]
        exact hK Q2 (gC G q s v)
      rw [nwK, if_pos w38] at hK
      rw [if_pos w38]
      refine ⟨_, _, _, _, _, _, _, _, _, _, _, _, _, _, _, nxF tx n Q2, _, _, _, _, _, _, _, gC G q s v, 2, rfl, rfl, hn, hQ3, (by first | exact Or.inl rfl | exact Or.inr (Or.inl rfl) | exact Or.inr (Or.inr rfl)), hB, ?_⟩
      rcases ht2 : tdF tx n B (nxF tx n Q2) 2 with e | ⟨x, Q4⟩
      · rw [ht2, tdK_l] at hK
        exact hK (nxF tx n Q2) (gC G q s v)
      rw [ht2, tdK_r] at hK
      refine ⟨hvq, ?_⟩
      rw [hcq]
      exact hK
    rw [mCaseK] at hK
    refine ⟨by decide, _, _, _, _, _, _, _, _, _, _, _, _, _, _, _, _, _, 41, rfl, rfl, by decide, And.intro (fun c => ⟨by decide, _, _, _, _, _, _, _, _, _, _, _, _, _, _, _, _, _, 42, rfl, rfl, by decide, And.intro (fun c2 => ⟨by decide, _, _, _, _, _, _, _, _, _, _, _, _, _, _, _, _, _, 43, rfl, rfl, by decide, And.intro (fun c3 => ?_) (fun c3 => ?_)⟩) (fun c2 => ?_)⟩) (fun c => ?_)⟩
    · rw [if_neg (by rw [bI_0.mp c]; decide), if_neg (by rw [bI_0.mp c2]; decide), if_neg (by rw [bI_0.mp c3]; decide)] at hK
      exact hC _ _ _ _ _ _ (And.intro (fun z => absurd rfl z) (fun _ => ⟨_, _, _, _, _, _, _, _, _, _, _, _, _, _, _, _, _, _, _, _, _, rfl, rfl, hK Q G⟩))
    · rw [if_neg (by rw [bI_0.mp c]; decide), if_neg (by rw [bI_0.mp c2]; decide), if_pos (bI_n0.mp c3)] at hK
      exact cH 2 (by decide) (by decide) hK
    · rw [if_neg (by rw [bI_0.mp c]; decide), if_pos (bI_n0.mp c2)] at hK
      exact cH 1 (by decide) (by decide) hK
    · rw [if_pos (bI_n0.mp c)] at hK
      refine hC _ _ _ _ _ _ (And.intro (fun _ => ⟨_, _, _, _, _, _, _, _, _, _, _, _, _, _, _, _, _, _, rfl, rfl, hn, hQ, (by first | exact Or.inl rfl | exact Or.inr rfl), hvq, ?_⟩) (fun z => absurd z (by decide)))
      rw [hcq]
      refine And.intro (fun z => absurd rfl z) (fun _ => ⟨_, _, _, _, _, _, _, _, _, _, _, _, _, _, _, nxF tx n Q, _, _, _, _, _, _, _, gS G q 0, 0, rfl, rfl, hn, hQ1, (by first | exact Or.inl rfl | exact Or.inr (Or.inl rfl) | exact Or.inr (Or.inr rfl)), hB, ?_⟩)
      rcases ht : tdF tx n B (nxF tx n Q) 0 with e | ⟨v, Q2⟩
      · rw [ht, tdK_l] at hK
        exact hK (nxF tx n Q) (gS G q 0)
      rw [ht, tdK_r] at hK
      refine ⟨hvq, And.intro (fun z => absurd rfl z) (fun _ => ?_)⟩
      rw [hcq]
      exact hK
theorem mCaseH_mono {tx : Nat → Int32} {n : Nat} {B : BT} {G : GT} {q : Nat} {s : Int32} {Q : QT} {k k2 : QT → GT → Prop} {kf kf2 : Int32 → Nat → Prop} (hQ : Q.1 ≤ n) (h : ∀ Q' G', Q'.1 ≤ n → G'.2.2.2.1 = G.2.2.2.1 → G'.2.2.2.2.2.2.2.2 = G.2.2.2.2.2.2.2.2 → k Q' G' → k2 Q' G') (hf : ∀ e p, kf e p → kf2 e p) (hk : mCaseH tx n B G q s Q k kf) : mCaseH tx n B G q s Q k2 kf2 := by
  unfold mCaseH at hk ⊢
  have hQ1 : (nxF tx n Q).1 ≤ n := nxF_le hQ
  rcases ht : tdF tx n B (nxF tx n Q) 3 with e | ⟨v, Q2⟩
  · rw [ht, tdK_l] at hk; rw [tdK_l]; exact hf _ _ hk
  rw [ht, tdK_r] at hk; rw [tdK_r]
  have hQ2 : Q2.1 ≤ n := by rw [tdF_Q ht]; exact nxF_le hQ1
  have hQ3 : (nxF tx n Q2).1 ≤ n := nxF_le hQ2
  by_cases w38 : isWB Q2 38 = true
  rotate_left
  · rw [nwK, if_neg w38] at hk ⊢; exact hf _ _ hk
  rw [nwK, if_pos w38] at hk ⊢
  rcases ht2 : tdF tx n B (nxF tx n Q2) 2 with e | ⟨x, Q4⟩
  · rw [ht2, tdK_l] at hk; rw [tdK_l]; exact hf _ _ hk
  rw [ht2, tdK_r] at hk; rw [tdK_r]
  exact h _ _ (by rw [tdF_Q ht2]; exact nxF_le hQ3) rfl rfl hk
theorem mCaseK_mono {tx : Nat → Int32} {n : Nat} {B : BT} {G : GT} {q : Nat} {Q : QT} {k k2 : QT → GT → Prop} {kf kf2 : Int32 → Nat → Prop} (hQ : Q.1 ≤ n) (h : ∀ Q' G', Q'.1 ≤ n → G'.2.2.2.1 = G.2.2.2.1 → G'.2.2.2.2.2.2.2.2 = G.2.2.2.2.2.2.2.2 → k Q' G' → k2 Q' G') (hf : ∀ e p, kf e p → kf2 e p) (hk : mCaseK tx n B G q Q k kf) : mCaseK tx n B G q Q k2 kf2 := by
  unfold mCaseK at hk ⊢
  have hQ1 : (nxF tx n Q).1 ≤ n := nxF_le hQ
  split
  · next c =>
    rw [if_pos c] at hk
    rcases ht : tdF tx n B (nxF tx n Q) 0 with e | ⟨v, Q2⟩
    · rw [ht, tdK_l] at hk; rw [tdK_l]; exact hf _ _ hk
    rw [ht, tdK_r] at hk; rw [tdK_r]
    exact h _ _ (by rw [tdF_Q ht]; exact nxF_le hQ1) rfl rfl hk
  · next c =>
    rw [if_neg c] at hk
    split
    · next c2 => rw [if_pos c2] at hk; exact mCaseH_mono hQ h hf hk
    · next c2 =>
      rw [if_neg c2] at hk
      split
      · next c3 => rw [if_pos c3] at hk; exact mCaseH_mono hQ h hf hk
      · next c3 => rw [if_neg c3] at hk; exact hf _ _ hk
def gUp (G : GT) : GT := (G.1, G.2.1, G.2.2.1, G.2.2.2.1, G.2.2.2.2.1, G.2.2.2.2.2.1, G.2.2.2.2.2.2.1, G.2.2.2.2.2.2.2.1, G.2.2.2.2.2.2.2.2 + 1)
def gInc (G : GT) (g : Nat) : GT := (G.1, G.2.1, G.2.2.1, upd G.2.2.2.1 g (nI (gcN G g + 1)), G.2.2.2.2)
def mCasesK {α : Type} (tx : Nat → Int32) (n : Nat) (B : BT) (g : Nat) (k : QT → GT → α) (kf : Int32 → Nat → α) : Nat → GT → QT → α
  | 0, G, Q => if isWB Q 32 = true then kf 5 Q.2.2.1 else k Q (gUp G)
  | f + 1, G, Q => if isWB Q 32 = true then mCaseK tx n B G (g * 3 + gcN G g) (nxF tx n Q) (fun Q' G' => mCasesK tx n B g k kf f (gInc G' g) Q') kf else k Q (gUp G)
def mGiftK {α : Type} (tx : Nat → Int32) (n : Nat) (B : BT) (G : GT) (Q : QT) (k : QT → GT → α) (kf : Int32 → Nat → α) : α :=
  if G.2.2.2.2.2.2.2.2 = 12 then kf 5 Q.2.2.1 else tdK (tdF tx n B (nxF tx n Q) 3) (nxF tx n Q) (fun kd Q2 => nwK tx n Q2 38 (fun Q3 => tdK (tdF tx n B Q3 2) Q3 (fun of Q4 => nwK tx n Q4 40 (fun Q5 => tdK (whF tx n Q5 0 400) Q5 (fun af Q6 => mCasesK tx n B G.2.2.2.2.2.2.2.2 k kf 3 (upd G.1 G.2.2.2.2.2.2.2.2 kd, upd G.2.1 G.2.2.2.2.2.2.2.2 of, upd G.2.2.1 G.2.2.2.2.2.2.2.2 af, G.2.2.2) Q6) kf) kf) kf) kf) kf
def tX14_readGift : List q_I := [(0, .aload_n 0, 1, 0, 0), (1, .getfield 215, 3, 0, 0), (4, .getfield 325, 3, 0, 0), (7, .bipush 12, 2, 12, 0), (9, .if_icmp .ne 9, 3, 0, 18), (12, .aload_n 0, 1, 0, 0), (13, .iconst 5, 1, 5, 0), (14, .invokevirtual 201, 3, 0, 0), (17, .athrow, 1, 0, 0), (18, .aload_n 0, 1, 0, 0), (19, .invokevirtual 204, 3, 0, 0), (22, .aload_n 0, 1, 0, 0), (23, .getfield 215, 3, 0, 0), (26, .getfield 325, 3, 0, 0), (29, .istore_n 1, 1, 0, 0), (30, .aload_n 0, 1, 0, 0), (31, .getfield 215, 3, 0, 0), (34, .getfield 328, 3, 0, 0), (37, .iload_n 1, 1, 0, 0), (38, .aload_n 0, 1, 0, 0), (39, .iconst 3, 1, 3, 0), (40, .invokevirtual 261, 3, 0, 0), (43, .iastore, 1, 0, 0), (44, .aload_n 0, 1, 0, 0), (45, .ldc_w 310, 3, 0, 0), (48, .invokevirtual 269, 3, 0, 0), (51, .aload_n 0, 1, 0, 0), (52, .getfield 215, 3, 0, 0), (55, .getfield 331, 3, 0, 0), (58, .iload_n 1, 1, 0, 0), (59, .aload_n 0, 1, 0, 0), (60, .iconst 2, 1, 2, 0), (61, .invokevirtual 261, 3, 0, 0), (64, .iastore, 1, 0, 0), (65, .aload_n 0, 1, 0, 0), (66, .ldc_w 334, 3, 0, 0), (69, .invokevirtual 269, 3, 0, 0), (72, .aload_n 0, 1, 0, 0), (73, .getfield 215, 3, 0, 0), (76, .getfield 336, 3, 0, 0), (79, .iload_n 1, 1, 0, 0), (80, .aload_n 0, 1, 0, 0), (81, .iconst 0, 1, 0, 0), (82, .sipush 400, 3, 400, 0), (85, .invokevirtual 275, 3, 0, 0), (88, .iastore, 1, 0, 0), (89, .aload_n 0, 1, 0, 0), (90, .ldc 199, 2, 0, 0), (92, .invokevirtual 180, 3, 0, 0), (95, .ifCond .eq 59, 3, 0, 154), (98, .aload_n 0, 1, 0, 0), (99, .getfield 215, 3, 0, 0), (102, .getfield 338, 3, 0, 0), (105, .iload_n 1, 1, 0, 0), (106, .iaload, 1, 0, 0), (107, .iconst 3, 1, 3, 0), (108, .if_icmp .ne 9, 3, 0, 117), (111, .aload_n 0, 1, 0, 0), (112, .iconst 5, 1, 5, 0), (113, .invokevirtual 201, 3, 0, 0), (116, .athrow, 1, 0, 0), (117, .aload_n 0, 1, 0, 0), (118, .invokevirtual 204, 3, 0, 0), (121, .aload_n 0, 1, 0, 0), (122, .iconst 3, 1, 3, 0), (123, .iload_n 1, 1, 0, 0), (124, .imul, 1, 0, 0), (125, .aload_n 0, 1, 0, 0), (126, .getfield 215, 3, 0, 0), (129, .getfield 338, 3, 0, 0), (132, .iload_n 1, 1, 0, 0), (133, .iaload, 1, 0, 0), (134, .iadd, 1, 0, 0), (135, .invokevirtual 341, 3, 0, 0), (138, .aload_n 0, 1, 0, 0), (139, .getfield 215, 3, 0, 0), (142, .getfield 338, 3, 0, 0), (145, .iload_n 1, 1, 0, 0), (146, .dup2, 1, 0, 0), (147, .iaload, 1, 0, 0), (148, .iconst 1, 1, 1, 0), (149, .iadd, 1, 0, 0), (150, .iastore, 1, 0, 0), (151, .goto (-62), 3, 0, 89), (154, .aload_n 0, 1, 0, 0), (155, .getfield 215, 3, 0, 0), (158, .dup, 1, 0, 0), (159, .getfield 325, 3, 0, 0), (162, .iconst 1, 1, 1, 0), (163, .iadd, 1, 0, 0), (164, .putfield 325, 3, 0, 0), (167, .return_, 1, 0, 0)]
theorem tX14_readGift_ok : (tX14_readGift.all (q_okI cX14_readGift)) = true := by decide +kernel

abbrev fdX14_readGift : List (Nat ⊕ (Nat × Nat)) := [.inl 0, .inr (0, 7), .inr (0, 6), .inr (0, 5), .inr (3, 0), .inr (3, 1), .inr (3, 2), .inr (3, 3), .inr (3, 8), .inr (3, 9), .inr (3, 10), .inr (3, 11), .inr (3, 12), .inr (3, 13), .inr (3, 14), .inr (3, 15), .inr (3, 16), .inr (3, 17), .inr (3, 18), .inr (3, 19), .inr (3, 20), .inr (3, 21), .inr (3, 22), .inr (3, 23), .inr (3, 24), .inr (3, 25), .inr (3, 26), .inr (3, 27), .inr (3, 28)]
def spX14_readGift : q_P := fun a w K => ∃ (th : Int32) (tr : Int32) (wh : Int32) (fa : Int32) (ta : Int32) (td : Int32) (pn : Int32) (mk : Int32) (mo : Int32) (sn : Int32) (bo : Int32) (jn : Int32) (qn : Int32) (cn : Int32) (n : Nat) (Q : QT) (bk : Value) (tx : Nat → Int32) (sk : Int32) (sp : Int32) (B : BT) (R : RT) (L : LT) (G : GT), w = (modelZ th tr wh fa ta td pn mk mo sn bo jn qn cn n Q bk tx sk sp B R L G) ∧ a = [.ref 0] ∧ n ≤ 700 ∧ Q.1 ≤ n ∧ bkZ bk ∧ B.2.2.2.2 ≤ 25 ∧ G.2.2.2.2.2.2.2.2 ≤ 12 ∧ (G.2.2.2.2.2.2.2.2 < 12 → G.2.2.2.1 G.2.2.2.2.2.2.2.2 = 0) ∧ mGiftK tx n B G Q (fun Q' G' => K (.inl none) (modelZ th tr wh fa ta td pn mk mo sn bo jn qn cn n (Q') bk tx sk sp B R L (G'))) (fun e p => ∀ Q' G', K (.inr (.ref 2)) (modelZ th tr wh fa ta td pn mk mo sn bo jn qn cn n (Q') bk tx (e) (nI p) B R L (G')))
abbrev csX14_readGift : q_S := (1, 14, 9, 2, 0, 0, fdX14_readGift, spX14_readGift)
theorem coX14_341 (l : Launch) : q_CO l RX14 341 csX14_readCase := ⟨yX14_readCase, cX14_readCase, none, 1, ⟨by decide +kernel, by decide +kernel, by decide +kernel⟩, q_G_i 17 (by decide +kernel) rfl, Or.inl ⟨by decide, rfl, rfl, q_G_i 1664 (by decide +kernel) rfl, q_G_i 1666 (by decide +kernel) rfl, q_G_s (n := 53) 63 (by decide +kernel), Or.inl ⟨q_G_i 1667 (by decide +kernel) rfl, ctX14_readCase l⟩⟩⟩
def EX14_readGift : q_E := (tX14_readGift, [(89, [0, 1])], 2, flX14, [(201, csX14_stop), (204, csX14_next), (261, csX14_readTold), (269, csX14_needWord), (275, csX14_readWhole), (180, csX14_isWord), (341, csX14_readCase)], [], [], [(199, 32), (310, 38), (334, 40)], [], [], 9, 0, 0, none, [], [], 0, 0)
theorem okX14_readGift (l : Launch) : q_Eok l RX14 cX14_readGift EX14_readGift := ⟨tX14_readGift_ok, flX14_ok, List.forall_mem_cons.mpr ⟨(coX14_201 l), List.forall_mem_cons.mpr ⟨(coX14_204 l), List.forall_mem_cons.mpr ⟨(coX14_261 l), List.forall_mem_cons.mpr ⟨(coX14_269 l), List.forall_mem_cons.mpr ⟨(coX14_275 l), List.forall_mem_cons.mpr ⟨(coX14_180 l), List.forall_mem_cons.mpr ⟨(coX14_341 l), q_nil⟩⟩⟩⟩⟩⟩⟩, q_nil, q_nil, List.forall_mem_cons.mpr ⟨⟨_, rfl, rfl, rfl⟩, List.forall_mem_cons.mpr ⟨⟨_, rfl, rfl, rfl⟩, List.forall_mem_cons.mpr ⟨⟨_, rfl, rfl, rfl⟩, q_nil⟩⟩⟩, q_nil, q_nil, (fun h => absurd h (by decide))⟩
set_option maxRecDepth 100000 in
set_option maxHeartbeats 4000000 in
theorem ctX14_readGift (l : Launch) : q_CT l yX14_readGift (.code yX14_readGift cX14_readGift 2 none) 9 0 0 spX14_readGift := by
  refine q_ct_of EX14_readGift (by decide +kernel) (okX14_readGift l) rfl rfl rfl rfl rfl q_nil (fun ci h => by cases h) rfl ?_
  intro a w K h
  obtain ⟨th, tr, wh, fa, ta, td, pn, mk, mo, sn, bo, jn, qn, cn, n, Q, bk, tx, sk, sp, B, R, L, G, rfl, rfl, hn, hQ, hbk, hB, hG, hG0, hK⟩ := h
  have hQ1 : (nxF tx n Q).1 ≤ n := nxF_le hQ
  rcases hbk with rfl | rfl | rfl
  · refine ⟨Nat.le_of_ble_eq_true rfl, fun C hC => hC _ _ _ _ _ _ ?_⟩
    refine And.intro (fun c => ?_) (fun c => ?_)
    rotate_left
    · have e : G.2.2.2.2.2.2.2.2 = 12 := by
        rcases Nat.decEq G.2.2.2.2.2.2.2.2 12 with z | z
        · exact absurd (show nI G.2.2.2.2.2.2.2.2 = nI 12 from c) (nI_ne z (by omega) (by omega))
        · exact z
      rw [mGiftK, if_pos e] at hK
      exact ⟨_, _, _, _, _, _, _, _, _, _, _, _, _, _, _, _, _, _, _, _, _, rfl, rfl, hK Q G⟩
    have hlt : G.2.2.2.2.2.2.2.2 < 12 := by
      rcases Nat.lt_or_ge G.2.2.2.2.2.2.2.2 12 with z | z
      · exact z
      · exact absurd (show nI G.2.2.2.2.2.2.2.2 = nI 12 by rw [Nat.le_antisymm hG z]) c
    rw [mGiftK, if_neg (by omega)] at hK
    have hvg : vp_in (nI G.2.2.2.2.2.2.2.2) 12 := vp_in_nI hlt (by omega)
    have hcg : (nI G.2.2.2.2.2.2.2.2).toNatClampNeg = G.2.2.2.2.2.2.2.2 := nI_clamp (by omega)
    have loop : ∀ f j (Gj : GT) (Q : QT), j + f = 3 → Q.1 ≤ n → Gj.2.2.2.2.2.2.2.2 = G.2.2.2.2.2.2.2.2 → Gj.2.2.2.1 G.2.2.2.2.2.2.2.2 = nI j → mCasesK tx n B G.2.2.2.2.2.2.2.2 (fun Q' G' => K (.inl none) (modelZ th tr wh fa ta td pn mk mo sn bo jn qn cn n (Q') (.null) tx sk sp B R L (G'))) (fun e p => ∀ Q' G', K (.inr (.ref 2)) (modelZ th tr wh fa ta td pn mk mo sn bo jn qn cn n (Q') (.null) tx (e) (nI p) B R L (G'))) f Gj Q → C 89 [(0, .ref 0), (1, .int (nI G.2.2.2.2.2.2.2.2))] [] (modelZ th tr wh fa ta td pn mk mo sn bo jn qn cn n (Q) (.null) tx sk sp B R L (Gj)) 0 0 := by
      intro f
      have fin : ∀ (Gj : GT) (Q : QT), Gj.2.2.2.2.2.2.2.2 = G.2.2.2.2.2.2.2.2 → K (.inl none) (modelZ th tr wh fa ta td pn mk mo sn bo jn qn cn n (Q) (.null) tx sk sp B R L (gUp Gj)) → K (.inl none) (modelZ th tr wh fa ta td pn mk mo sn bo jn qn cn n (Q) (.null) tx sk sp B R L (gUp Gj)) := fun _ _ _ h => h
      induction f with
      | zero =>
        intro j Gj Q hj hQ hGn hGc hK
        rw [mCasesK] at hK
        refine hC _ _ _ _ _ _ ⟨by decide, _, _, _, _, _, _, _, _, _, _, _, _, _, _, _, Q, _, 32, rfl, rfl, by decide, And.intro (fun c => ?_) (fun c => ⟨hvg, And.intro (fun c2 => ?_) (fun c2 => ?_)⟩)⟩
        · rw [if_neg (by rw [bI_0.mp c]; decide)] at hK
          unfold gUp at hK
          show K (.inl none) _
          rw [nI_1]
          exact hK
        · have c2 : ¬ Gj.2.2.2.1 (nI G.2.2.2.2.2.2.2.2).toNatClampNeg = 3 := c2
          rw [hcg, hGc] at c2
          exact absurd (show nI j = nI 3 by rw [show j = 3 by omega]) c2
        · rw [if_pos (bI_n0.mp c)] at hK
          exact ⟨_, _, _, _, _, _, _, _, _, _, _, _, _, _, _, Q, _, _, _, _, _, rfl, rfl, hK Q Gj⟩
      | succ f ih =>
        intro j Gj Q hj hQ hGn hGc hK
        rw [mCasesK] at hK
        have hQ1 : (nxF tx n Q).1 ≤ n := nxF_le hQ
        refine hC _ _ _ _ _ _ ⟨by decide, _, _, _, _, _, _, _, _, _, _, _, _, _, _, _, Q, _, 32, rfl, rfl, by decide, And.intro (fun c => ?_) (fun c => ⟨hvg, And.intro (fun c2 => ?_) (fun c2 => ?_)⟩)⟩
        · rw [if_neg (by rw [bI_0.mp c]; decide)] at hK
          unfold gUp at hK
          show K (.inl none) _
          rw [nI_1]
          exact hK
        · rw [if_pos (bI_n0.mp c)] at hK
          have hgp : gcN Gj G.2.2.2.2.2.2.2.2 = j := by rw [gcN, hGc]; exact nI_clamp (by omega)
          have e : 3 * nI G.2.2.2.2.2.2.2.2 + Gj.2.2.2.1 (nI G.2.2.2.2.2.2.2.2).toNatClampNeg = nI (G.2.2.2.2.2.2.2.2 * 3 + j) := by rw [nI_3m, hcg, hGc, nI_add]
          rw [hgp] at hK
          refine ⟨_, _, _, _, _, _, _, _, _, _, _, _, _, _, _, Q, _, _, rfl, rfl, hn, hQ, (by first | exact Or.inl rfl | exact Or.inr rfl), hvg, _, _, _, _, _, _, _, _, _, _, _, _, _, _, _, nxF tx n Q, _, _, _, _, _, _, _, Gj, G.2.2.2.2.2.2.2.2 * 3 + j, rfl, (by rw [← e]), hn, hQ1, (by first | exact Or.inl rfl | exact Or.inr (Or.inl rfl) | exact Or.inr (Or.inr rfl)), hB, by omega, mCaseK_mono hQ1 (fun Q' G' hQ' hc' hn' hk => ?_) (fun e p hk => fun Q' G' => hk Q' G') hK⟩
          have hgp' : gcN G' G.2.2.2.2.2.2.2.2 = j := by rw [gcN, hc', hGc]; exact nI_clamp (by omega)
          have h9 := ih (j + 1) (gInc G' G.2.2.2.2.2.2.2.2) Q' (by omega) hQ' (hn'.trans hGn) (by show upd G'.2.2.2.1 G.2.2.2.2.2.2.2.2 (nI (gcN G' G.2.2.2.2.2.2.2.2 + 1)) G.2.2.2.2.2.2.2.2 = _; rw [upd_eq, hgp']) hk
          unfold gInc at h9
          rw [hgp'] at h9
          refine ⟨hvg, hvg, ?_⟩
          rw [hcg, hc', hGc, nI_1]
          rw [hc'] at h9
          exact h9
        · have c2 : Gj.2.2.2.1 (nI G.2.2.2.2.2.2.2.2).toNatClampNeg = 3 := c2
          rw [hcg, hGc] at c2
          exact absurd (show nI j = nI 3 from c2) (nI_ne (by omega) (by omega) (by omega))
    refine ⟨_, _, _, _, _, _, _, _, _, _, _, _, _, _, _, _, _, _, rfl, rfl, hn, hQ, (by first | exact Or.inl rfl | exact Or.inr rfl), _, _, _, _, _, _, _, _, _, _, _, _, _, _, _, nxF tx n Q, _, _, _, _, _, _, _, _, 3, rfl, rfl, hn, hQ1, (by first | exact Or.inl rfl | exact Or.inr (Or.inl rfl) | exact Or.inr (Or.inr rfl)), hB, ?_⟩
    rcases ht : tdF tx n B (nxF tx n Q) 3 with e | ⟨kd, Q2⟩
    · rw [ht, tdK_l] at hK
      exact hK (nxF tx n Q) G
    rw [ht, tdK_r] at hK
    have hQ2 : Q2.1 ≤ n := by rw [tdF_Q ht]; exact nxF_le hQ1
    have hQ3 : (nxF tx n Q2).1 ≤ n := nxF_le hQ2
    refine ⟨hvg, ?_⟩
    rw [hcg]
    refine ⟨by decide, _, _, _, _, _, _, _, _, _, _, _, _, _, _, _, Q2, _, _, _, _, _, _, _, (upd G.1 G.2.2.2.2.2.2.2.2 kd, G.2), 38, rfl, rfl, by decide, hn, hQ2, (by first | exact Or.inl rfl | exact Or.inr (Or.inl rfl) | exact Or.inr (Or.inr rfl)), ?_⟩
    by_cases w38 : isWB Q2 38 = true
    rotate_left
    · rw [nwK, if_neg w38] at hK
      rw [if_neg w38]
      exact hK Q2 (upd G.1 G.2.2.2.2.2.2.2.2 kd, G.2)
    rw [nwK, if_pos w38] at hK
    rw [if_pos w38]
    refine ⟨_, _, _, _, _, _, _, _, _, _, _, _, _, _, _, nxF tx n Q2, _, _, _, _, _, _, _, (upd G.1 G.2.2.2.2.2.2.2.2 kd, G.2), 2, rfl, rfl, hn, hQ3, (by first | exact Or.inl rfl | exact Or.inr (Or.inl rfl) | exact Or.inr (Or.inr rfl)), hB, ?_⟩
    rcases ht2 : tdF tx n B (nxF tx n Q2) 2 with e | ⟨of, Q4⟩
    · rw [ht2, tdK_l] at hK
      exact hK (nxF tx n Q2) (upd G.1 G.2.2.2.2.2.2.2.2 kd, G.2)
    rw [ht2, tdK_r] at hK
    have hQ4 : Q4.1 ≤ n := by rw [tdF_Q ht2]; exact nxF_le hQ3
    have hQ5 : (nxF tx n Q4).1 ≤ n := nxF_le hQ4
    refine ⟨hvg, ?_⟩
    rw [hcg]
    refine ⟨by decide, _, _, _, _, _, _, _, _, _, _, _, _, _, _, _, Q4, _, _, _, _, _, _, _, (upd G.1 G.2.2.2.2.2.2.2.2 kd, upd G.2.1 G.2.2.2.2.2.2.2.2 of, G.2.2), 40, rfl, rfl, by decide, hn, hQ4, (by first | exact Or.inl rfl | exact Or.inr (Or.inl rfl) | exact Or.inr (Or.inr rfl)), ?_⟩
    by_cases w40 : isWB Q4 40 = true
    rotate_left
    · rw [nwK, if_neg w40] at hK
      rw [if_neg w40]
      exact hK Q4 (upd G.1 G.2.2.2.2.2.2.2.2 kd, upd G.2.1 G.2.2.2.2.2.2.2.2 of, G.2.2)
    rw [nwK, if_pos w40] at hK
    rw [if_pos w40]
    refine ⟨_, _, _, _, _, _, _, _, _, _, _, _, _, _, _, nxF tx n Q4, _, _, _, _, _, _, _, (upd G.1 G.2.2.2.2.2.2.2.2 kd, upd G.2.1 G.2.2.2.2.2.2.2.2 of, G.2.2), 0, 400, rfl, rfl, hn, hQ5, (by first | exact Or.inl rfl | exact Or.inr (Or.inl rfl) | exact Or.inr (Or.inr rfl)), ?_⟩
    rcases ht3 : whF tx n (nxF tx n Q4) 0 400 with e | ⟨af, Q6⟩
    · rw [ht3, tdK_l] at hK
      exact hK (nxF tx n Q4) (upd G.1 G.2.2.2.2.2.2.2.2 kd, upd G.2.1 G.2.2.2.2.2.2.2.2 of, G.2.2)
    rw [ht3, tdK_r] at hK
    refine ⟨hvg, ?_⟩
    rw [hcg]
    exact loop 3 0 (upd G.1 G.2.2.2.2.2.2.2.2 kd, upd G.2.1 G.2.2.2.2.2.2.2.2 of, upd G.2.2.1 G.2.2.2.2.2.2.2.2 af, G.2.2.2) Q6 (by omega) (by rw [whF_Q ht3]; exact nxF_le hQ5) rfl (hG0 hlt) hK
  · refine ⟨Nat.le_of_ble_eq_true rfl, fun C hC => hC _ _ _ _ _ _ ?_⟩
    refine And.intro (fun c => ?_) (fun c => ?_)
    rotate_left
    · have e : G.2.2.2.2.2.2.2.2 = 12 := by
        rcases Nat.decEq G.2.2.2.2.2.2.2.2 12 with z | z
        · exact absurd (show nI G.2.2.2.2.2.2.2.2 = nI 12 from c) (nI_ne z (by omega) (by omega))
        · exact z
      rw [mGiftK, if_pos e] at hK
      exact ⟨_, _, _, _, _, _, _, _, _, _, _, _, _, _, _, _, _, _, _, _, _, rfl, rfl, hK Q G⟩
    have hlt : G.2.2.2.2.2.2.2.2 < 12 := by
      rcases Nat.lt_or_ge G.2.2.2.2.2.2.2.2 12 with z | z
      · exact z
      · exact absurd (show nI G.2.2.2.2.2.2.2.2 = nI 12 by rw [Nat.le_antisymm hG z]) c
    rw [mGiftK, if_neg (by omega)] at hK
    have hvg : vp_in (nI G.2.2.2.2.2.2.2.2) 12 := vp_in_nI hlt (by omega)
    have hcg : (nI G.2.2.2.2.2.2.2.2).toNatClampNeg = G.2.2.2.2.2.2.2.2 := nI_clamp (by omega)
    have loop : ∀ f j (Gj : GT) (Q : QT), j + f = 3 → Q.1 ≤ n → Gj.2.2.2.2.2.2.2.2 = G.2.2.2.2.2.2.2.2 → Gj.2.2.2.1 G.2.2.2.2.2.2.2.2 = nI j → mCasesK tx n B G.2.2.2.2.2.2.2.2 (fun Q' G' => K (.inl none) (modelZ th tr wh fa ta td pn mk mo sn bo jn qn cn n (Q') (tk 0 4) tx sk sp B R L (G'))) (fun e p => ∀ Q' G', K (.inr (.ref 2)) (modelZ th tr wh fa ta td pn mk mo sn bo jn qn cn n (Q') (tk 0 4) tx (e) (nI p) B R L (G'))) f Gj Q → C 89 [(0, .ref 0), (1, .int (nI G.2.2.2.2.2.2.2.2))] [] (modelZ th tr wh fa ta td pn mk mo sn bo jn qn cn n (Q) (tk 0 4) tx sk sp B R L (Gj)) 0 0 := by
      intro f
      have fin : ∀ (Gj : GT) (Q : QT), Gj.2.2.2.2.2.2.2.2 = G.2.2.2.2.2.2.2.2 → K (.inl none) (modelZ th tr wh fa ta td pn mk mo sn bo jn qn cn n (Q) (tk 0 4) tx sk sp B R L (gUp Gj)) → K (.inl none) (modelZ th tr wh fa ta td pn mk mo sn bo jn qn cn n (Q) (tk 0 4) tx sk sp B R L (gUp Gj)) := fun _ _ _ h => h
      induction f with
      | zero =>
        intro j Gj Q hj hQ hGn hGc hK
        rw [mCasesK] at hK
        refine hC _ _ _ _ _ _ ⟨by decide, _, _, _, _, _, _, _, _, _, _, _, _, _, _, _, Q, _, 32, rfl, rfl, by decide, And.intro (fun c => ?_) (fun c => ⟨hvg, And.intro (fun c2 => ?_) (fun c2 => ?_)⟩)⟩
        · rw [if_neg (by rw [bI_0.mp c]; decide)] at hK
          unfold gUp at hK
          show K (.inl none) _
          rw [nI_1]
          exact hK
        · have c2 : ¬ Gj.2.2.2.1 (nI G.2.2.2.2.2.2.2.2).toNatClampNeg = 3 := c2
          rw [hcg, hGc] at c2
          exact absurd (show nI j = nI 3 by rw [show j = 3 by omega]) c2
        · rw [if_pos (bI_n0.mp c)] at hK
          exact ⟨_, _, _, _, _, _, _, _, _, _, _, _, _, _, _, Q, _, _, _, _, _, rfl, rfl, hK Q Gj⟩
      | succ f ih =>
        intro j Gj Q hj hQ hGn hGc hK
        rw [mCasesK] at hK
        have hQ1 : (nxF tx n Q).1 ≤ n := nxF_le hQ
        refine hC _ _ _ _ _ _ ⟨by decide, _, _, _, _, _, _, _, _, _, _, _, _, _, _, _, Q, _, 32, rfl, rfl, by decide, And.intro (fun c => ?_) (fun c => ⟨hvg, And.intro (fun c2 => ?_) (fun c2 => ?_)⟩)⟩
        · rw [if_neg (by rw [bI_0.mp c]; decide)] at hK
          unfold gUp at hK
          show K (.inl none) _
          rw [nI_1]
          exact hK
        · rw [if_pos (bI_n0.mp c)] at hK
          have hgp : gcN Gj G.2.2.2.2.2.2.2.2 = j := by rw [gcN, hGc]; exact nI_clamp (by omega)
          have e : 3 * nI G.2.2.2.2.2.2.2.2 + Gj.2.2.2.1 (nI G.2.2.2.2.2.2.2.2).toNatClampNeg = nI (G.2.2.2.2.2.2.2.2 * 3 + j) := by rw [nI_3m, hcg, hGc, nI_add]
          rw [hgp] at hK
          refine ⟨_, _, _, _, _, _, _, _, _, _, _, _, _, _, _, Q, _, _, rfl, rfl, hn, hQ, (by first | exact Or.inl rfl | exact Or.inr rfl), hvg, _, _, _, _, _, _, _, _, _, _, _, _, _, _, _, nxF tx n Q, _, _, _, _, _, _, _, Gj, G.2.2.2.2.2.2.2.2 * 3 + j, rfl, (by rw [← e]), hn, hQ1, (by first | exact Or.inl rfl | exact Or.inr (Or.inl rfl) | exact Or.inr (Or.inr rfl)), hB, by omega, mCaseK_mono hQ1 (fun Q' G' hQ' hc' hn' hk => ?_) (fun e p hk => fun Q' G' => hk Q' G') hK⟩
          have hgp' : gcN G' G.2.2.2.2.2.2.2.2 = j := by rw [gcN, hc', hGc]; exact nI_clamp (by omega)
          have h9 := ih (j + 1) (gInc G' G.2.2.2.2.2.2.2.2) Q' (by omega) hQ' (hn'.trans hGn) (by show upd G'.2.2.2.1 G.2.2.2.2.2.2.2.2 (nI (gcN G' G.2.2.2.2.2.2.2.2 + 1)) G.2.2.2.2.2.2.2.2 = _; rw [upd_eq, hgp']) hk
          unfold gInc at h9
          rw [hgp'] at h9
          refine ⟨hvg, hvg, ?_⟩
          rw [hcg, hc', hGc, nI_1]
          rw [hc'] at h9
          exact h9
        · have c2 : Gj.2.2.2.1 (nI G.2.2.2.2.2.2.2.2).toNatClampNeg = 3 := c2
          rw [hcg, hGc] at c2
          exact absurd (show nI j = nI 3 from c2) (nI_ne (by omega) (by omega) (by omega))
    refine ⟨_, _, _, _, _, _, _, _, _, _, _, _, _, _, _, _, _, _, rfl, rfl, hn, hQ, (by first | exact Or.inl rfl | exact Or.inr rfl), _, _, _, _, _, _, _, _, _, _, _, _, _, _, _, nxF tx n Q, _, _, _, _, _, _, _, _, 3, rfl, rfl, hn, hQ1, (by first | exact Or.inl rfl | exact Or.inr (Or.inl rfl) | exact Or.inr (Or.inr rfl)), hB, ?_⟩
    rcases ht : tdF tx n B (nxF tx n Q) 3 with e | ⟨kd, Q2⟩
    · rw [ht, tdK_l] at hK
      exact hK (nxF tx n Q) G
    rw [ht, tdK_r] at hK
    have hQ2 : Q2.1 ≤ n := by rw [tdF_Q ht]; exact nxF_le hQ1
    have hQ3 : (nxF tx n Q2).1 ≤ n := nxF_le hQ2
    refine ⟨hvg, ?_⟩
    rw [hcg]
    refine ⟨by decide, _, _, _, _, _, _, _, _, _, _, _, _, _, _, _, Q2, _, _, _, _, _, _, _, (upd G.1 G.2.2.2.2.2.2.2.2 kd, G.2), 38, rfl, rfl, by decide, hn, hQ2, (by first | exact Or.inl rfl | exact Or.inr (Or.inl rfl) | exact Or.inr (Or.inr rfl)), ?_⟩
    by_cases w38 : isWB Q2 38 = true
    rotate_left
    · rw [nwK, if_neg w38] at hK
      rw [if_neg w38]
      exact hK Q2 (upd G.1 G.2.2.2.2.2.2.2.2 kd, G.2)
    rw [nwK, if_pos w38] at hK
    rw [if_pos w38]
    refine ⟨_, _, _, _, _, _, _, _, _, _, _, _, _, _, _, nxF tx n Q2, _, _, _, _, _, _, _, (upd G.1 G.2.2.2.2.2.2.2.2 kd, G.2), 2, rfl, rfl, hn, hQ3, (by first | exact Or.inl rfl | exact Or.inr (Or.inl rfl) | exact Or.inr (Or.inr rfl)), hB, ?_⟩
    rcases ht2 : tdF tx n B (nxF tx n Q2) 2 with e | ⟨of, Q4⟩
    · rw [ht2, tdK_l] at hK
      exact hK (nxF tx n Q2) (upd G.1 G.2.2.2.2.2.2.2.2 kd, G.2)
    rw [ht2, tdK_r] at hK
    have hQ4 : Q4.1 ≤ n := by rw [tdF_Q ht2]; exact nxF_le hQ3
    have hQ5 : (nxF tx n Q4).1 ≤ n := nxF_le hQ4
    refine ⟨hvg, ?_⟩
    rw [hcg]
    refine ⟨by decide, _, _, _, _, _, _, _, _, _, _, _, _, _, _, _, Q4, _, _, _, _, _, _, _, (upd G.1 G.2.2.2.2.2.2.2.2 kd, upd G.2.1 G.2.2.2.2.2.2.2.2 of, G.2.2), 40, rfl, rfl, by decide, hn, hQ4, (by first | exact Or.inl rfl | exact Or.inr (Or.inl rfl) | exact Or.inr (Or.inr rfl)), ?_⟩
    by_cases w40 : isWB Q4 40 = true
    rotate_left
    · rw [nwK, if_neg w40] at hK
      rw [if_neg w40]
      exact hK Q4 (upd G.1 G.2.2.2.2.2.2.2.2 kd, upd G.2.1 G.2.2.2.2.2.2.2.2 of, G.2.2)
    rw [nwK, if_pos w40] at hK
    rw [if_pos w40]
    refine ⟨_, _, _, _, _, _, _, _, _, _, _, _, _, _, _, nxF tx n Q4, _, _, _, _, _, _, _, (upd G.1 G.2.2.2.2.2.2.2.2 kd, upd G.2.1 G.2.2.2.2.2.2.2.2 of, G.2.2), 0, 400, rfl, rfl, hn, hQ5, (by first | exact Or.inl rfl | exact Or.inr (Or.inl rfl) | exact Or.inr (Or.inr rfl)), ?_⟩
    rcases ht3 : whF tx n (nxF tx n Q4) 0 400 with e | ⟨af, Q6⟩
    · rw [ht3, tdK_l] at hK
      exact hK (nxF tx n Q4) (upd G.1 G.2.2.2.2.2.2.2.2 kd, upd G.2.1 G.2.2.2.2.2.2.2.2 of, G.2.2)
    rw [ht3, tdK_r] at hK
    refine ⟨hvg, ?_⟩
    rw [hcg]
    exact loop 3 0 (upd G.1 G.2.2.2.2.2.2.2.2 kd, upd G.2.1 G.2.2.2.2.2.2.2.2 of, upd G.2.2.1 G.2.2.2.2.2.2.2.2 af, G.2.2.2) Q6 (by omega) (by rw [whF_Q ht3]; exact nxF_le hQ5) rfl (hG0 hlt) hK
  · refine ⟨Nat.le_of_ble_eq_true rfl, fun C hC => hC _ _ _ _ _ _ ?_⟩
    refine And.intro (fun c => ?_) (fun c => ?_)
    rotate_left
    · have e : G.2.2.2.2.2.2.2.2 = 12 := by
        rcases Nat.decEq G.2.2.2.2.2.2.2.2 12 with z | z
        · exact absurd (show nI G.2.2.2.2.2.2.2.2 = nI 12 from c) (nI_ne z (by omega) (by omega))
        · exact z
      rw [mGiftK, if_pos e] at hK
      exact ⟨_, _, _, _, _, _, _, _, _, _, _, _, _, _, _, _, _, _, _, _, _, rfl, rfl, hK Q G⟩
    have hlt : G.2.2.2.2.2.2.2.2 < 12 := by
      rcases Nat.lt_or_ge G.2.2.2.2.2.2.2.2 12 with z | z
      · exact z
      · exact absurd (show nI G.2.2.2.2.2.2.2.2 = nI 12 by rw [Nat.le_antisymm hG z]) c
    rw [mGiftK, if_neg (by omega)] at hK
    have hvg : vp_in (nI G.2.2.2.2.2.2.2.2) 12 := vp_in_nI hlt (by omega)
    have hcg : (nI G.2.2.2.2.2.2.2.2).toNatClampNeg = G.2.2.2.2.2.2.2.2 := nI_clamp (by omega)
    have loop : ∀ f j (Gj : GT) (Q : QT), j + f = 3 → Q.1 ≤ n → Gj.2.2.2.2.2.2.2.2 = G.2.2.2.2.2.2.2.2 → Gj.2.2.2.1 G.2.2.2.2.2.2.2.2 = nI j → mCasesK tx n B G.2.2.2.2.2.2.2.2 (fun Q' G' => K (.inl none) (modelZ th tr wh fa ta td pn mk mo sn bo jn qn cn n (Q') (.ref 3) tx sk sp B R L (G'))) (fun e p => ∀ Q' G', K (.inr (.ref 2)) (modelZ th tr wh fa ta td pn mk mo sn bo jn qn cn n (Q') (.ref 3) tx (e) (nI p) B R L (G'))) f Gj Q → C 89 [(0, .ref 0), (1, .int (nI G.2.2.2.2.2.2.2.2))] [] (modelZ th tr wh fa ta td pn mk mo sn bo jn qn cn n (Q) (.ref 3) tx sk sp B R L (Gj)) 0 0 := by
      intro f
      have fin : ∀ (Gj : GT) (Q : QT), Gj.2.2.2.2.2.2.2.2 = G.2.2.2.2.2.2.2.2 → K (.inl none) (modelZ th tr wh fa ta td pn mk mo sn bo jn qn cn n (Q) (.ref 3) tx sk sp B R L (gUp Gj)) → K (.inl none) (modelZ th tr wh fa ta td pn mk mo sn bo jn qn cn n (Q) (.ref 3) tx sk sp B R L (gUp Gj)) := fun _ _ _ h => h
      induction f with
      | zero =>
        intro j Gj Q hj hQ hGn hGc hK
        rw [mCasesK] at hK
        refine hC _ _ _ _ _ _ ⟨by decide, _, _, _, _, _, _, _, _, _, _, _, _, _, _, _, Q, _, 32, rfl, rfl, by decide, And.intro (fun c => ?_) (fun c => ⟨hvg, And.intro (fun c2 => ?_) (fun c2 => ?_)⟩)⟩
        · rw [if_neg (by rw [bI_0.mp c]; decide)] at hK
          unfold gUp at hK
          show K (.inl none) _
          rw [nI_1]
          exact hK
        · have c2 : ¬ Gj.2.2.2.1 (nI G.2.2.2.2.2.2.2.2).toNatClampNeg = 3 := c2
          rw [hcg, hGc] at c2
          exact absurd (show nI j = nI 3 by rw [show j = 3 by omega]) c2
        · rw [if_pos (bI_n0.mp c)] at hK
          exact ⟨_, _, _, _, _, _, _, _, _, _, _, _, _, _, _, Q, _, _, _, _, _, rfl, rfl, hK Q Gj⟩
      | succ f ih =>
        intro j Gj Q hj hQ hGn hGc hK
        rw [mCasesK] at hK
        have hQ1 : (nxF tx n Q).1 ≤ n := nxF_le hQ
        refine hC _ _ _ _ _ _ ⟨by decide, _, _, _, _, _, _, _, _, _, _, _, _, _, _, _, Q, _, 32, rfl, rfl, by decide, And.intro (fun c => ?_) (fun c => ⟨hvg, And.intro (fun c2 => ?_) (fun c2 => ?_)⟩)⟩
        · rw [if_neg (by rw [bI_0.mp c]; decide)] at hK
          unfold gUp at hK
          show K (.inl none) _
          rw [nI_1]
          exact hK
        · rw [if_pos (bI_n0.mp c)] at hK
          have hgp : gcN Gj G.2.2.2.2.2.2.2.2 = j := by rw [gcN, hGc]; exact nI_clamp (by omega)
          have e : 3 * nI G.2.2.2.2.2.2.2.2 + Gj.2.2.2.1 (nI G.2.2.2.2.2.2.2.2).toNatClampNeg = nI (G.2.2.2.2.2.2.2.2 * 3 + j) := by rw [nI_3m, hcg, hGc, nI_add]
          rw [hgp] at hK
          refine ⟨_, _, _, _, _, _, _, _, _, _, _, _, _, _, _, Q, _, _, rfl, rfl, hn, hQ, (by first | exact Or.inl rfl | exact Or.inr rfl), hvg, _, _, _, _, _, _, _, _, _, _, _, _, _, _, _, nxF tx n Q, _, _, _, _, _, _, _, Gj, G.2.2.2.2.2.2.2.2 * 3 + j, rfl, (by rw [← e]), hn, hQ1, (by first | exact Or.inl rfl | exact Or.inr (Or.inl rfl) | exact Or.inr (Or.inr rfl)), hB, by omega, mCaseK_mono hQ1 (fun Q' G' hQ' hc' hn' hk => ?_) (fun e p hk => fun Q' G' => hk Q' G') hK⟩
          have hgp' : gcN G' G.2.2.2.2.2.2.2.2 = j := by rw [gcN, hc', hGc]; exact nI_clamp (by omega)
          have h9 := ih (j + 1) (gInc G' G.2.2.2.2.2.2.2.2) Q' (by omega) hQ' (hn'.trans hGn) (by show upd G'.2.2.2.1 G.2.2.2.2.2.2.2.2 (nI (gcN G' G.2.2.2.2.2.2.2.2 + 1)) G.2.2.2.2.2.2.2.2 = _; rw [upd_eq, hgp']) hk
          unfold gInc at h9
          rw [hgp'] at h9
          refine ⟨hvg, hvg, ?_⟩
          rw [hcg, hc', hGc, nI_1]
          rw [hc'] at h9
          exact h9
        · have c2 : Gj.2.2.2.1 (nI G.2.2.2.2.2.2.2.2).toNatClampNeg = 3 := c2
          rw [hcg, hGc] at c2
          exact absurd (show nI j = nI 3 from c2) (nI_ne (by omega) (by omega) (by omega))
    refine ⟨_, _, _, _, _, _, _, _, _, _, _, _, _, _, _, _, _, _, rfl, rfl, hn, hQ, (by first | exact Or.inl rfl | exact Or.inr rfl), _, _, _, _, _, _, _, _, _, _, _, _, _, _, _, nxF tx n Q, _, _, _, _, _, _, _, _, 3, rfl, rfl, hn, hQ1, (by first | exact Or.inl rfl | exact Or.inr (Or.inl rfl) | exact Or.inr (Or.inr rfl)), hB, ?_⟩
    rcases ht : tdF tx n B (nxF tx n Q) 3 with e | ⟨kd, Q2⟩
    · rw [ht, tdK_l] at hK
      exact hK (nxF tx n Q) G
    rw [ht, tdK_r] at hK
    have hQ2 : Q2.1 ≤ n := by rw [tdF_Q ht]; exact nxF_le hQ1
    have hQ3 : (nxF tx n Q2).1 ≤ n := nxF_le hQ2
    refine ⟨hvg, ?_⟩
    rw [hcg]
    refine ⟨by decide, _, _, _, _, _, _, _, _, _, _, _, _, _, _, _, Q2, _, _, _, _, _, _, _, (upd G.1 G.2.2.2.2.2.2.2.2 kd, G.2), 38, rfl, rfl, by decide, hn, hQ2, (by first | exact Or.inl rfl | exact Or.inr (Or.inl rfl) | exact Or.inr (Or.inr rfl)), ?_⟩
    by_cases w38 : isWB Q2 38 = true
    rotate_left
    · rw [nwK, if_neg w38] at hK
      rw [if_neg w38]
      exact hK Q2 (upd G.1 G.2.2.2.2.2.2.2.2 kd, G.2)
    rw [nwK, if_pos w38] at hK
    rw [if_pos w38]
    refine ⟨_, _, _, _, _, _, _, _, _, _, _, _, _, _, _, nxF tx n Q2, _, _, _, _, _, _, _, (upd G.1 G.2.2.2.2.2.2.2.2 kd, G.2), 2, rfl, rfl, hn, hQ3, (by first | exact Or.inl rfl | exact Or.inr (Or.inl rfl) | exact Or.inr (Or.inr rfl)), hB, ?_⟩
    rcases ht2 : tdF tx n B (nxF tx n Q2) 2 with e | ⟨of, Q4⟩
    · rw [ht2, tdK_l] at hK
      exact hK (nxF tx n Q2) (upd G.1 G.2.2.2.2.2.2.2.2 kd, G.2)
    rw [ht2, tdK_r] at hK
    have hQ4 : Q4.1 ≤ n := by rw [tdF_Q ht2]; exact nxF_le hQ3
    have hQ5 : (nxF tx n Q4).1 ≤ n := nxF_le hQ4
    refine ⟨hvg, ?_⟩
    rw [hcg]
    refine ⟨by decide, _, _, _, _, _, _, _, _, _, _, _, _, _, _, _, Q4, _, _, _, _, _, _, _, (upd G.1 G.2.2.2.2.2.2.2.2 kd, upd G.2.1 G.2.2.2.2.2.2.2.2 of, G.2.2), 40, rfl, rfl, by decide, hn, hQ4, (by first | exact Or.inl rfl | exact Or.inr (Or.inl rfl) | exact Or.inr (Or.inr rfl)), ?_⟩
    by_cases w40 : isWB Q4 40 = true
    rotate_left
    · rw [nwK, if_neg w40] at hK
      rw [if_neg w40]
      exact hK Q4 (upd G.1 G.2.2.2.2.2.2.2.2 kd, upd G.2.1 G.2.2.2.2.2.2.2.2 of, G.2.2)
    rw [nwK, if_pos w40] at hK
    rw [if_pos w40]
    refine ⟨_, _, _, _, _, _, _, _, _, _, _, _, _, _, _, nxF tx n Q4, _, _, _, _, _, _, _, (upd G.1 G.2.2.2.2.2.2.2.2 kd, upd G.2.1 G.2.2.2.2.2.2.2.2 of, G.2.2), 0, 400, rfl, rfl, hn, hQ5, (by first | exact Or.inl rfl | exact Or.inr (Or.inl rfl) | exact Or.inr (Or.inr rfl)), ?_⟩
    rcases ht3 : whF tx n (nxF tx n Q4) 0 400 with e | ⟨af, Q6⟩
    · rw [ht3, tdK_l] at hK
      exact hK (nxF tx n Q4) (upd G.1 G.2.2.2.2.2.2.2.2 kd, upd G.2.1 G.2.2.2.2.2.2.2.2 of, G.2.2)
    rw [ht3, tdK_r] at hK
    refine ⟨hvg, ?_⟩
    rw [hcg]
    exact loop 3 0 (upd G.1 G.2.2.2.2.2.2.2.2 kd, upd G.2.1 G.2.2.2.2.2.2.2.2 of, upd G.2.2.1 G.2.2.2.2.2.2.2.2 af, G.2.2.2) Q6 (by omega) (by rw [whF_Q ht3]; exact nxF_le hQ5) rfl (hG0 hlt) hK
