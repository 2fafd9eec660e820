theorem tdK_r {α : Type} {v : Int32} {Q Q' : QT} {k : Int32 → QT → α} {kf : Int32 → Nat → α} : tdK (.inr (v, Q')) Q k kf = k v Q' := rfl
theorem tdK_l {α : Type} {e : Int32} {Q : QT} {k : Int32 → QT → α} {kf : Int32 → Nat → α} : tdK (.inl e) Q k kf = kf e Q.2.2.1 := rfl
def rUp (R : RT) : RT := (R.1, R.2.1, R.2.2.1, R.2.2.2.1, R.2.2.2.2.1, R.2.2.2.2.2.1, R.2.2.2.2.2.2.1, R.2.2.2.2.2.2.2 + 1)
def mPostsK {α : Type} (tx : Nat → Int32) (n : Nat) (B : BT) (r : Nat) (k : QT → RT → α) (kf : Int32 → Nat → α) : Nat → RT → QT → α
  | 0, R, Q => if isWB Q 30 = true then kf 5 Q.2.2.1 else k Q (rUp R)
  | f + 1, R, Q => if isWB Q 30 = true then tdK (tdF tx n B (nxF tx n Q) 3) (nxF tx n Q) (fun kd Q2 => nwK tx n Q2 35 (fun Q3 => tdK (tdF tx n B Q3 1) Q3 (fun ld Q4 => mPostsK tx n B r k kf f (roadPost R r kd ld) Q4) kf) kf) kf else k Q (rUp R)
def mRoad2 {α : Type} (tx : Nat → Int32) (n : Nat) (B : BT) (R : RT) (a b : Int32) (Q : QT) (k : QT → RT → α) (kf : Int32 → Nat → α) : α :=
  nwK tx n Q 33 (fun Q4 => tdK (whF tx n Q4 1 60) Q4 (fun dy Q5 => nwK tx n Q5 34 (fun Q6 => tdK (whF tx n Q6 0 999) Q6 (fun co Q7 => mPostsK tx n B R.2.2.2.2.2.2.2 k kf 3 (upd R.1 R.2.2.2.2.2.2.2 a, upd R.2.1 R.2.2.2.2.2.2.2 b, upd R.2.2.1 R.2.2.2.2.2.2.2 dy, upd R.2.2.2.1 R.2.2.2.2.2.2.2 co, R.2.2.2.2) Q7) kf) kf) kf) kf
def mRoadK {α : Type} (tx : Nat → Int32) (n : Nat) (B : BT) (R : RT) (Q : QT) (k : QT → RT → α) (kf : Int32 → Nat → α) : α :=
  if R.2.2.2.2.2.2.2 = 16 then kf 5 Q.2.2.1 else tdK (tdF tx n B (nxF tx n Q) 0) (nxF tx n Q) (fun a Q2 => tdK (tdF tx n B Q2 0) Q2 (fun b Q3 => if a = b then kf 3 Q2.2.2.1 else mRoad2 tx n B R a b Q3 k kf) kf) kf

def tX14_readRoad : List q_I := [(0, .aload_n 0, 1, 0, 0), (1, .getfield 215, 3, 0, 0), (4, .getfield 255, 3, 0, 0), (7, .bipush 16, 2, 16, 0), (9, .if_icmp .ne 9, 3, 0, 18), (12, .aload_n 0, 1, 0, 0), (13, .iconst 5, 1, 5, 0), (14, .invokevirtual 201, 3, 0, 0), (17, .athrow, 1, 0, 0), (18, .aload_n 0, 1, 0, 0), (19, .invokevirtual 204, 3, 0, 0), (22, .aload_n 0, 1, 0, 0), (23, .getfield 215, 3, 0, 0), (26, .getfield 255, 3, 0, 0), (29, .istore_n 1, 1, 0, 0), (30, .aload_n 0, 1, 0, 0), (31, .getfield 215, 3, 0, 0), (34, .getfield 258, 3, 0, 0), (37, .iload_n 1, 1, 0, 0), (38, .aload_n 0, 1, 0, 0), (39, .iconst 0, 1, 0, 0), (40, .invokevirtual 261, 3, 0, 0), (43, .iastore, 1, 0, 0), (44, .aload_n 0, 1, 0, 0), (45, .getfield 132, 3, 0, 0), (48, .istore_n 2, 1, 0, 0), (49, .aload_n 0, 1, 0, 0), (50, .getfield 215, 3, 0, 0), (53, .getfield 264, 3, 0, 0), (56, .iload_n 1, 1, 0, 0), (57, .aload_n 0, 1, 0, 0), (58, .iconst 0, 1, 0, 0), (59, .invokevirtual 261, 3, 0, 0), (62, .iastore, 1, 0, 0), (63, .aload_n 0, 1, 0, 0), (64, .getfield 215, 3, 0, 0), (67, .getfield 258, 3, 0, 0), (70, .iload_n 1, 1, 0, 0), (71, .iaload, 1, 0, 0), (72, .aload_n 0, 1, 0, 0), (73, .getfield 215, 3, 0, 0), (76, .getfield 264, 3, 0, 0), (79, .iload_n 1, 1, 0, 0), (80, .iaload, 1, 0, 0), (81, .if_icmp .ne 14, 3, 0, 95), (84, .aload_n 0, 1, 0, 0), (85, .iload_n 2, 1, 0, 0), (86, .putfield 132, 3, 0, 0), (89, .aload_n 0, 1, 0, 0), (90, .iconst 3, 1, 3, 0), (91, .invokevirtual 201, 3, 0, 0), (94, .athrow, 1, 0, 0), (95, .aload_n 0, 1, 0, 0), (96, .ldc_w 267, 3, 0, 0), (99, .invokevirtual 269, 3, 0, 0), (102, .aload_n 0, 1, 0, 0), (103, .getfield 215, 3, 0, 0), (106, .getfield 273, 3, 0, 0), (109, .iload_n 1, 1, 0, 0), (110, .aload_n 0, 1, 0, 0), (111, .iconst 1, 1, 1, 0), (112, .bipush 60, 2, 60, 0), (114, .invokevirtual 275, 3, 0, 0), (117, .iastore, 1, 0, 0), (118, .aload_n 0, 1, 0, 0), (119, .ldc_w 279, 3, 0, 0), (122, .invokevirtual 269, 3, 0, 0), (125, .aload_n 0, 1, 0, 0), (126, .getfield 215, 3, 0, 0), (129, .getfield 281, 3, 0, 0), (132, .iload_n 1, 1, 0, 0), (133, .aload_n 0, 1, 0, 0), (134, .iconst 0, 1, 0, 0), (135, .sipush 999, 3, 999, 0), (138, .invokevirtual 275, 3, 0, 0), (141, .iastore, 1, 0, 0), (142, .aload_n 0, 1, 0, 0), (143, .ldc 195, 2, 0, 0), (145, .invokevirtual 180, 3, 0, 0), (148, .ifCond .eq 91, 3, 0, 239), (151, .aload_n 0, 1, 0, 0), (152, .getfield 215, 3, 0, 0), (155, .getfield 283, 3, 0, 0), (158, .iload_n 1, 1, 0, 0), (159, .iaload, 1, 0, 0), (160, .iconst 3, 1, 3, 0), (161, .if_icmp .ne 9, 3, 0, 170), (164, .aload_n 0, 1, 0, 0), (165, .iconst 5, 1, 5, 0), (166, .invokevirtual 201, 3, 0, 0), (169, .athrow, 1, 0, 0), (170, .aload_n 0, 1, 0, 0), (171, .invokevirtual 204, 3, 0, 0), (174, .iconst 3, 1, 3, 0), (175, .iload_n 1, 1, 0, 0), (176, .imul, 1, 0, 0), (177, .aload_n 0, 1, 0, 0), (178, .getfield 215, 3, 0, 0), (181, .getfield 283, 3, 0, 0), (184, .iload_n 1, 1, 0, 0), (185, .iaload, 1, 0, 0), (186, .iadd, 1, 0, 0), (187, .istore_n 3, 1, 0, 0), (188, .aload_n 0, 1, 0, 0), (189, .getfield 215, 3, 0, 0), (192, .getfield 286, 3, 0, 0), (195, .iload_n 3, 1, 0, 0), (196, .aload_n 0, 1, 0, 0), (197, .iconst 3, 1, 3, 0), (198, .invokevirtual 261, 3, 0, 0), (201, .iastore, 1, 0, 0), (202, .aload_n 0, 1, 0, 0), (203, .ldc_w 289, 3, 0, 0), (206, .invokevirtual 269, 3, 0, 0), (209, .aload_n 0, 1, 0, 0), (210, .getfield 215, 3, 0, 0), (213, .getfield 291, 3, 0, 0), (216, .iload_n 3, 1, 0, 0), (217, .aload_n 0, 1, 0, 0), (218, .iconst 1, 1, 1, 0), (219, .invokevirtual 261, 3, 0, 0), (222, .iastore, 1, 0, 0), (223, .aload_n 0, 1, 0, 0), (224, .getfield 215, 3, 0, 0), (227, .getfield 283, 3, 0, 0), (230, .iload_n 1, 1, 0, 0), (231, .dup2, 1, 0, 0), (232, .iaload, 1, 0, 0), (233, .iconst 1, 1, 1, 0), (234, .iadd, 1, 0, 0), (235, .iastore, 1, 0, 0), (236, .goto (-94), 3, 0, 142), (239, .aload_n 0, 1, 0, 0), (240, .getfield 215, 3, 0, 0), (243, .dup, 1, 0, 0), (244, .getfield 255, 3, 0, 0), (247, .iconst 1, 1, 1, 0), (248, .iadd, 1, 0, 0), (249, .putfield 255, 3, 0, 0), (252, .return_, 1, 0, 0)]
theorem tX14_readRoad_ok : (tX14_readRoad.all (q_okI cX14_readRoad)) = true := by decide +kernel

abbrev fdX14_readRoad : List (Nat ⊕ (Nat × Nat)) := [.inl 0, .inr (0, 7), .inr (0, 6), .inr (0, 5), .inr (3, 0), .inr (3, 1), .inr (3, 2), .inr (3, 3), .inr (3, 8), .inr (3, 9), .inr (3, 10), .inr (3, 11), .inr (3, 12), .inr (3, 13), .inr (3, 14), .inr (3, 15), .inr (3, 16), .inr (3, 17), .inr (3, 18), .inr (3, 19), .inr (3, 20), .inr (3, 21), .inr (3, 22), .inr (3, 23), .inr (3, 24), .inr (3, 25), .inr (3, 26), .inr (3, 27), .inr (3, 28)]
def spX14_readRoad : q_P := fun a w K => ∃ (th : Int32) (tr : Int32) (wh : Int32) (fa : Int32) (ta : Int32) (td : Int32) (pn : Int32) (mk : Int32) (mo : Int32) (sn : Int32) (bo : Int32) (jn : Int32) (qn : Int32) (cn : Int32) (n : Nat) (Q : QT) (bk : Value) (tx : Nat → Int32) (sk : Int32) (sp : Int32) (B : BT) (R : RT) (L : LT) (G : GT), w = (modelZ th tr wh fa ta td pn mk mo sn bo jn qn cn n Q bk tx sk sp B R L G) ∧ a = [.ref 0] ∧ n ≤ 700 ∧ Q.1 ≤ n ∧ bkZ bk ∧ B.2.2.2.2 ≤ 25 ∧ R.2.2.2.2.2.2.2 ≤ 16 ∧ (R.2.2.2.2.2.2.2 < 16 → R.2.2.2.2.1 R.2.2.2.2.2.2.2 = 0) ∧ mRoadK tx n B R Q (fun Q' R' => K (.inl none) (modelZ th tr wh fa ta td pn mk mo sn bo jn qn cn n (Q') bk tx sk sp B (R') L G)) (fun e p => ∀ Q' R', K (.inr (.ref 2)) (modelZ th tr wh fa ta td pn mk mo sn bo jn qn cn n (Q') bk tx (e) (nI p) B (R') L G))
abbrev csX14_readRoad : q_S := (1, 14, 8, 4, 0, 0, fdX14_readRoad, spX14_readRoad)
def EX14_readRoad : q_E := (tX14_readRoad, [(95, [0, 1]), (142, [0, 1])], 4, flX14, [(201, csX14_stop), (204, csX14_next), (261, csX14_readTold), (269, csX14_needWord), (275, csX14_readWhole), (180, csX14_isWord)], [], [], [(195, 30), (267, 33), (279, 34), (289, 35)], [], [], 8, 0, 0, none, [], [], 0, 0)
theorem okX14_readRoad (l : Launch) : q_Eok l RX14 cX14_readRoad EX14_readRoad := ⟨tX14_readRoad_ok, flX14_ok, List.forall_mem_cons.mpr ⟨(coX14_201 l), List.forall_mem_cons.mpr ⟨(coX14_204 l), List.forall_mem_cons.mpr ⟨(coX14_261 l), List.forall_mem_cons.mpr ⟨(coX14_269 l), List.forall_mem_cons.mpr ⟨(coX14_275 l), List.forall_mem_cons.mpr ⟨(coX14_180 l), q_nil⟩⟩⟩⟩⟩⟩, q_nil, q_nil, List.forall_mem_cons.mpr ⟨⟨_, rfl, rfl, rfl⟩, List.forall_mem_cons.mpr ⟨⟨_, rfl, rfl, rfl⟩, List.forall_mem_cons.mpr ⟨⟨_, rfl, rfl, rfl⟩, List.forall_mem_cons.mpr ⟨⟨_, rfl, rfl, rfl⟩, q_nil⟩⟩⟩⟩, q_nil, q_nil, (fun h => absurd h (by decide))⟩
set_option maxRecDepth 100000 in
set_option maxHeartbeats 4000000 in
theorem ctX14_readRoad (l : Launch) : q_CT l yX14_readRoad (.code yX14_readRoad cX14_readRoad 4 none) 8 0 0 spX14_readRoad := by
  refine q_ct_of EX14_readRoad (by decide +kernel) (okX14_readRoad l) rfl rfl rfl rfl rfl q_nil (fun ci h => by cases h) rfl ?_
  intro a w K h
  obtain ⟨th, tr, wh, fa, ta, td, pn, mk, mo, sn, bo, jn, qn, cn, n, Q, bk, tx, sk, sp, B, R, L, G, rfl, rfl, hn, hQ, hbk, hB, hR, hR0, hK⟩ := h
  have hQ1 : (nxF tx n Q).1 ≤ n := nxF_le hQ
  rcases hbk with rfl | rfl | rfl
  · refine ⟨Nat.le_of_ble_eq_true rfl, fun C hC => hC _ _ _ _ _ _ ?_⟩
    refine And.intro (fun c => ?_) (fun c => ?_)
    rotate_left
    · have e : R.2.2.2.2.2.2.2 = 16 := by
        rcases Nat.decEq R.2.2.2.2.2.2.2 16 with z | z
        · exact absurd (show nI R.2.2.2.2.2.2.2 = nI 16 from c) (nI_ne z (by omega) (by omega))
        · exact z
      rw [mRoadK, if_pos e] at hK
      exact ⟨_, _, _, _, _, _, _, _, _, _, _, _, _, _, _, _, _, _, _, _, _, rfl, rfl, hK Q R⟩
    have hlt : R.2.2.2.2.2.2.2 < 16 := by
      rcases Nat.lt_or_ge R.2.2.2.2.2.2.2 16 with z | z
      · exact z
      · exact absurd (show nI R.2.2.2.2.2.2.2 = nI 16 by rw [Nat.le_antisymm hR z]) c
    rw [mRoadK, if_neg (by omega)] at hK
    have hvr : vp_in (nI R.2.2.2.2.2.2.2) 16 := vp_in_nI hlt (by omega)
    have hcr : (nI R.2.2.2.2.2.2.2).toNatClampNeg = R.2.2.2.2.2.2.2 := nI_clamp (by omega)
    have step : ∀ j (Rj : RT) (Q : QT), j ≤ 3 → Q.1 ≤ n → Rj.2.2.2.2.2.2.2 = R.2.2.2.2.2.2.2 → Rj.2.2.2.2.1 R.2.2.2.2.2.2.2 = nI j → (isWB Q 30 = true → j = 3 → (fun e p => ∀ Q' R', K (.inr (.ref 2)) (modelZ th tr wh fa ta td pn mk mo sn bo jn qn cn n (Q') (.null) tx (e) (nI p) B (R') L G)) 5 Q.2.2.1) → (isWB Q 30 = false → K (.inl none) (modelZ th tr wh fa ta td pn mk mo sn bo jn qn cn n (Q) (.null) tx sk sp B (rUp Rj) L G)) → (isWB Q 30 = true → j < 3 → tdK (tdF tx n B (nxF tx n Q) 3) (nxF tx n Q) (fun kd Q2 => nwK tx n Q2 35 (fun Q3 => tdK (tdF tx n B Q3 1) Q3 (fun ld Q4 => Q4.1 ≤ n → C 142 [(0, .ref 0), (1, .int (nI R.2.2.2.2.2.2.2))] [] (modelZ th tr wh fa ta td pn mk mo sn bo jn qn cn n (Q4) (.null) tx sk sp B (roadPost Rj R.2.2.2.2.2.2.2 kd ld) L G) 0 0) (fun e p => ∀ Q' R', K (.inr (.ref 2)) (modelZ th tr wh fa ta td pn mk mo sn bo jn qn cn n (Q') (.null) tx (e) (nI p) B (R') L G))) (fun e p => ∀ Q' R', K (.inr (.ref 2)) (modelZ th tr wh fa ta td pn mk mo sn bo jn qn cn n (Q') (.null) tx (e) (nI p) B (R') L G))) (fun e p => ∀ Q' R', K (.inr (.ref 2)) (modelZ th tr wh fa ta td pn mk mo sn bo jn qn cn n (Q') (.null) tx (e) (nI p) B (R') L G))) → C 142 [(0, .ref 0), (1, .int (nI R.2.2.2.2.2.2.2))] [] (modelZ th tr wh fa ta td pn mk mo sn bo jn qn cn n (Q) (.null) tx sk sp B (Rj) L G) 0 0 := by
      intro j Rj Q hj hQ hRn hRp h5 hend hgo
      have hQ1 : (nxF tx n Q).1 ≤ n := nxF_le hQ
      refine hC _ _ _ _ _ _ ⟨by decide, _, _, _, _, _, _, _, _, _, _, _, _, _, _, _, Q, _, 30, rfl, rfl, by decide, And.intro (fun c => ?_) (fun c => ⟨hvr, And.intro (fun c2 => ?_) (fun c2 => ?_)⟩)⟩
      · have hK := hend (bI_0.mp c)
        unfold rUp at hK
        show K (.inl none) _
        rw [nI_1]
        exact hK
      · have c2 : ¬ Rj.2.2.2.2.1 (nI R.2.2.2.2.2.2.2).toNatClampNeg = 3 := c2
        rw [hcr, hRp] at c2
        have hj3 : j < 3 := by
          rcases Nat.lt_or_ge j 3 with z | z
          · exact z
          · exact absurd (show nI j = nI 3 by rw [Nat.le_antisymm hj z]) c2
        have hK := hgo (bI_n0.mp c) hj3
        have hrp : rpN Rj R.2.2.2.2.2.2.2 = j := by rw [rpN, hRp]; exact nI_clamp (by omega)
        have e : 3 * nI R.2.2.2.2.2.2.2 + Rj.2.2.2.2.1 (nI R.2.2.2.2.2.2.2).toNatClampNeg = nI (R.2.2.2.2.2.2.2 * 3 + j) := by rw [nI_3m, hcr, hRp, nI_add]
        have hvi : vp_in (nI (R.2.2.2.2.2.2.2 * 3 + j)) 48 := vp_in_nI (by omega) (by omega)
        have hci : (nI (R.2.2.2.2.2.2.2 * 3 + j)).toNatClampNeg = R.2.2.2.2.2.2.2 * 3 + j := nI_clamp (by omega)
        refine ⟨_, _, _, _, _, _, _, _, _, _, _, _, _, _, _, Q, _, _, rfl, rfl, hn, hQ, (by first | exact Or.inl rfl | exact Or.inr rfl), hvr, _, _, _, _, _, _, _, _, _, _, _, _, _, _, _, nxF tx n Q, _, _, _, _, _, Rj, _, _, 3, rfl, rfl, hn, hQ1, (by first | exact Or.inl rfl | exact Or.inr (Or.inl rfl) | exact Or.inr (Or.inr rfl)), hB, ?_⟩
        rcases ht : tdF tx n B (nxF tx n Q) 3 with e9 | ⟨kd, Q2⟩
        · rw [ht] at hK
          exact hK (nxF tx n Q) Rj
        rw [ht] at hK
        have hQ2 : Q2.1 ≤ n := by rw [tdF_Q ht]; exact nxF_le hQ1
        have hQ3 : (nxF tx n Q2).1 ≤ n := nxF_le hQ2
        refine ⟨by rw [e]; exact hvi, ?_⟩
        rw [e, hci]
        refine ⟨by decide, _, _, _, _, _, _, _, _, _, _, _, _, _, _, _, Q2, _, _, _, _, _, (Rj.1, Rj.2.1, Rj.2.2.1, Rj.2.2.2.1, Rj.2.2.2.2.1, upd Rj.2.2.2.2.2.1 (R.2.2.2.2.2.2.2 * 3 + j) kd, Rj.2.2.2.2.2.2.1, Rj.2.2.2.2.2.2.2), _, _, 35, rfl, rfl, by decide, hn, hQ2, (by first | exact Or.inl rfl | exact Or.inr (Or.inl rfl) | exact Or.inr (Or.inr rfl)), ?_⟩
        rw [tdK_r] at hK
        by_cases w35 : isWB Q2 35 = true
        rotate_left
        · rw [nwK, if_neg w35] at hK
          rw [if_neg w35]
          exact hK Q2 _
        rw [nwK, if_pos w35] at hK
        rw [if_pos w35]
        refine ⟨_, _, _, _, _, _, _, _, _, _, _, _, _, _, _, nxF tx n Q2, _, _, _, _, _, (Rj.1, Rj.2.1, Rj.2.2.1, Rj.2.2.2.1, Rj.2.2.2.2.1, upd Rj.2.2.2.2.2.1 (R.2.2.2.2.2.2.2 * 3 + j) kd, Rj.2.2.2.2.2.2.1, Rj.2.2.2.2.2.2.2), _, _, 1, rfl, rfl, hn, hQ3, (by first | exact Or.inl rfl | exact Or.inr (Or.inl rfl) | exact Or.inr (Or.inr rfl)), hB, ?_⟩
        rcases ht2 : tdF tx n B (nxF tx n Q2) 1 with e9 | ⟨ld, Q4⟩
        · rw [ht2] at hK
          exact hK (nxF tx n Q2) (Rj.1, Rj.2.1, Rj.2.2.1, Rj.2.2.2.1, Rj.2.2.2.2.1, upd Rj.2.2.2.2.2.1 (R.2.2.2.2.2.2.2 * 3 + j) kd, Rj.2.2.2.2.2.2.1, Rj.2.2.2.2.2.2.2)
        rw [ht2, tdK_r] at hK
        have h9 := hK (by rw [tdF_Q ht2]; exact nxF_le hQ3)
        unfold roadPost at h9
        rw [hrp] at h9
        refine ⟨hvi, hvr, hvr, ?_⟩
        rw [hci, hcr, hRp, nI_1]
        exact h9
      · have c2 : Rj.2.2.2.2.1 (nI R.2.2.2.2.2.2.2).toNatClampNeg = 3 := c2
        rw [hcr, hRp] at c2
        have hj3 : j = 3 := by
          rcases Nat.decEq j 3 with z | z
          · exact absurd (show nI j = nI 3 from c2) (nI_ne z (by omega) (by omega))
          · exact z
        exact ⟨_, _, _, _, _, _, _, _, _, _, _, _, _, _, _, Q, _, _, _, _, _, rfl, rfl, h5 (bI_n0.mp c) hj3 Q Rj⟩
  
    have loop : ∀ f j (Rj : RT) (Q : QT), j + f = 3 → Q.1 ≤ n → Rj.2.2.2.2.2.2.2 = R.2.2.2.2.2.2.2 → Rj.2.2.2.2.1 R.2.2.2.2.2.2.2 = nI j → mPostsK tx n B R.2.2.2.2.2.2.2 (fun Q' R' => K (.inl none) (modelZ th tr wh fa ta td pn mk mo sn bo jn qn cn n (Q') (.null) tx sk sp B (R') L G)) (fun e p => ∀ Q' R', K (.inr (.ref 2)) (modelZ th tr wh fa ta td pn mk mo sn bo jn qn cn n (Q') (.null) tx (e) (nI p) B (R') L G)) f Rj Q → C 142 [(0, .ref 0), (1, .int (nI R.2.2.2.2.2.2.2))] [] (modelZ th tr wh fa ta td pn mk mo sn bo jn qn cn n (Q) (.null) tx sk sp B (Rj) L G) 0 0 := by
      intro f
      induction f with
      | zero =>
        intro j Rj Q hj hQ hRn hRp hK
        rw [mPostsK] at hK
        exact step j Rj Q (by omega) hQ hRn hRp (fun h _ => by rw [if_pos h] at hK; exact hK) (fun h => by rw [if_neg (by rw [h]; decide)] at hK; exact hK) (fun _ h => absurd h (by omega))
      | succ f ih =>
        intro j Rj Q hj hQ hRn hRp hK
        rw [mPostsK] at hK
        refine step j Rj Q (by omega) hQ hRn hRp (fun _ h => absurd h (by omega)) (fun h => by rw [if_neg (by rw [h]; decide)] at hK; exact hK) (fun h _ => ?_)
        rw [if_pos h] at hK
        have hrp : rpN Rj R.2.2.2.2.2.2.2 = j := by rw [rpN, hRp]; exact nI_clamp (by omega)
        rcases ht : tdF tx n B (nxF tx n Q) 3 with e9 | ⟨kd, Q2⟩
        · rw [ht, tdK_l] at hK; exact hK
        rw [ht, tdK_r] at hK
        rw [tdK_r]
        by_cases w35 : isWB Q2 35 = true
        rotate_left
        · rw [nwK, if_neg w35] at hK ⊢
          exact hK
        rw [nwK, if_pos w35] at hK ⊢
        rcases ht2 : tdF tx n B (nxF tx n Q2) 1 with e9 | ⟨ld, Q4⟩
        · rw [ht2, tdK_l] at hK; exact hK
        rw [ht2, tdK_r] at hK
        rw [tdK_r]
        intro hQ4
        exact ih (j + 1) (roadPost Rj R.2.2.2.2.2.2.2 kd ld) Q4 (by omega) hQ4 hRn (by show upd Rj.2.2.2.2.1 R.2.2.2.2.2.2.2 (nI (rpN Rj R.2.2.2.2.2.2.2 + 1)) R.2.2.2.2.2.2.2 = _; rw [upd_eq, hrp]) hK
    have c95 : ∀ (a b : Int32) (Q3 : QT), Q3.1 ≤ n → mRoad2 tx n B R a b Q3 (fun Q' R' => K (.inl none) (modelZ th tr wh fa ta td pn mk mo sn bo jn qn cn n (Q') (.null) tx sk sp B (R') L G)) (fun e p => ∀ Q' R', K (.inr (.ref 2)) (modelZ th tr wh fa ta td pn mk mo sn bo jn qn cn n (Q') (.null) tx (e) (nI p) B (R') L G)) → C 95 [(0, .ref 0), (1, .int (nI R.2.2.2.2.2.2.2))] [] (modelZ th tr wh fa ta td pn mk mo sn bo jn qn cn n (Q3) (.null) tx sk sp B ((upd R.1 R.2.2.2.2.2.2.2 a, upd R.2.1 R.2.2.2.2.2.2.2 b, R.2.2.1, R.2.2.2.1, R.2.2.2.2.1, R.2.2.2.2.2.1, R.2.2.2.2.2.2.1, R.2.2.2.2.2.2.2)) L G) 0 0 := by
      intro a b Q3 hQ3 hK
      have hQ4 : (nxF tx n Q3).1 ≤ n := nxF_le hQ3
      rw [mRoad2] at hK
      refine hC _ _ _ _ _ _ ⟨by decide, _, _, _, _, _, _, _, _, _, _, _, _, _, _, _, Q3, _, _, _, _, _, (upd R.1 R.2.2.2.2.2.2.2 a, upd R.2.1 R.2.2.2.2.2.2.2 b, R.2.2.1, R.2.2.2.1, R.2.2.2.2.1, R.2.2.2.2.2.1, R.2.2.2.2.2.2.1, R.2.2.2.2.2.2.2), _, _, 33, rfl, rfl, by decide, hn, hQ3, (by first | exact Or.inl rfl | exact Or.inr (Or.inl rfl) | exact Or.inr (Or.inr rfl)), ?_⟩
      by_cases w33 : isWB Q3 33 = true
      rotate_left
      · rw [nwK, if_neg w33] at hK
        rw [if_neg w33]
        exact hK Q3 _
      rw [nwK, if_pos w33] at hK
      rw [if_pos w33]
      refine ⟨_, _, _, _, _, _, _, _, _, _, _, _, _, _, _, nxF tx n Q3, _, _, _, _, _, (upd R.1 R.2.2.2.2.2.2.2 a, upd R.2.1 R.2.2.2.2.2.2.2 b, R.2.2.1, R.2.2.2.1, R.2.2.2.2.1, R.2.2.2.2.2.1, R.2.2.2.2.2.2.1, R.2.2.2.2.2.2.2), _, _, 1, 60, rfl, rfl, hn, hQ4, (by first | exact Or.inl rfl | exact Or.inr (Or.inl rfl) | exact Or.inr (Or.inr rfl)), ?_⟩
      rcases ht : whF tx n (nxF tx n Q3) 1 60 with e | ⟨dy, Q5⟩
      · rw [ht] at hK
        exact hK (nxF tx n Q3) (upd R.1 R.2.2.2.2.2.2.2 a, upd R.2.1 R.2.2.2.2.2.2.2 b, R.2.2.1, R.2.2.2.1, R.2.2.2.2.1, R.2.2.2.2.2.1, R.2.2.2.2.2.2.1, R.2.2.2.2.2.2.2)
      rw [ht, tdK_r] at hK
      have hQ5 : Q5.1 ≤ n := by rw [whF_Q ht]; exact nxF_le hQ4
      have hQ6 : (nxF tx n Q5).1 ≤ n := nxF_le hQ5
      refine ⟨hvr, ?_⟩
      rw [hcr]
      refine ⟨by decide, _, _, _, _, _, _, _, _, _, _, _, _, _, _, _, Q5, _, _, _, _, _, (upd R.1 R.2.2.2.2.2.2.2 a, upd R.2.1 R.2.2.2.2.2.2.2 b, upd R.2.2.1 R.2.2.2.2.2.2.2 dy, R.2.2.2.1, R.2.2.2.2.1, R.2.2.2.2.2.1, R.2.2.2.2.2.2.1, R.2.2.2.2.2.2.2), _, _, 34, rfl, rfl, by decide, hn, hQ5, (by first | exact Or.inl rfl | exact Or.inr (Or.inl rfl) | exact Or.inr (Or.inr rfl)), ?_⟩
      by_cases w34 : isWB Q5 34 = true
      rotate_left
      · rw [nwK, if_neg w34] at hK
        rw [if_neg w34]
        exact hK Q5 _
      rw [nwK, if_pos w34] at hK
      rw [if_pos w34]
      refine ⟨_, _, _, _, _, _, _, _, _, _, _, _, _, _, _, nxF tx n Q5, _, _, _, _, _, (upd R.1 R.2.2.2.2.2.2.2 a, upd R.2.1 R.2.2.2.2.2.2.2 b, upd R.2.2.1 R.2.2.2.2.2.2.2 dy, R.2.2.2.1, R.2.2.2.2.1, R.2.2.2.2.2.1, R.2.2.2.2.2.2.1, R.2.2.2.2.2.2.2), _, _, 0, 999, rfl, rfl, hn, hQ6, (by first | exact Or.inl rfl | exact Or.inr (Or.inl rfl) | exact Or.inr (Or.inr rfl)), ?_⟩
      rcases ht2 : whF tx n (nxF tx n Q5) 0 999 with e | ⟨co, Q7⟩
      · rw [ht2] at hK
        exact hK (nxF tx n Q5) (upd R.1 R.2.2.2.2.2.2.2 a, upd R.2.1 R.2.2.2.2.2.2.2 b, upd R.2.2.1 R.2.2.2.2.2.2.2 dy, R.2.2.2.1, R.2.2.2.2.1, R.2.2.2.2.2.1, R.2.2.2.2.2.2.1, R.2.2.2.2.2.2.2)
      rw [ht2] at hK
      refine ⟨hvr, ?_⟩
      rw [hcr]
      exact loop 3 0 (upd R.1 R.2.2.2.2.2.2.2 a, upd R.2.1 R.2.2.2.2.2.2.2 b, upd R.2.2.1 R.2.2.2.2.2.2.2 dy, upd R.2.2.2.1 R.2.2.2.2.2.2.2 co, R.2.2.2.2.1, R.2.2.2.2.2.1, R.2.2.2.2.2.2.1, R.2.2.2.2.2.2.2) Q7 (by omega) (by rw [whF_Q ht2]; exact nxF_le hQ6) rfl (hR0 hlt) hK
    refine ⟨_, _, _, _, _, _, _, _, _, _, _, _, _, _, _, _, _, _, rfl, rfl, hn, hQ, (by first | exact Or.inl rfl | exact Or.inr rfl), _, _, _, _, _, _, _, _, _, _, _, _, _, _, _, nxF tx n Q, _, _, _, _, _, _, _, _, 0, rfl, rfl, hn, hQ1, (by first | exact Or.inl rfl | exact Or.inr (Or.inl rfl) | exact Or.inr (Or.inr rfl)), hB, ?_⟩
    rcases ht : tdF tx n B (nxF tx n Q) 0 with e | ⟨a, Q2⟩
    · rw [ht] at hK
      exact hK (nxF tx n Q) R
    rw [ht] at hK
    have hQ2 : Q2.1 ≤ n := by rw [tdF_Q ht]; exact nxF_le hQ1
    refine ⟨hvr, ?_⟩
    rw [hcr]
    refine ⟨_, _, _, _, _, _, _, _, _, _, _, _, _, _, _, Q2, _, _, _, _, _, (upd R.1 R.2.2.2.2.2.2.2 a, R.2.1, R.2.2.1, R.2.2.2.1, R.2.2.2.2.1, R.2.2.2.2.2.1, R.2.2.2.2.2.2.1, R.2.2.2.2.2.2.2), _, _, 0, rfl, rfl, hn, hQ2, (by first | exact Or.inl rfl | exact Or.inr (Or.inl rfl) | exact Or.inr (Or.inr rfl)), hB, ?_⟩
    have hK : tdK (tdF tx n B Q2 0) Q2 (fun b Q3 => if a = b then (fun e p => ∀ Q' R', K (.inr (.ref 2)) (modelZ th tr wh fa ta td pn mk mo sn bo jn qn cn n (Q') (.null) tx (e) (nI p) B (R') L G)) 3 Q2.2.2.1 else mRoad2 tx n B R a b Q3 (fun Q' R' => K (.inl none) (modelZ th tr wh fa ta td pn mk mo sn bo jn qn cn n (Q') (.null) tx sk sp B (R') L G)) (fun e p => ∀ Q' R', K (.inr (.ref 2)) (modelZ th tr wh fa ta td pn mk mo sn bo jn qn cn n (Q') (.null) tx (e) (nI p) B (R') L G))) (fun e p => ∀ Q' R', K (.inr (.ref 2)) (modelZ th tr wh fa ta td pn mk mo sn bo jn qn cn n (Q') (.null) tx (e) (nI p) B (R') L G)) := hK
    rcases ht2 : tdF tx n B Q2 0 with e | ⟨b, Q3⟩
    · rw [ht2] at hK
      exact hK Q2 (upd R.1 R.2.2.2.2.2.2.2 a, R.2.1, R.2.2.1, R.2.2.2.1, R.2.2.2.2.1, R.2.2.2.2.2.1, R.2.2.2.2.2.2.1, R.2.2.2.2.2.2.2)
    rw [ht2] at hK
    have hQ3 : Q3.1 ≤ n := by rw [tdF_Q ht2]; exact nxF_le hQ2
    have hK : if a = b then (fun e p => ∀ Q' R', K (.inr (.ref 2)) (modelZ th tr wh fa ta td pn mk mo sn bo jn qn cn n (Q') (.null) tx (e) (nI p) B (R') L G)) 3 Q2.2.2.1 else mRoad2 tx n B R a b Q3 (fun Q' R' => K (.inl none) (modelZ th tr wh fa ta td pn mk mo sn bo jn qn cn n (Q') (.null) tx sk sp B (R') L G)) (fun e p => ∀ Q' R', K (.inr (.ref 2)) (modelZ th tr wh fa ta td pn mk mo sn bo jn qn cn n (Q') (.null) tx (e) (nI p) B (R') L G)) := hK
    refine ⟨hvr, hvr, hvr, ?_⟩
    rw [hcr]
    refine And.intro (fun c2 => ?_) (fun c2 => ?_)
    · have c2 : ¬ upd R.1 R.2.2.2.2.2.2.2 a R.2.2.2.2.2.2.2 = upd R.2.1 R.2.2.2.2.2.2.2 b R.2.2.2.2.2.2.2 := c2
      rw [upd_eq, upd_eq] at c2
      rw [if_neg c2] at hK
      exact c95 a b Q3 hQ3 hK
    · have c2 : upd R.1 R.2.2.2.2.2.2.2 a R.2.2.2.2.2.2.2 = upd R.2.1 R.2.2.2.2.2.2.2 b R.2.2.2.2.2.2.2 := c2
      rw [upd_eq, upd_eq] at c2
      rw [if_pos c2] at hK
      exact ⟨_, _, _, _, _, _, _, _, _, _, _, _, _, _, _, (Q3.1, Q3.2.1, Q2.2.2.1, Q3.2.2.2), _, _, _, _, _, rfl, rfl, hK (Q3.1, Q3.2.1, Q2.2.2.1, Q3.2.2.2) (upd R.1 R.2.2.2.2.2.2.2 a, upd R.2.1 R.2.2.2.2.2.2.2 b, R.2.2.1, R.2.2.2.1, R.2.2.2.2.1, R.2.2.2.2.2.1, R.2.2.2.2.2.2.1, R.2.2.2.2.2.2.2)⟩
  · refine ⟨Nat.le_of_ble_eq_true rfl, fun C hC => hC _ _ _ _ _ _ ?_⟩
    refine And.intro (fun c => ?_) (fun c => ?_)
    rotate_left
    · have e : R.2.2.2.2.2.2.2 = 16 := by
        rcases Nat.decEq R.2.2.2.2.2.2.2 16 with z | z
        · exact absurd (show nI R.2.2.2.2.2.2.2 = nI 16 from c) (nI_ne z (by omega) (by omega))
        · exact z
      rw [mRoadK, if_pos e] at hK
      exact ⟨_, _, _, _, _, _, _, _, _, _, _, _, _, _, _, _, _, _, _, _, _, rfl, rfl, hK Q R⟩
    have hlt : R.2.2.2.2.2.2.2 < 16 := by
      rcases Nat.lt_or_ge R.2.2.2.2.2.2.2 16 with z | z
      · exact z
      · exact absurd (show nI R.2.2.2.2.2.2.2 = nI 16 by rw [Nat.le_antisymm hR z]) c
    rw [mRoadK, if_neg (by omega)] at hK
    have hvr : vp_in (nI R.2.2.2.2.2.2.2) 16 := vp_in_nI hlt (by omega)
    have hcr : (nI R.2.2.2.2.2.2.2).toNatClampNeg = R.2.2.2.2.2.2.2 := nI_clamp (by omega)
    have step : ∀ j (Rj : RT) (Q : QT), j ≤ 3 → Q.1 ≤ n → Rj.2.2.2.2.2.2.2 = R.2.2.2.2.2.2.2 → Rj.2.2.2.2.1 R.2.2.2.2.2.2.2 = nI j → (isWB Q 30 = true → j = 3 → (fun e p => ∀ Q' R', K (.inr (.ref 2)) (modelZ th tr wh fa ta td pn mk mo sn bo jn qn cn n (Q') (tk 0 4) tx (e) (nI p) B (R') L G)) 5 Q.2.2.1) → (isWB Q 30 = false → K (.inl none) (modelZ th tr wh fa ta td pn mk mo sn bo jn qn cn n (Q) (tk 0 4) tx sk sp B (rUp Rj) L G)) → (isWB Q 30 = true → j < 3 → tdK (tdF tx n B (nxF tx n Q) 3) (nxF tx n Q) (fun kd Q2 => nwK tx n Q2 35 (fun Q3 => tdK (tdF tx n B Q3 1) Q3 (fun ld Q4 => Q4.1 ≤ n → C 142 [(0, .ref 0), (1, .int (nI R.2.2.2.2.2.2.2))] [] (modelZ th tr wh fa ta td pn mk mo sn bo jn qn cn n (Q4) (tk 0 4) tx sk sp B (roadPost Rj R.2.2.2.2.2.2.2 kd ld) L G) 0 0) (fun e p => ∀ Q' R', K (.inr (.ref 2)) (modelZ th tr wh fa ta td pn mk mo sn bo jn qn cn n (Q') (tk 0 4) tx (e) (nI p) B (R') L G))) (fun e p => ∀ Q' R', K (.inr (.ref 2)) (modelZ th tr wh fa ta td pn mk mo sn bo jn qn cn n (Q') (tk 0 4) tx (e) (nI p) B (R') L G))) (fun e p => ∀ Q' R', K (.inr (.ref 2)) (modelZ th tr wh fa ta td pn mk mo sn bo jn qn cn n (Q') (tk 0 4) tx (e) (nI p) B (R') L G))) → C 142 [(0, .ref 0), (1, .int (nI R.2.2.2.2.2.2.2))] [] (modelZ th tr wh fa ta td pn mk mo sn bo jn qn cn n (Q) (tk 0 4) tx sk sp B (Rj) L G) 0 0 := by
      intro j Rj Q hj hQ hRn hRp h5 hend hgo
      have hQ1 : (nxF tx n Q).1 ≤ n := nxF_le hQ
      refine hC _ _ _ _ _ _ ⟨by decide, _, _, _, _, _, _, _, _, _, _, _, _, _, _, _, Q, _, 30, rfl, rfl, by decide, And.intro (fun c => ?_) (fun c => ⟨hvr, And.intro (fun c2 => ?_) (fun c2 => ?_)⟩)⟩
      · have hK := hend (bI_0.mp c)
        unfold rUp at hK
        show K (.inl none) _
        rw [nI_1]
        exact hK
      · have c2 : ¬ Rj.2.2.2.2.1 (nI R.2.2.2.2.2.2.2).toNatClampNeg = 3 := c2
        rw [hcr, hRp] at c2
        have hj3 : j < 3 := by
          rcases Nat.lt_or_ge j 3 with z | z
          · exact z
          · exact absurd (show nI j = nI 3 by rw [Nat.le_antisymm hj z]) c2
        have hK := hgo (bI_n0.mp c) hj3
        have hrp : rpN Rj R.2.2.2.2.2.2.2 = j := by rw [rpN, hRp]; exact nI_clamp (by omega)
        have e : 3 * nI R.2.2.2.2.2.2.2 + Rj.2.2.2.2.1 (nI R.2.2.2.2.2.2.2).toNatClampNeg = nI (R.2.2.2.2.2.2.2 * 3 + j) := by rw [nI_3m, hcr, hRp, nI_add]
        have hvi : vp_in (nI (R.2.2.2.2.2.2.2 * 3 + j)) 48 := vp_in_nI (by omega) (by omega)
        have hci : (nI (R.2.2.2.2.2.2.2 * 3 + j)).toNatClampNeg = R.2.2.2.2.2.2.2 * 3 + j := nI_clamp (by omega)
        refine ⟨_, _, _, _, _, _, _, _, _, _, _, _, _, _, _, Q, _, _, rfl, rfl, hn, hQ, (by first | exact Or.inl rfl | exact Or.inr rfl), hvr, _, _, _, _, _, _, _, _, _, _, _, _, _, _, _, nxF tx n Q, _, _, _, _, _, Rj, _, _, 3, rfl, rfl, hn, hQ1, (by first | exact Or.inl rfl | exact Or.inr (Or.inl rfl) | exact Or.inr (Or.inr rfl)), hB, ?_⟩
        rcases ht : tdF tx n B (nxF tx n Q) 3 with e9 | ⟨kd, Q2⟩
        · rw [ht] at hK
          exact hK (nxF tx n Q) Rj
        rw [ht] at hK
        have hQ2 : Q2.1 ≤ n := by rw [tdF_Q ht]; exact nxF_le hQ1
        have hQ3 : (nxF tx n Q2).1 ≤ n := nxF_le hQ2
        refine ⟨by rw [e]; exact hvi, ?_⟩
        rw [e, hci]
        refine ⟨by decide, _, _, _, _, _, _, _, _, _, _, _, _, _, _, _, Q2, _, _, _, _, _, (Rj.1, Rj.2.1, Rj.2.2.1, Rj.2.2.2.1, Rj.2.2.2.2.1, upd Rj.2.2.2.2.2.1 (R.2.2.2.2.2.2.2 * 3 + j) kd, Rj.2.2.2.2.2.2.1, Rj.2.2.2.2.2.2.2), _, _, 35, rfl, rfl, by decide, hn, hQ2, (by first | exact Or.inl rfl | exact Or.inr (Or.inl rfl) | exact Or.inr (Or.inr rfl)), ?_⟩
        rw [tdK_r] at hK
        by_cases w35 : isWB Q2 35 = true
        rotate_left
        · rw [nwK, if_neg w35] at hK
          rw [if_neg w35]
          exact hK Q2 _
        rw [nwK, if_pos w35] at hK
        rw [if_pos w35]
        refine ⟨_, _, _, _, _, _, _, _, _, _, _, _, _, _, _, nxF tx n Q2, _, _, _, _, _, (Rj.1, Rj.2.1, Rj.2.2.1, Rj.2.2.2.1, Rj.2.2.2.2.1, upd Rj.2.2.2.2.2.1 (R.2.2.2.2.2.2.2 * 3 + j) kd, Rj.2.2.2.2.2.2.1, Rj.2.2.2.2.2.2.2), _, _, 1, rfl, rfl, hn, hQ3, (by first | exact Or.inl rfl | exact Or.inr (Or.inl rfl) | exact Or.inr (Or.inr rfl)), hB, ?_⟩
        rcases ht2 : tdF tx n B (nxF tx n Q2) 1 with e9 | ⟨ld, Q4⟩
        · rw [ht2] at hK
          exact hK (nxF tx n Q2) (Rj.1, Rj.2.1, Rj.2.2.1, Rj.2.2.2.1, Rj.2.2.2.2.1, upd Rj.2.2.2.2.2.1 (R.2.2.2.2.2.2.2 * 3 + j) kd, Rj.2.2.2.2.2.2.1, Rj.2.2.2.2.2.2.2)
        rw [ht2, tdK_r] at hK
        have h9 := hK (by rw [tdF_Q ht2]; exact nxF_le hQ3)
        unfold roadPost at h9
        rw [hrp] at h9
        refine ⟨hvi, hvr, hvr, ?_⟩
        rw [hci, hcr, hRp, nI_1]
        exact h9
      · have c2 : Rj.2.2.2.2.1 (nI R.2.2.2.2.2.2.2).toNatClampNeg = 3 := c2
        rw [hcr, hRp] at c2
        have hj3 : j = 3 := by
          rcases Nat.decEq j 3 with z | z
          · exact absurd (show nI j = nI 3 from c2) (nI_ne z (by omega) (by omega))
          · exact z
        exact ⟨_, _, _, _, _, _, _, _, _, _, _, _, _, _, _, Q, _, _, _, _, _, rfl, rfl, h5 (bI_n0.mp c) hj3 Q Rj⟩
  
    have loop : ∀ f j (Rj : RT) (Q : QT), j + f = 3 → Q.1 ≤ n → Rj.2.2.2.2.2.2.2 = R.2.2.2.2.2.2.2 → Rj.2.2.2.2.1 R.2.2.2.2.2.2.2 = nI j → mPostsK tx n B R.2.2.2.2.2.2.2 (fun Q' R' => K (.inl none) (modelZ th tr wh fa ta td pn mk mo sn bo jn qn cn n (Q') (tk 0 4) tx sk sp B (R') L G)) (fun e p => ∀ Q' R', K (.inr (.ref 2)) (modelZ th tr wh fa ta td pn mk mo sn bo jn qn cn n (Q') (tk 0 4) tx (e) (nI p) B (R') L G)) f Rj Q → C 142 [(0, .ref 0), (1, .int (nI R.2.2.2.2.2.2.2))] [] (modelZ th tr wh fa ta td pn mk mo sn bo jn qn cn n (Q) (tk 0 4) tx sk sp B (Rj) L G) 0 0 := by
      intro f
      induction f with
      | zero =>
        intro j Rj Q hj hQ hRn hRp hK
        rw [mPostsK] at hK
        exact step j Rj Q (by omega) hQ hRn hRp (fun h _ => by rw [if_pos h] at hK; exact hK) (fun h => by rw [if_neg (by rw [h]; decide)] at hK; exact hK) (fun _ h => absurd h (by omega))
      | succ f ih =>
        intro j Rj Q hj hQ hRn hRp hK
        rw [mPostsK] at hK
        refine step j Rj Q (by omega) hQ hRn hRp (fun _ h => absurd h (by omega)) (fun h => by rw [if_neg (by rw [h]; decide)] at hK; exact hK) (fun h _ => ?_)
        rw [if_pos h] at hK
        have hrp : rpN Rj R.2.2.2.2.2.2.2 = j := by rw [rpN, hRp]; exact nI_clamp (by omega)
        rcases ht : tdF tx n B (nxF tx n Q) 3 with e9 | ⟨kd, Q2⟩
        · rw [ht, tdK_l] at hK; exact hK
        rw [ht, tdK_r] at hK
        rw [tdK_r]
        by_cases w35 : isWB Q2 35 = true
        rotate_left
        · rw [nwK, if_neg w35] at hK ⊢
          exact hK
        rw [nwK, if_pos w35] at hK ⊢
        rcases ht2 : tdF tx n B (nxF tx n Q2) 1 with e9 | ⟨ld, Q4⟩
        · rw [ht2, tdK_l] at hK; exact hK
        rw [ht2, tdK_r] at hK
        rw [tdK_r]
        intro hQ4
        exact ih (j + 1) (roadPost Rj R.2.2.2.2.2.2.2 kd ld) Q4 (by omega) hQ4 hRn (by show upd Rj.2.2.2.2.1 R.2.2.2.2.2.2.2 (nI (rpN Rj R.2.2.2.2.2.2.2 + 1)) R.2.2.2.2.2.2.2 = _; rw [upd_eq, hrp]) hK
    have c95 : ∀ (a b : Int32) (Q3 : QT), Q3.1 ≤ n → mRoad2 tx n B R a b Q3 (fun Q' R' => K (.inl none) (modelZ th tr wh fa ta td pn mk mo sn bo jn qn cn n (Q') (tk 0 4) tx sk sp B (R') L G)) (fun e p => ∀ Q' R', K (.inr (.ref 2)) (modelZ th tr wh fa ta td pn mk mo sn bo jn qn cn n (Q') (tk 0 4) tx (e) (nI p) B (R') L G)) → C 95 [(0, .ref 0), (1, .int (nI R.2.2.2.2.2.2.2))] [] (modelZ th tr wh fa ta td pn mk mo sn bo jn qn cn n (Q3) (tk 0 4) tx sk sp B ((upd R.1 R.2.2.2.2.2.2.2 a, upd R.2.1 R.2.2.2.2.2.2.2 b, R.2.2.1, R.2.2.2.1, R.2.2.2.2.1, R.2.2.2.2.2.1, R.2.2.2.2.2.2.1, R.2.2.2.2.2.2.2)) L G) 0 0 := by
      intro a b Q3 hQ3 hK
      have hQ4 : (nxF tx n Q3).1 ≤ n := nxF_le hQ3
      rw [mRoad2] at hK
      refine hC _ _ _ _ _ _ ⟨by decide, _, _, _, _, _, _, _, _, _, _, _, _, _, _, _, Q3, _, _, _, _, _, (upd R.1 R.2.2.2.2.2.2.2 a, upd R.2.1 R.2.2.2.2.2.2.2 b, R.2.2.1, R.2.2.2.1, R.2.2.2.2.1, R.2.2.2.2.2.1, R.2.2.2.2.2.2.1, R.2.2.2.2.2.2.2), _, _, 33, rfl, rfl, by decide, hn, hQ3, (by first | exact Or.inl rfl | exact Or.inr (Or.inl rfl) | exact Or.inr (Or.inr rfl)), ?_⟩
      by_cases w33 : isWB Q3 33 = true
      rotate_left
      · rw [nwK, if_neg w33] at hK
        rw [if_neg w33]
        exact hK Q3 _
      rw [nwK, if_pos w33] at hK
      rw [if_pos w33]
      refine ⟨_, _, _, _, _, _, _, _, _, _, _, _, _, _, _, nxF tx n Q3, _, _, _, _, _, (upd R.1 R.2.2.2.2.2.2.2 a, upd R.2.1 R.2.2.2.2.2.2.2 b, R.2.2.1, R.2.2.2.1, R.2.2.2.2.1, R.2.2.2.2.2.1, R.2.2.2.2.2.2.1, R.2.2.2.2.2.2.2), _, _, 1, 60, rfl, rfl, hn, hQ4, (by first | exact Or.inl rfl | exact Or.inr (Or.inl rfl) | exact Or.inr (Or.inr rfl)), ?_⟩
      rcases ht : whF tx n (nxF tx n Q3) 1 60 with e | ⟨dy, Q5⟩
      · rw [ht] at hK
        exact hK (nxF tx n Q3) (upd R.1 R.2.2.2.2.2.2.2 a, upd R.2.1 R.2.2.2.2.2.2.2 b, R.2.2.1, R.2.2.2.1, R.2.2.2.2.1, R.2.2.2.2.2.1, R.2.2.2.2.2.2.1, R.2.2.2.2.2.2.2)
      rw [ht, tdK_r] at hK
      have hQ5 : Q5.1 ≤ n := by rw [whF_Q ht]; exact nxF_le hQ4
      have hQ6 : (nxF tx n Q5).1 ≤ n := nxF_le hQ5
      refine ⟨hvr, ?_⟩
      rw [hcr]
      refine ⟨by decide, _, _, _, _, _, _, _, _, _, _, _, _, _, _, _, Q5, _, _, _, _, _, (upd R.1 R.2.2.2.2.2.2.2 a, upd R.2.1 R.2.2.2.2.2.2.2 b, upd R.2.2.1 R.2.2.2.2.2.2.2 dy, R.2.2.2.1, R.2.2.2.2.1, R.2.2.2.2.2.1, R.2.2.2.2.2.2.1, R.2.2.2.2.2.2.2), _, _, 34, rfl, rfl, by decide, hn, hQ5, (by first | exact Or.inl rfl | exact Or.inr (Or.inl rfl) | exact Or.inr (Or.inr rfl)), ?_⟩
      by_cases w34 : isWB Q5 34 = true
      rotate_left
      · rw [nwK, if_neg w34] at hK
        rw [if_neg w34]
        exact hK Q5 _
      rw [nwK, if_pos w34] at hK
      rw [if_pos w34]
      refine ⟨_, _, _, _, _, _, _, _, _, _, _, _, _, _, _, nxF tx n Q5, _, _, _, _, _, (upd R.1 R.2.2.2.2.2.2.2 a, upd R.2.1 R.2.2.2.2.2.2.2 b, upd R.2.2.1 R.2.2.2.2.2.2.2 dy, R.2.2.2.1, R.2.2.2.2.1, R.2.2.2.2.2.1, R.2.2.2.2.2.2.1, R.2.2.2.2.2.2.2), _, _, 0, 999, rfl, rfl, hn, hQ6, (by first | exact Or.inl rfl | exact Or.inr (Or.inl rfl) | exact Or.inr (Or.inr rfl)), ?_⟩
      rcases ht2 : whF tx n (nxF tx n Q5) 0 999 with e | ⟨co, Q7⟩
      · rw [ht2] at hK
        exact hK (nxF tx n Q5) (upd R.1 R.2.2.2.2.2.2.2 a, upd R.2.1 R.2.2.2.2.2.2.2 b, upd R.2.2.1 R.2.2.2.2.2.2.2 dy, R.2.2.2.1, R.2.2.2.2.1, R.2.2.2.2.2.1, R.2.2.2.2.2.2.1, R.2.2.2.2.2.2.2)
      rw [ht2] at hK
      refine ⟨hvr, ?_⟩
      rw [hcr]
      exact loop 3 0 (upd R.1 R.2.2.2.2.2.2.2 a, upd R.2.1 R.2.2.2.2.2.2.2 b, upd R.2.2.1 R.2.2.2.2.2.2.2 dy, upd R.2.2.2.1 R.2.2.2.2.2.2.2 co, R.2.2.2.2.1, R.2.2.2.2.2.1, R.2.2.2.2.2.2.1, R.2.2.2.2.2.2.2) Q7 (by omega) (by rw [whF_Q ht2]; exact nxF_le hQ6) rfl (hR0 hlt) hK
    refine ⟨_, _, _, _, _, _, _, _, _, _, _, _, _, _, _, _, _, _, rfl, rfl, hn, hQ, (by first | exact Or.inl rfl | exact Or.inr rfl), _, _, _, _, _, _, _, _, _, _, _, _, _, _, _, nxF tx n Q, _, _, _, _, _, _, _, _, 0, rfl, rfl, hn, hQ1, (by first | exact Or.inl rfl | exact Or.inr (Or.inl rfl) | exact Or.inr (Or.inr rfl)), hB, ?_⟩
    rcases ht : tdF tx n B (nxF tx n Q) 0 with e | ⟨a, Q2⟩
    · rw [ht] at hK
      exact hK (nxF tx n Q) R
    rw [ht] at hK
    have hQ2 : Q2.1 ≤ n := by rw [tdF_Q ht]; exact nxF_le hQ1
    refine ⟨hvr, ?_⟩
    rw [hcr]
    refine ⟨_, _, _, _, _, _, _, _, _, _, _, _, _, _, _, Q2, _, _, _, _, _, (upd R.1 R.2.2.2.2.2.2.2 a, R.2.1, R.2.2.1, R.2.2.2.1, R.2.2.2.2.1, R.2.2.2.2.2.1, R.2.2.2.2.2.2.1, R.2.2.2.2.2.2.2), _, _, 0, rfl, rfl, hn, hQ2, (by first | exact Or.inl rfl | exact Or.inr (Or.inl rfl) | exact Or.inr (Or.inr rfl)), hB, ?_⟩
    have hK : tdK (tdF tx n B Q2 0) Q2 (fun b Q3 => if a = b then (fun e p => ∀ Q' R', K (.inr (.ref 2)) (modelZ th tr wh fa ta td pn mk mo sn bo jn qn cn n (Q') (tk 0 4) tx (e) (nI p) B (R') L G)) 3 Q2.2.2.1 else mRoad2 tx n B R a b Q3 (fun Q' R' => K (.inl none) (modelZ th tr wh fa ta td pn mk mo sn bo jn qn cn n (Q') (tk 0 4) tx sk sp B (R') L G)) (fun e p => ∀ Q' R', K (.inr (.ref 2)) (modelZ th tr wh fa ta td pn mk mo sn bo jn qn cn n (Q') (tk 0 4) tx (e) (nI p) B (R') L G))) (fun e p => ∀ Q' R', K (.inr (.ref 2)) (modelZ th tr wh fa ta td pn mk mo sn bo jn qn cn n (Q') (tk 0 4) tx (e) (nI p) B (R') L G)) := hK
    rcases ht2 : tdF tx n B Q2 0 with e | ⟨b, Q3⟩
    · rw [ht2] at hK
      exact hK Q2 (upd R.1 R.2.2.2.2.2.2.2 a, R.2.1, R.2.2.1, R.2.2.2.1, R.2.2.2.2.1, R.2.2.2.2.2.1, R.2.2.2.2.2.2.1, R.2.2.2.2.2.2.2)
    rw [ht2] at hK
    have hQ3 : Q3.1 ≤ n := by rw [tdF_Q ht2]; exact nxF_le hQ2
    have hK : if a = b then (fun e p => ∀ Q' R', K (.inr (.ref 2)) (modelZ th tr wh fa ta td pn mk mo sn bo jn qn cn n (Q') (tk 0 4) tx (e) (nI p) B (R') L G)) 3 Q2.2.2.1 else mRoad2 tx n B R a b Q3 (fun Q' R' => K (.inl none) (modelZ th tr wh fa ta td pn mk mo sn bo jn qn cn n (Q') (tk 0 4) tx sk sp B (R') L G)) (fun e p => ∀ Q' R', K (.inr (.ref 2)) (modelZ th tr wh fa ta td pn mk mo sn bo jn qn cn n (Q') (tk 0 4) tx (e) (nI p) B (R') L G)) := hK
    refine ⟨hvr, hvr, hvr, ?_⟩
    rw [hcr]
    refine And.intro (fun c2 => ?_) (fun c2 => ?_)
    · have c2 : ¬ upd R.1 R.2.2.2.2.2.2.2 a R.2.2.2.2.2.2.2 = upd R.2.1 R.2.2.2.2.2.2.2 b R.2.2.2.2.2.2.2 := c2
      rw [upd_eq, upd_eq] at c2
      rw [if_neg c2] at hK
      exact c95 a b Q3 hQ3 hK
    · have c2 : upd R.1 R.2.2.2.2.2.2.2 a R.2.2.2.2.2.2.2 = upd R.2.1 R.2.2.2.2.2.2.2 b R.2.2.2.2.2.2.2 := c2
      rw [upd_eq, upd_eq] at c2
      rw [if_pos c2] at hK
      exact ⟨_, _, _, _, _, _, _, _, _, _, _, _, _, _, _, (Q3.1, Q3.2.1, Q2.2.2.1, Q3.2.2.2), _, _, _, _, _, rfl, rfl, hK (Q3.1, Q3.2.1, Q2.2.2.1, Q3.2.2.2) (upd R.1 R.2.2.2.2.2.2.2 a, upd R.2.1 R.2.2.2.2.2.2.2 b, R.2.2.1, R.2.2.2.1, R.2.2.2.2.1, R.2.2.2.2.2.1, R.2.2.2.2.2.2.1, R.2.2.2.2.2.2.2)⟩
  · refine ⟨Nat.le_of_ble_eq_true rfl, fun C hC => hC _ _ _ _ _ _ ?_⟩
    refine And.intro (fun c => ?_) (fun c => ?_)
    rotate_left
    · have e : R.2.2.2.2.2.2.2 = 16 := by
        rcases Nat.decEq R.2.2.2.2.2.2.2 16 with z | z
        · exact absurd (show nI R.2.2.2.2.2.2.2 = nI 16 from c) (nI_ne z (by omega) (by omega))
        · exact z
      rw [mRoadK, if_pos e] at hK
      exact ⟨_, _, _, _, _, _, _, _, _, _, _, _, _, _, _, _, _, _, _, _, _, rfl, rfl, hK Q R⟩
    have hlt : R.2.2.2.2.2.2.2 < 16 := by
      rcases Nat.lt_or_ge R.2.2.2.2.2.2.2 16 with z | z
      · exact z
      · exact absurd (show nI R.2.2.2.2.2.2.2 = nI 16 by rw [Nat.le_antisymm hR z]) c
    rw [mRoadK, if_neg (by omega)] at hK
    have hvr : vp_in (nI R.2.2.2.2.2.2.2) 16 := vp_in_nI hlt (by omega)
    have hcr : (nI R.2.2.2.2.2.2.2).toNatClampNeg = R.2.2.2.2.2.2.2 := nI_clamp (by omega)
    have step : ∀ j (Rj : RT) (Q : QT), j ≤ 3 → Q.1 ≤ n → Rj.2.2.2.2.2.2.2 = R.2.2.2.2.2.2.2 → Rj.2.2.2.2.1 R.2.2.2.2.2.2.2 = nI j → (isWB Q 30 = true → j = 3 → (fun e p => ∀ Q' R', K (.inr (.ref 2)) (modelZ th tr wh fa ta td pn mk mo sn bo jn qn cn n (Q') (.ref 3) tx (e) (nI p) B (R') L G)) 5 Q.2.2.1) → (isWB Q 30 = false → K (.inl none) (modelZ th tr wh fa ta td pn mk mo sn bo jn qn cn n (Q) (.ref 3) tx sk sp B (rUp Rj) L G)) → (isWB Q 30 = true → j < 3 → tdK (tdF tx n B (nxF tx n Q) 3) (nxF tx n Q) (fun kd Q2 => nwK tx n Q2 35 (fun Q3 => tdK (tdF tx n B Q3 1) Q3 (fun ld Q4 => Q4.1 ≤ n → C 142 [(0, .ref 0), (1, .int (nI R.2.2.2.2.2.2.2))] [] (modelZ th tr wh fa ta td pn mk mo sn bo jn qn cn n (Q4) (.ref 3) tx sk sp B (roadPost Rj R.2.2.2.2.2.2.2 kd ld) L G) 0 0) (fun e p => ∀ Q' R', K (.inr (.ref 2)) (modelZ th tr wh fa ta td pn mk mo sn bo jn qn cn n (Q') (.ref 3) tx (e) (nI p) B (R') L G))) (fun e p => ∀ Q' R', K (.inr (.ref 2)) (modelZ th tr wh fa ta td pn mk mo sn bo jn qn cn n (Q') (.ref 3) tx (e) (nI p) B (R') L G))) (fun e p => ∀ Q' R', K (.inr (.ref 2)) (modelZ th tr wh fa ta td pn mk mo sn bo jn qn cn n (Q') (.ref 3) tx (e) (nI p) B (R') L G))) → C 142 [(0, .ref 0), (1, .int (nI R.2.2.2.2.2.2.2))] [] (modelZ th tr wh fa ta td pn mk mo sn bo jn qn cn n (Q) (.ref 3) tx sk sp B (Rj) L G) 0 0 := by
      intro j Rj Q hj hQ hRn hRp h5 hend hgo
      have hQ1 : (nxF tx n Q).1 ≤ n := nxF_le hQ
      refine hC _ _ _ _ _ _ ⟨by decide, _, _, _, _, _, _, _, _, _, _, _, _, _, _, _, Q, _, 30, rfl, rfl, by decide, And.intro (fun c => ?_) (fun c => ⟨hvr, And.intro (fun c2 => ?_) (fun c2 => ?_)⟩)⟩
      · have hK := hend (bI_0.mp c)
        unfold rUp at hK
        show K (.inl none) _
        rw [nI_1]
        exact hK
      · have c2 : ¬ Rj.2.2.2.2.1 (nI R.2.2.2.2.2.2.2).toNatClampNeg = 3 := c2
        rw [hcr, hRp] at c2
        have hj3 : j < 3 := by
          rcases Nat.lt_or_ge j 3 with z | z
          · exact z
          · exact absurd (show nI j = nI 3 by rw [Nat.le_antisymm hj z]) c2
        have hK := hgo (bI_n0.mp c) hj3
        have hrp : rpN Rj R.2.2.2.2.2.2.2 = j := by rw [rpN, hRp]; exact nI_clamp (by omega)
        have e : 3 * nI R.2.2.2.2.2.2.2 + Rj.2.2.2.2.1 (nI R.2.2.2.2.2.2.2).toNatClampNeg = nI (R.2.2.2.2.2.2.2 * 3 + j) := by rw [nI_3m, hcr, hRp, nI_add]
        have hvi : vp_in (nI (R.2.2.2.2.2.2.2 * 3 + j)) 48 := vp_in_nI (by omega) (by omega)
        have hci : (nI (R.2.2.2.2.2.2.2 * 3 + j)).toNatClampNeg = R.2.2.2.2.2.2.2 * 3 + j := nI_clamp (by omega)
        refine ⟨_, _, _, _, _, _, _, _, _, _, _, _, _, _, _, Q, _, _, rfl, rfl, hn, hQ, (by first | exact Or.inl rfl | exact Or.inr rfl), hvr, _, _, _, _, _, _, _, _, _, _, _, _, _, _, _, nxF tx n Q, _, _, _, _, _, Rj, _, _, 3, rfl, rfl, hn, hQ1, (by first | exact Or.inl rfl | exact Or.inr (Or.inl rfl) | exact Or.inr (Or.inr rfl)), hB, ?_⟩
        rcases ht : tdF tx n B (nxF tx n Q) 3 with e9 | ⟨kd, Q2⟩
        · rw [ht] at hK
          exact hK (nxF tx n Q) Rj
        rw [ht] at hK
        have hQ2 : Q2.1 ≤ n := by rw [tdF_Q ht]; exact nxF_le hQ1
        have hQ3 : (nxF tx n Q2).1 ≤ n := nxF_le hQ2
        refine ⟨by rw [e]; exact hvi, ?_⟩
        rw [e, hci]
        refine ⟨by decide, _, _, _, _, _, _, _, _, _, _, _, _, _, _, _, Q2, _, _, _, _, _, (Rj.1, Rj.2.1, Rj.2.2.1, Rj.2.2.2.1, Rj.2.2.2.2.1, upd Rj.2.2.2.2.2.1 (R.2.2.2.2.2.2.2 * 3 + j) kd, Rj.2.2.2.2.2.2.1, Rj.2.2.2.2.2.2.2), _, _, 35, rfl, rfl, by decide, hn, hQ2, (by first | exact Or.inl rfl | exact Or.inr (Or.inl rfl) | exact Or.inr (Or.inr rfl)), ?_⟩
        rw [tdK_r] at hK
        by_cases w35 : isWB Q2 35 = true
        rotate_left
        · rw [nwK, if_neg w35] at hK
          rw [if_neg w35]
          exact hK Q2 _
        rw [nwK, if_pos w35] at hK
        rw [if_pos w35]
        refine ⟨_, _, _, _, _, _, _, _, _, _, _, _, _, _, _, nxF tx n Q2, _, _, _, _, _, (Rj.1, Rj.2.1, Rj.2.2.1, Rj.2.2.2.1, Rj.2.2.2.2.1, upd Rj.2.2.2.2.2.1 (R.2.2.2.2.2.2.2 * 3 + j) kd, Rj.2.2.2.2.2.2.1, Rj.2.2.2.2.2.2.2), _, _, 1, rfl, rfl, hn, hQ3, (by first | exact Or.inl rfl | exact Or.inr (Or.inl rfl) | exact Or.inr (Or.inr rfl)), hB, ?_⟩
        rcases ht2 : tdF tx n B (nxF tx n Q2) 1 with e9 | ⟨ld, Q4⟩
        · rw [ht2] at hK
          exact hK (nxF tx n Q2) (Rj.1, Rj.2.1, Rj.2.2.1, Rj.2.2.2.1, Rj.2.2.2.2.1, upd Rj.2.2.2.2.2.1 (R.2.2.2.2.2.2.2 * 3 + j) kd, Rj.2.2.2.2.2.2.1, Rj.2.2.2.2.2.2.2)
        rw [ht2, tdK_r] at hK
        have h9 := hK (by rw [tdF_Q ht2]; exact nxF_le hQ3)
        unfold roadPost at h9
        rw [hrp] at h9
        refine ⟨hvi, hvr, hvr, ?_⟩
        rw [hci, hcr, hRp, nI_1]
        exact h9
      · have c2 : Rj.2.2.2.2.1 (nI R.2.2.2.2.2.2.2).toNatClampNeg = 3 := c2
        rw [hcr, hRp] at c2
        have hj3 : j = 3 := by
          rcases Nat.decEq j 3 with z | z
          · exact absurd (show nI j = nI 3 from c2) (nI_ne z (by omega) (by omega))
          · exact z
        exact ⟨_, _, _, _, _, _, _, _, _, _, _, _, _, _, _, Q, _, _, _, _, _, rfl, rfl, h5 (bI_n0.mp c) hj3 Q Rj⟩
  
    have loop : ∀ f j (Rj : RT) (Q : QT), j + f = 3 → Q.1 ≤ n → Rj.2.2.2.2.2.2.2 = R.2.2.2.2.2.2.2 → Rj.2.2.2.2.1 R.2.2.2.2.2.2.2 = nI j → mPostsK tx n B R.2.2.2.2.2.2.2 (fun Q' R' => K (.inl none) (modelZ th tr wh fa ta td pn mk mo sn bo jn qn cn n (Q') (.ref 3) tx sk sp B (R') L G)) (fun e p => ∀ Q' R', K (.inr (.ref 2)) (modelZ th tr wh fa ta td pn mk mo sn bo jn qn cn n (Q') (.ref 3) tx (e) (nI p) B (R') L G)) f Rj Q → C 142 [(0, .ref 0), (1, .int (nI R.2.2.2.2.2.2.2))] [] (modelZ th tr wh fa ta td pn mk mo sn bo jn qn cn n (Q) (.ref 3) tx sk sp B (Rj) L G) 0 0 := by
      intro f
      induction f with
      | zero =>
        intro j Rj Q hj hQ hRn hRp hK
        rw [mPostsK] at hK
        exact step j Rj Q (by omega) hQ hRn hRp (fun h _ => by rw [if_pos h] at hK; exact hK) (fun h => by rw [if_neg (by rw [h]; decide)] at hK; exact hK) (fun _ h => absurd h (by omega))
      | succ f ih =>
        intro j Rj Q hj hQ hRn hRp hK
        rw [mPostsK] at hK
        refine step j Rj Q (by omega) hQ hRn hRp (fun _ h => absurd h (by omega)) (fun h => by rw [if_neg (by rw [h]; decide)] at hK; exact hK) (fun h _ => ?_)
        rw [if_pos h] at hK
        have hrp : rpN Rj R.2.2.2.2.2.2.2 = j := by rw [rpN, hRp]; exact nI_clamp (by omega)
        rcases ht : tdF tx n B (nxF tx n Q) 3 with e9 | ⟨kd, Q2⟩
        · rw [ht, tdK_l] at hK; exact hK
        rw [ht, tdK_r] at hK
        rw [tdK_r]
        by_cases w35 : isWB Q2 35 = true
        rotate_left
        · rw [nwK, if_neg w35] at hK ⊢
          exact hK
        rw [nwK, if_pos w35] at hK ⊢
        rcases ht2 : tdF tx n B (nxF tx n Q2) 1 with e9 | ⟨ld, Q4⟩
        · rw [ht2, tdK_l] at hK; exact hK
        rw [ht2, tdK_r] at hK
        rw [tdK_r]
        intro hQ4
        exact ih (j + 1) (roadPost Rj R.2.2.2.2.2.2.2 kd ld) Q4 (by omega) hQ4 hRn (by show upd Rj.2.2.2.2.1 R.2.2.2.2.2.2.2 (nI (rpN Rj R.2.2.2.2.2.2.2 + 1)) R.2.2.2.2.2.2.2 = _; rw [upd_eq, hrp]) hK
    have c95 : ∀ (a b : Int32) (Q3 : QT), Q3.1 ≤ n → mRoad2 tx n B R a b Q3 (fun Q' R' => K (.inl none) (modelZ th tr wh fa ta td pn mk mo sn bo jn qn cn n (Q') (.ref 3) tx sk sp B (R') L G)) (fun e p => ∀ Q' R', K (.inr (.ref 2)) (modelZ th tr wh fa ta td pn mk mo sn bo jn qn cn n (Q') (.ref 3) tx (e) (nI p) B (R') L G)) → C 95 [(0, .ref 0), (1, .int (nI R.2.2.2.2.2.2.2))] [] (modelZ th tr wh fa ta td pn mk mo sn bo jn qn cn n (Q3) (.ref 3) tx sk sp B ((upd R.1 R.2.2.2.2.2.2.2 a, upd R.2.1 R.2.2.2.2.2.2.2 b, R.2.2.1, R.2.2.2.1, R.2.2.2.2.1, R.2.2.2.2.2.1, R.2.2.2.2.2.2.1, R.2.2.2.2.2.2.2)) L G) 0 0 := by
      intro a b Q3 hQ3 hK
      have hQ4 : (nxF tx n Q3).1 ≤ n := nxF_le hQ3
      rw [mRoad2] at hK
      refine hC _ _ _ _ _ _ ⟨by decide, _, _, _, _, _, _, _, _, _, _, _, _, _, _, _, Q3, _, _, _, _, _, (upd R.1 R.2.2.2.2.2.2.2 a, upd R.2.1 R.2.2.2.2.2.2.2 b, R.2.2.1, R.2.2.2.1, R.2.2.2.2.1, R.2.2.2.2.2.1, R.2.2.2.2.2.2.1, R.2.2.2.2.2.2.2), _, _, 33, rfl, rfl, by decide, hn, hQ3, (by first | exact Or.inl rfl | exact Or.inr (Or.inl rfl) | exact Or.inr (Or.inr rfl)), ?_⟩
      by_cases w33 : isWB Q3 33 = true
      rotate_left
      · rw [nwK, if_neg w33] at hK
        rw [if_neg w33]
        exact hK Q3 _
      rw [nwK, if_pos w33] at hK
      rw [if_pos w33]
      refine ⟨_, _, _, _, _, _, _, _, _, _, _, _, _, _, _, nxF tx n Q3, _, _, _, _, _, (upd R.1 R.2.2.2.2.2.2.2 a, upd R.2.1 R.2.2.2.2.2.2.2 b, R.2.2.1, R.2.2.2.1, R.2.2.2.2.1, R.2.2.2.2.2.1, R.2.2.2.2.2.2.1, R.2.2.2.2.2.2.2), _, _, 1, 60, rfl, rfl, hn, hQ4, (by first | exact Or.inl rfl | exact Or.inr (Or.inl rfl) | exact Or.inr (Or.inr rfl)), ?_⟩
      rcases ht : whF tx n (nxF tx n Q3) 1 60 with e | ⟨dy, Q5⟩
      · rw [ht] at hK
        exact hK (nxF tx n Q3) (upd R.1 R.2.2.2.2.2.2.2 a, upd R.2.1 R.2.2.2.2.2.2.2 b, R.2.2.1, R.2.2.2.1, R.2.2.2.2.1, R.2.2.2.2.2.1, R.2.2.2.2.2.2.1, R.2.2.2.2.2.2.2)
      rw [ht, tdK_r] at hK
      have hQ5 : Q5.1 ≤ n := by rw [whF_Q ht]; exact nxF_le hQ4
      have hQ6 : (nxF tx n Q5).1 ≤ n := nxF_le hQ5
      refine ⟨hvr, ?_⟩
      rw [hcr]
      refine ⟨by decide, _, _, _, _, _, _, _, _, _, _, _, _, _, _, _, Q5, _, _, _, _, _, (upd R.1 R.2.2.2.2.2.2.2 a, upd R.2.1 R.2.2.2.2.2.2.2 b, upd R.2.2.1 R.2.2.2.2.2.2.2 dy, R.2.2.2.1, R.2.2.2.2.1, R.2.2.2.2.2.1, R.2.2.2.2.2.2.1, R.2.2.2.2.2.2.2), _, _, 34, rfl, rfl, by decide, hn, hQ5, (by first | exact Or.inl rfl | exact Or.inr (Or.inl rfl) | exact Or.inr (Or.inr rfl)), ?_⟩
      by_cases w34 : isWB Q5 34 = true
      rotate_left
      · rw [nwK, if_neg w34] at hK
        rw [if_neg w34]
        exact hK Q5 _
      rw [nwK, if_pos w34] at hK
      rw [if_pos w34]
      refine ⟨_, _, _, _, _, _, _, _, _, _, _, _, _, _, _, nxF tx n Q5, _, _, _, _, _, (upd R.1 R.2.2.2.2.2.2.2 a, upd R.2.1 R.2.2.2.2.2.2.2 b, upd R.2.2.1 R.2.2.2.2.2.2.2 dy, R.2.2.2.1, R.2.2.2.2.1, R.2.2.2.2.2.1, R.2.2.2.2.2.2.1, R.2.2.2.2.2.2.2), _, _, 0, 999, rfl, rfl, hn, hQ6, (by first | exact Or.inl rfl | exact Or.inr (Or.inl rfl) | exact Or.inr (Or.inr rfl)), ?_⟩
      rcases ht2 : whF tx n (nxF tx n Q5) 0 999 with e | ⟨co, Q7⟩
      · rw [ht2] at hK
        exact hK (nxF tx n Q5) (upd R.1 R.2.2.2.2.2.2.2 a, upd R.2.1 R.2.2.2.2.2.2.2 b, upd R.2.2.1 R.2.2.2.2.2.2.2 dy, R.2.2.2.1, R.2.2.2.2.1, R.2.2.2.2.2.1, R.2.2.2.2.2.2.1, R.2.2.2.2.2.2.2)
      rw [ht2] at hK
      refine ⟨hvr, ?_⟩
      rw [hcr]
      exact loop 3 0 (upd R.1 R.2.2.2.2.2.2.2 a, upd R.2.1 R.2.2.2.2.2.2.2 b, upd R.2.2.1 R.2.2.2.2.2.2.2 dy, upd R.2.2.2.1 R.2.2.2.2.2.2.2 co, R.2.2.2.2.1, R.2.2.2.2.2.1, R.2.2.2.2.2.2.1, R.2.2.2.2.2.2.2) Q7 (by omega) (by rw [whF_Q ht2]; exact nxF_le hQ6) rfl (hR0 hlt) hK
    refine ⟨_, _, _, _, _, _, _, _, _, _, _, _, _, _, _, _, _, _, rfl, rfl, hn, hQ, (by first | exact Or.inl rfl | exact Or.inr rfl), _, _, _, _, _, _, _, _, _, _, _, _, _, _, _, nxF tx n Q, _, _, _, _, _, _, _, _, 0, rfl, rfl, hn, hQ1, (by first | exact Or.inl rfl | exact Or.inr (Or.inl rfl) | exact Or.inr (Or.inr rfl)), hB, ?_⟩
    rcases ht : tdF tx n B (nxF tx n Q) 0 with e | ⟨a, Q2⟩
    · rw [ht] at hK
      exact hK (nxF tx n Q) R
    rw [ht] at hK
    have hQ2 : Q2.1 ≤ n := by rw [tdF_Q ht]; exact nxF_le hQ1
    refine ⟨hvr, ?_⟩
    rw [hcr]
    refine ⟨_, _, _, _, _, _, _, _, _, _, _, _, _, _, _, Q2, _, _, _, _, _, (upd R.1 R.2.2.2.2.2.2.2 a, R.2.1, R.2.2.1, R.2.2.2.1, R.2.2.2.2.1, R.2.2.2.2.2.1, R.2.2.2.2.2.2.1, R.2.2.2.2.2.2.2), _, _, 0, rfl, rfl, hn, hQ2, (by first | exact Or.inl rfl | exact Or.inr (Or.inl rfl) | exact Or.inr (Or.inr rfl)), hB, ?_⟩
    have hK : tdK (tdF tx n B Q2 0) Q2 (fun b Q3 => if a = b then (fun e p => ∀ Q' R', K (.inr (.ref 2)) (modelZ th tr wh fa ta td pn mk mo sn bo jn qn cn n (Q') (.ref 3) tx (e) (nI p) B (R') L G)) 3 Q2.2.2.1 else mRoad2 tx n B R a b Q3 (fun Q' R' => K (.inl none) (modelZ th tr wh fa ta td pn mk mo sn bo jn qn cn n (Q') (.ref 3) tx sk sp B (R') L G)) (fun e p => ∀ Q' R', K (.inr (.ref 2)) (modelZ th tr wh fa ta td pn mk mo sn bo jn qn cn n (Q') (.ref 3) tx (e) (nI p) B (R') L G))) (fun e p => ∀ Q' R', K (.inr (.ref 2)) (modelZ th tr wh fa ta td pn mk mo sn bo jn qn cn n (Q') (.ref 3) tx (e) (nI p) B (R') L G)) := hK
    rcases ht2 : tdF tx n B Q2 0 with e | ⟨b, Q3⟩
    · rw [ht2] at hK
      exact hK Q2 (upd R.1 R.2.2.2.2.2.2.2 a, R.2.1, R.2.2.1, R.2.2.2.1, R.2.2.2.2.1, R.2.2.2.2.2.1, R.2.2.2.2.2.2.1, R.2.2.2.2.2.2.2)
    rw [ht2] at hK
    have hQ3 : Q3.1 ≤ n := by rw [tdF_Q ht2]; exact nxF_le hQ2
    have hK : if a = b then (fun e p => ∀ Q' R', K (.inr (.ref 2)) (modelZ th tr wh fa ta td pn mk mo sn bo jn qn cn n (Q') (.ref 3) tx (e) (nI p) B (R') L G)) 3 Q2.2.2.1 else mRoad2 tx n B R a b Q3 (fun Q' R' => K (.inl none) (modelZ th tr wh fa ta td pn mk mo sn bo jn qn cn n (Q') (.ref 3) tx sk sp B (R') L G)) (fun e p => ∀ Q' R', K (.inr (.ref 2)) (modelZ th tr wh fa ta td pn mk mo sn bo jn qn cn n (Q') (.ref 3) tx (e) (nI p) B (R') L G)) := hK
    refine ⟨hvr, hvr, hvr, ?_⟩
    rw [hcr]
    refine And.intro (fun c2 => ?_) (fun c2 => ?_)
    · have c2 : ¬ upd R.1 R.2.2.2.2.2.2.2 a R.2.2.2.2.2.2.2 = upd R.2.1 R.2.2.2.2.2.2.2 b R.2.2.2.2.2.2.2 := c2
      rw [upd_eq, upd_eq] at c2
      rw [if_neg c2] at hK
      exact c95 a b Q3 hQ3 hK
    · have c2 : upd R.1 R.2.2.2.2.2.2.2 a R.2.2.2.2.2.2.2 = upd R.2.1 R.2.2.2.2.2.2.2 b R.2.2.2.2.2.2.2 := c2
      rw [upd_eq, upd_eq] at c2
      rw [if_pos c2] at hK
      exact ⟨_, _, _, _, _, _, _, _, _, _, _, _, _, _, _, (Q3.1, Q3.2.1, Q2.2.2.1, Q3.2.2.2), _, _, _, _, _, rfl, rfl, hK (Q3.1, Q3.2.1, Q2.2.2.1, Q3.2.2.2) (upd R.1 R.2.2.2.2.2.2.2 a, upd R.2.1 R.2.2.2.2.2.2.2 b, R.2.2.1, R.2.2.2.1, R.2.2.2.2.1, R.2.2.2.2.2.1, R.2.2.2.2.2.2.1, R.2.2.2.2.2.2.2)⟩
