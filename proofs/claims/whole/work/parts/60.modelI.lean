
def tX14_readLaw : List q_I := [(0, .aload_n 0, 1, 0, 0), (1, .getfield 215, 3, 0, 0), (4, .getfield 294, 3, 0, 0), (7, .bipush 24, 2, 24, 0), (9, .if_icmp .ne 9, 3, 0, 18), (12, .aload_n 0, 1, 0, 0), (13, .iconst 5, 1, 5, 0), (14, .invokevirtual 201, 3, 0, 0), (17, .athrow, 1, 0, 0), (18, .aload_n 0, 1, 0, 0), (19, .invokevirtual 204, 3, 0, 0), (22, .aload_n 0, 1, 0, 0), (23, .getfield 215, 3, 0, 0), (26, .getfield 294, 3, 0, 0), (29, .istore_n 2, 1, 0, 0), (30, .aload_n 0, 1, 0, 0), (31, .getfield 215, 3, 0, 0), (34, .getfield 297, 3, 0, 0), (37, .iload_n 2, 1, 0, 0), (38, .aload_n 0, 1, 0, 0), (39, .iconst 1, 1, 1, 0), (40, .invokevirtual 261, 3, 0, 0), (43, .iastore, 1, 0, 0), (44, .aload_n 0, 1, 0, 0), (45, .getfield 215, 3, 0, 0), (48, .getfield 300, 3, 0, 0), (51, .iload_n 2, 1, 0, 0), (52, .aload_n 0, 1, 0, 0), (53, .ldc_w 303, 3, 0, 0), (56, .invokevirtual 180, 3, 0, 0), (59, .bastore, 1, 0, 0), (60, .aload_n 0, 1, 0, 0), (61, .ldc_w 303, 3, 0, 0), (64, .invokevirtual 180, 3, 0, 0), (67, .ifCond .ne 19, 3, 0, 86), (70, .aload_n 0, 1, 0, 0), (71, .ldc_w 305, 3, 0, 0), (74, .invokevirtual 180, 3, 0, 0), (77, .ifCond .ne 9, 3, 0, 86), (80, .aload_n 0, 1, 0, 0), (81, .iconst 1, 1, 1, 0), (82, .invokevirtual 201, 3, 0, 0), (85, .athrow, 1, 0, 0), (86, .aload_n 0, 1, 0, 0), (87, .invokevirtual 204, 3, 0, 0), (90, .aload_n 0, 1, 0, 0), (91, .getfield 215, 3, 0, 0), (94, .getfield 307, 3, 0, 0), (97, .iload_n 2, 1, 0, 0), (98, .aload_n 0, 1, 0, 0), (99, .iconst 3, 1, 3, 0), (100, .invokevirtual 261, 3, 0, 0), (103, .iastore, 1, 0, 0), (104, .aload_n 0, 1, 0, 0), (105, .ldc_w 310, 3, 0, 0), (108, .invokevirtual 269, 3, 0, 0), (111, .aload_n 0, 1, 0, 0), (112, .getfield 215, 3, 0, 0), (115, .getfield 312, 3, 0, 0), (118, .iload_n 2, 1, 0, 0), (119, .aload_n 0, 1, 0, 0), (120, .iconst 2, 1, 2, 0), (121, .invokevirtual 261, 3, 0, 0), (124, .iastore, 1, 0, 0), (125, .aload_n 0, 1, 0, 0), (126, .ldc_w 315, 3, 0, 0), (129, .invokevirtual 269, 3, 0, 0), (132, .aload_n 0, 1, 0, 0), (133, .getfield 215, 3, 0, 0), (136, .getfield 317, 3, 0, 0), (139, .iload_n 2, 1, 0, 0), (140, .aload_n 0, 1, 0, 0), (141, .iconst 0, 1, 0, 0), (142, .sipush 999, 3, 999, 0), (145, .invokevirtual 275, 3, 0, 0), (148, .iastore, 1, 0, 0), (149, .aload_n 0, 1, 0, 0), (150, .getfield 215, 3, 0, 0), (153, .getfield 319, 3, 0, 0), (156, .iload_n 2, 1, 0, 0), (157, .ldc_w 321, 3, 0, 0), (160, .iastore, 1, 0, 0), (161, .aload_n 0, 1, 0, 0), (162, .ldc 197, 2, 0, 0), (164, .invokevirtual 180, 3, 0, 0), (167, .ifCond .eq 32, 3, 0, 199), (170, .aload_n 0, 1, 0, 0), (171, .invokevirtual 204, 3, 0, 0), (174, .aload_n 0, 1, 0, 0), (175, .getfield 215, 3, 0, 0), (178, .getfield 319, 3, 0, 0), (181, .iload_n 2, 1, 0, 0), (182, .aload_n 0, 1, 0, 0), (183, .aload_n 0, 1, 0, 0), (184, .getfield 215, 3, 0, 0), (187, .getfield 317, 3, 0, 0), (190, .iload_n 2, 1, 0, 0), (191, .iaload, 1, 0, 0), (192, .sipush 999, 3, 999, 0), (195, .invokevirtual 275, 3, 0, 0), (198, .iastore, 1, 0, 0), (199, .aload_n 0, 1, 0, 0), (200, .getfield 215, 3, 0, 0), (203, .getfield 322, 3, 0, 0), (206, .iload_n 2, 1, 0, 0), (207, .iload_n 1, 1, 0, 0), (208, .iastore, 1, 0, 0), (209, .aload_n 0, 1, 0, 0), (210, .getfield 215, 3, 0, 0), (213, .dup, 1, 0, 0), (214, .getfield 294, 3, 0, 0), (217, .iconst 1, 1, 1, 0), (218, .iadd, 1, 0, 0), (219, .putfield 294, 3, 0, 0), (222, .return_, 1, 0, 0)]
theorem tX14_readLaw_ok : (tX14_readLaw.all (q_okI cX14_readLaw)) = true := by decide +kernel

abbrev fdX14_readLaw : List (Nat ⊕ (Nat × Nat)) := [.inl 0, .inr (0, 7), .inr (0, 6), .inr (0, 5), .inr (3, 0), .inr (3, 1), .inr (3, 2), .inr (3, 3), .inr (3, 8), .inr (3, 9), .inr (3, 10), .inr (3, 11), .inr (3, 12), .inr (3, 13), .inr (3, 14), .inr (3, 15), .inr (3, 16), .inr (3, 17), .inr (3, 18), .inr (3, 19), .inr (3, 20), .inr (3, 21), .inr (3, 22), .inr (3, 23), .inr (3, 24), .inr (3, 25), .inr (3, 26), .inr (3, 27), .inr (3, 28)]
def spX14_readLaw : q_P := fun a w K => ∃ (th : Int32) (tr : Int32) (wh : Int32) (fa : Int32) (ta : Int32) (td : Int32) (pn : Int32) (mk : Int32) (mo : Int32) (sn : Int32) (bo : Int32) (jn : Int32) (qn : Int32) (cn : Int32) (n : Nat) (Q : QT) (bk : Value) (tx : Nat → Int32) (sk : Int32) (sp : Int32) (B : BT) (R : RT) (L : LT) (G : GT) (kn : Int32), w = (modelZ th tr wh fa ta td pn mk mo sn bo jn qn cn n Q bk tx sk sp B R L G) ∧ a = [.ref 0, .int kn] ∧ n ≤ 700 ∧ Q.1 ≤ n ∧ bkZ bk ∧ B.2.2.2.2 ≤ 25 ∧ L_n L ≤ 24 ∧ mLawK tx n kn B L Q (fun Q' L' => K (.inl none) (modelZ th tr wh fa ta td pn mk mo sn bo jn qn cn n (Q') bk tx sk sp B R (L') G)) (fun e p => ∀ Q' L', lEq L L' → K (.inr (.ref 2)) (modelZ th tr wh fa ta td pn mk mo sn bo jn qn cn n (Q') bk tx (e) (nI p) B R (L') G))
abbrev csX14_readLaw : q_S := (2, 14, 8, 3, 0, 0, fdX14_readLaw, spX14_readLaw)
theorem coX14_261 (l : Launch) : q_CO l RX14 261 csX14_readTold := ⟨yX14_readTold, cX14_readTold, (some .int), 1, ⟨by decide +kernel, by decide +kernel, by decide +kernel⟩, q_G_i 17 (by decide +kernel) rfl, Or.inl ⟨by decide, rfl, rfl, q_G_i 1632 (by decide +kernel) rfl, q_G_i 1634 (by decide +kernel) rfl, q_G_s (n := 53) 58 (by decide +kernel), Or.inl ⟨q_G_i 1635 (by decide +kernel) rfl, ctX14_readTold l⟩⟩⟩
theorem coX14_269 (l : Launch) : q_CO l RX14 269 csX14_needWord := ⟨yX14_needWord, cX14_needWord, none, 1, ⟨by decide +kernel, by decide +kernel, by decide +kernel⟩, q_G_i 17 (by decide +kernel) rfl, Or.inl ⟨by decide, rfl, rfl, q_G_i 1637 (by decide +kernel) rfl, q_G_i 1639 (by decide +kernel) rfl, q_G_s (n := 53) 59 (by decide +kernel), Or.inl ⟨q_G_i 1640 (by decide +kernel) rfl, ctX14_needWord l⟩⟩⟩
theorem coX14_275 (l : Launch) : q_CO l RX14 275 csX14_readWhole := ⟨yX14_readWhole, cX14_readWhole, (some .int), 2, ⟨by decide +kernel, by decide +kernel, by decide +kernel⟩, q_G_i 17 (by decide +kernel) rfl, Or.inl ⟨by decide, rfl, rfl, q_G_i 1641 (by decide +kernel) rfl, q_G_i 1643 (by decide +kernel) rfl, q_G_s (n := 53) 60 (by decide +kernel), Or.inl ⟨q_G_i 1644 (by decide +kernel) rfl, ctX14_readWhole l⟩⟩⟩
def EX14_readLaw : q_E := (tX14_readLaw, [(86, [0, 1, 2]), (199, [0, 1, 2])], 3, flX14, [(201, csX14_stop), (204, csX14_next), (261, csX14_readTold), (180, csX14_isWord), (269, csX14_needWord), (275, csX14_readWhole)], [], [(321, 1000000)], [(197, 31), (303, 36), (305, 37), (310, 38), (315, 39)], [], [], 8, 0, 0, none, [], [], 0, 0)
theorem okX14_readLaw (l : Launch) : q_Eok l RX14 cX14_readLaw EX14_readLaw := ⟨tX14_readLaw_ok, flX14_ok, List.forall_mem_cons.mpr ⟨(coX14_201 l), List.forall_mem_cons.mpr ⟨(coX14_204 l), List.forall_mem_cons.mpr ⟨(coX14_261 l), List.forall_mem_cons.mpr ⟨(coX14_180 l), List.forall_mem_cons.mpr ⟨(coX14_269 l), List.forall_mem_cons.mpr ⟨(coX14_275 l), q_nil⟩⟩⟩⟩⟩⟩, q_nil, List.forall_mem_cons.mpr ⟨q_G_i 1658 (by decide +kernel) rfl, q_nil⟩, List.forall_mem_cons.mpr ⟨⟨_, rfl, rfl, rfl⟩, List.forall_mem_cons.mpr ⟨⟨_, rfl, rfl, rfl⟩, List.forall_mem_cons.mpr ⟨⟨_, rfl, rfl, rfl⟩, List.forall_mem_cons.mpr ⟨⟨_, rfl, rfl, rfl⟩, List.forall_mem_cons.mpr ⟨⟨_, rfl, rfl, rfl⟩, q_nil⟩⟩⟩⟩⟩, q_nil, q_nil, (fun h => absurd h (by decide))⟩
set_option maxRecDepth 100000 in
set_option maxHeartbeats 4000000 in
theorem ctX14_readLaw (l : Launch) : q_CT l yX14_readLaw (.code yX14_readLaw cX14_readLaw 3 none) 8 0 0 spX14_readLaw := by
  refine q_ct_of EX14_readLaw (by decide +kernel) (okX14_readLaw l) rfl rfl rfl rfl rfl q_nil (fun ci h => by cases h) rfl ?_
  intro a w K h
  obtain ⟨th, tr, wh, fa, ta, td, pn, mk, mo, sn, bo, jn, qn, cn, n, Q, bk, tx, sk, sp, B, R, L, G, kn, rfl, rfl, hn, hQ, hbk, hB, hL, hK⟩ := h
  have hQ1 : (nxF tx n Q).1 ≤ n := nxF_le hQ
  have un : ∀ (f : Nat → Int32) v i, i < L_n L → upd f (L_n L) v i = f i := fun f v i hi => pk_un (by omega)
  rcases hbk with rfl | rfl | rfl
  · refine ⟨Nat.le_of_ble_eq_true rfl, fun C hC => hC _ _ _ _ _ _ ?_⟩
    refine And.intro (fun c => ?_) (fun c => ?_)
    rotate_left
    · have e : L_n L = 24 := by
        rcases Nat.decEq (L_n L) 24 with z | z
        · exact absurd (show nI (L_n L) = nI 24 from c) (nI_ne z (by omega) (by omega))
        · exact z
      rw [mLawK, if_pos e] at hK
      exact ⟨_, _, _, _, _, _, _, _, _, _, _, _, _, _, _, _, _, _, _, _, _, rfl, rfl, hK Q L (lEq_r L)⟩
    have hlt : L_n L < 24 := by
      rcases Nat.lt_or_ge (L_n L) 24 with z | z
      · exact z
      · exact absurd (show nI (L_n L) = nI 24 by rw [Nat.le_antisymm hL z]) c
    rw [mLawK, if_neg (by omega)] at hK
    have hvl : vp_in (nI (L_n L)) 24 := vp_in_nI hlt (by omega)
    have hcl : (nI (L_n L)).toNatClampNeg = L_n L := nI_clamp (by omega)
    refine ⟨_, _, _, _, _, _, _, _, _, _, _, _, _, _, _, _, _, _, rfl, rfl, hn, hQ, (by first | exact Or.inl rfl | exact Or.inr rfl), _, _, _, _, _, _, _, _, _, _, _, _, _, _, _, nxF tx n Q, _, _, _, _, _, _, _, _, 1, rfl, rfl, hn, hQ1, (by first | exact Or.inl rfl | exact Or.inr (Or.inl rfl) | exact Or.inr (Or.inr rfl)), hB, ?_⟩
    rcases ht : tdF tx n B (nxF tx n Q) 1 with e | ⟨ld, Q2⟩
    · rw [ht] at hK
      exact hK (nxF tx n Q) L (lEq_r L)
    rw [ht] at hK
    have hQ2 : Q2.1 ≤ n := by rw [tdF_Q ht]; exact nxF_le hQ1
    have hQ2n : (nxF tx n Q2).1 ≤ n := nxF_le hQ2
    have hK : if isWB Q2 36 || isWB Q2 37 then mLaw2 tx n kn B L ld (isWB Q2 36) (nxF tx n Q2) (fun Q' L' => K (.inl none) (modelZ th tr wh fa ta td pn mk mo sn bo jn qn cn n (Q') (.null) tx sk sp B R (L') G)) (fun e p => ∀ Q' L', lEq L L' → K (.inr (.ref 2)) (modelZ th tr wh fa ta td pn mk mo sn bo jn qn cn n (Q') (.null) tx (e) (nI p) B R (L') G)) else (fun e p => ∀ Q' L', lEq L L' → K (.inr (.ref 2)) (modelZ th tr wh fa ta td pn mk mo sn bo jn qn cn n (Q') (.null) tx (e) (nI p) B R (L') G)) 1 Q2.2.2.1 := hK
    have c199 : ∀ (Q7 : QT) (kd of si un9 : Int32), K (.inl none) (modelZ th tr wh fa ta td pn mk mo sn bo jn qn cn n (Q7) (.null) tx sk sp B R (lawAdd L ld kd of (isWB Q2 36) si un9 kn) G) → C 199 [(0, .ref 0), (1, .int kn), (2, .int (nI (L_n L)))] [] (modelZ th tr wh fa ta td pn mk mo sn bo jn qn cn n (Q7) (.null) tx sk sp B R ((upd L.1 (L_n L) ld, upd L.2.1 (L_n L) kd, upd L.2.2.1 (L_n L) of, upd L.2.2.2.1 (L_n L) (bI (isWB Q2 36)), upd L.2.2.2.2.1 (L_n L) si, upd L.2.2.2.2.2.1 (L_n L) un9, L.2.2.2.2.2.2.1, L.2.2.2.2.2.2.2)) G) 0 0 := by
      intro Q7 kd of si un9 hK
      refine hC _ _ _ _ _ _ ⟨hvl, ?_⟩
      rw [hcl]
      show K (.inl none) _
      rw [nI_1]
      exact hK
    have c86 : mLaw2 tx n kn B L ld (isWB Q2 36) (nxF tx n Q2) (fun Q' L' => K (.inl none) (modelZ th tr wh fa ta td pn mk mo sn bo jn qn cn n (Q') (.null) tx sk sp B R (L') G)) (fun e p => ∀ Q' L', lEq L L' → K (.inr (.ref 2)) (modelZ th tr wh fa ta td pn mk mo sn bo jn qn cn n (Q') (.null) tx (e) (nI p) B R (L') G)) → C 86 [(0, .ref 0), (1, .int kn), (2, .int (nI (L_n L)))] [] (modelZ th tr wh fa ta td pn mk mo sn bo jn qn cn n (Q2) (.null) tx sk sp B R ((upd L.1 (L_n L) ld, L.2.1, L.2.2.1, upd L.2.2.2.1 (L_n L) (bI (isWB Q2 36)), L.2.2.2.2.1, L.2.2.2.2.2.1, L.2.2.2.2.2.2.1, L.2.2.2.2.2.2.2)) G) 0 0 := by
      intro hK
      refine hC _ _ _ _ _ _ ⟨_, _, _, _, _, _, _, _, _, _, _, _, _, _, _, Q2, _, _, rfl, rfl, hn, hQ2, (by first | exact Or.inl rfl | exact Or.inr rfl), _, _, _, _, _, _, _, _, _, _, _, _, _, _, _, nxF tx n Q2, _, _, _, _, _, _, (upd L.1 (L_n L) ld, L.2.1, L.2.2.1, upd L.2.2.2.1 (L_n L) (bI (isWB Q2 36)), L.2.2.2.2.1, L.2.2.2.2.2.1, L.2.2.2.2.2.2.1, L.2.2.2.2.2.2.2), _, 3, rfl, rfl, hn, hQ2n, (by first | exact Or.inl rfl | exact Or.inr (Or.inl rfl) | exact Or.inr (Or.inr rfl)), hB, ?_⟩
      rw [mLaw2] at hK
      rcases ht3 : tdF tx n B (nxF tx n Q2) 3 with e | ⟨kd, Q3⟩
      · rw [ht3] at hK
        exact hK (nxF tx n Q2) (upd L.1 (L_n L) ld, L.2.1, L.2.2.1, upd L.2.2.2.1 (L_n L) (bI (isWB Q2 36)), L.2.2.2.2.1, L.2.2.2.2.2.1, L.2.2.2.2.2.2.1, L.2.2.2.2.2.2.2) (lEq_u (un _ _) (fun _ _ => rfl) (fun _ _ => rfl) (un _ _) (fun _ _ => rfl) (fun _ _ => rfl) (fun _ _ => rfl))
      rw [ht3] at hK
      have hQ3 : Q3.1 ≤ n := by rw [tdF_Q ht3]; exact nxF_le hQ2n
      have hQ4 : (nxF tx n Q3).1 ≤ n := nxF_le hQ3
      have hK : nwK tx n Q3 38 (fun Q4 => tdK (tdF tx n B Q4 2) Q4 (fun of Q5 => nwK tx n Q5 39 (fun Q6 => tdK (whF tx n Q6 0 999) Q6 (fun si Q7 => mLaw3 tx n kn L ld (isWB Q2 36) kd of si Q7 (fun Q' L' => K (.inl none) (modelZ th tr wh fa ta td pn mk mo sn bo jn qn cn n (Q') (.null) tx sk sp B R (L') G)) (fun e p => ∀ Q' L', lEq L L' → K (.inr (.ref 2)) (modelZ th tr wh fa ta td pn mk mo sn bo jn qn cn n (Q') (.null) tx (e) (nI p) B R (L') G))) (fun e p => ∀ Q' L', lEq L L' → K (.inr (.ref 2)) (modelZ th tr wh fa ta td pn mk mo sn bo jn qn cn n (Q') (.null) tx (e) (nI p) B R (L') G))) (fun e p => ∀ Q' L', lEq L L' → K (.inr (.ref 2)) (modelZ th tr wh fa ta td pn mk mo sn bo jn qn cn n (Q') (.null) tx (e) (nI p) B R (L') G))) (fun e p => ∀ Q' L', lEq L L' → K (.inr (.ref 2)) (modelZ th tr wh fa ta td pn mk mo sn bo jn qn cn n (Q') (.null) tx (e) (nI p) B R (L') G))) (fun e p => ∀ Q' L', lEq L L' → K (.inr (.ref 2)) (modelZ th tr wh fa ta td pn mk mo sn bo jn qn cn n (Q') (.null) tx (e) (nI p) B R (L') G)) := hK
      refine ⟨hvl, ?_⟩
      rw [hcl]
      refine ⟨by decide, _, _, _, _, _, _, _, _, _, _, _, _, _, _, _, Q3, _, _, _, _, _, _, (upd L.1 (L_n L) ld, upd L.2.1 (L_n L) kd, L.2.2.1, upd L.2.2.2.1 (L_n L) (bI (isWB Q2 36)), L.2.2.2.2.1, L.2.2.2.2.2.1, L.2.2.2.2.2.2.1, L.2.2.2.2.2.2.2), _, 38, rfl, rfl, by decide, hn, hQ3, (by first | exact Or.inl rfl | exact Or.inr (Or.inl rfl) | exact Or.inr (Or.inr rfl)), ?_⟩
      by_cases w38 : isWB Q3 38 = true
      rotate_left
      · rw [nwK, if_neg w38] at hK
        rw [if_neg w38]
        exact hK Q3 (upd L.1 (L_n L) ld, upd L.2.1 (L_n L) kd, L.2.2.1, upd L.2.2.2.1 (L_n L) (bI (isWB Q2 36)), L.2.2.2.2.1, L.2.2.2.2.2.1, L.2.2.2.2.2.2.1, L.2.2.2.2.2.2.2) (lEq_u (un _ _) (un _ _) (fun _ _ => rfl) (un _ _) (fun _ _ => rfl) (fun _ _ => rfl) (fun _ _ => rfl))
      rw [nwK, if_pos w38] at hK
      rw [if_pos w38]
      refine ⟨_, _, _, _, _, _, _, _, _, _, _, _, _, _, _, nxF tx n Q3, _, _, _, _, _, _, (upd L.1 (L_n L) ld, upd L.2.1 (L_n L) kd, L.2.2.1, upd L.2.2.2.1 (L_n L) (bI (isWB Q2 36)), L.2.2.2.2.1, L.2.2.2.2.2.1, L.2.2.2.2.2.2.1, L.2.2.2.2.2.2.2), _, 2, rfl, rfl, hn, hQ4, (by first | exact Or.inl rfl | exact Or.inr (Or.inl rfl) | exact Or.inr (Or.inr rfl)), hB, ?_⟩
      rcases ht4 : tdF tx n B (nxF tx n Q3) 2 with e | ⟨of, Q5⟩
      · rw [ht4] at hK
        exact hK (nxF tx n Q3) (upd L.1 (L_n L) ld, upd L.2.1 (L_n L) kd, L.2.2.1, upd L.2.2.2.1 (L_n L) (bI (isWB Q2 36)), L.2.2.2.2.1, L.2.2.2.2.2.1, L.2.2.2.2.2.2.1, L.2.2.2.2.2.2.2) (lEq_u (un _ _) (un _ _) (fun _ _ => rfl) (un _ _) (fun _ _ => rfl) (fun _ _ => rfl) (fun _ _ => rfl))
      rw [ht4] at hK
      have hQ5 : Q5.1 ≤ n := by rw [tdF_Q ht4]; exact nxF_le hQ4
      have hQ6 : (nxF tx n Q5).1 ≤ n := nxF_le hQ5
      have hK : nwK tx n Q5 39 (fun Q6 => tdK (whF tx n Q6 0 999) Q6 (fun si Q7 => mLaw3 tx n kn L ld (isWB Q2 36) kd of si Q7 (fun Q' L' => K (.inl none) (modelZ th tr wh fa ta td pn mk mo sn bo jn qn cn n (Q') (.null) tx sk sp B R (L') G)) (fun e p => ∀ Q' L', lEq L L' → K (.inr (.ref 2)) (modelZ th tr wh fa ta td pn mk mo sn bo jn qn cn n (Q') (.null) tx (e) (nI p) B R (L') G))) (fun e p => ∀ Q' L', lEq L L' → K (.inr (.ref 2)) (modelZ th tr wh fa ta td pn mk mo sn bo jn qn cn n (Q') (.null) tx (e) (nI p) B R (L') G))) (fun e p => ∀ Q' L', lEq L L' → K (.inr (.ref 2)) (modelZ th tr wh fa ta td pn mk mo sn bo jn qn cn n (Q') (.null) tx (e) (nI p) B R (L') G)) := hK
      refine ⟨hvl, ?_⟩
      rw [hcl]
      refine ⟨by decide, _, _, _, _, _, _, _, _, _, _, _, _, _, _, _, Q5, _, _, _, _, _, _, (upd L.1 (L_n L) ld, upd L.2.1 (L_n L) kd, upd L.2.2.1 (L_n L) of, upd L.2.2.2.1 (L_n L) (bI (isWB Q2 36)), L.2.2.2.2.1, L.2.2.2.2.2.1, L.2.2.2.2.2.2.1, L.2.2.2.2.2.2.2), _, 39, rfl, rfl, by decide, hn, hQ5, (by first | exact Or.inl rfl | exact Or.inr (Or.inl rfl) | exact Or.inr (Or.inr rfl)), ?_⟩
      by_cases w39 : isWB Q5 39 = true
      rotate_left
      · rw [nwK, if_neg w39] at hK
        rw [if_neg w39]
        exact hK Q5 (upd L.1 (L_n L) ld, upd L.2.1 (L_n L) kd, upd L.2.2.1 (L_n L) of, upd L.2.2.2.1 (L_n L) (bI (isWB Q2 36)), L.2.2.2.2.1, L.2.2.2.2.2.1, L.2.2.2.2.2.2.1, L.2.2.2.2.2.2.2) (lEq_u (un _ _) (un _ _) (un _ _) (un _ _) (fun _ _ => rfl) (fun _ _ => rfl) (fun _ _ => rfl))
      rw [nwK, if_pos w39] at hK
      rw [if_pos w39]
      refine ⟨_, _, _, _, _, _, _, _, _, _, _, _, _, _, _, nxF tx n Q5, _, _, _, _, _, _, (upd L.1 (L_n L) ld, upd L.2.1 (L_n L) kd, upd L.2.2.1 (L_n L) of, upd L.2.2.2.1 (L_n L) (bI (isWB Q2 36)), L.2.2.2.2.1, L.2.2.2.2.2.1, L.2.2.2.2.2.2.1, L.2.2.2.2.2.2.2), _, 0, 999, rfl, rfl, hn, hQ6, (by first | exact Or.inl rfl | exact Or.inr (Or.inl rfl) | exact Or.inr (Or.inr rfl)), ?_⟩
      rcases ht5 : whF tx n (nxF tx n Q5) 0 999 with e | ⟨si, Q7⟩
      · rw [ht5] at hK
        exact hK (nxF tx n Q5) (upd L.1 (L_n L) ld, upd L.2.1 (L_n L) kd, upd L.2.2.1 (L_n L) of, upd L.2.2.2.1 (L_n L) (bI (isWB Q2 36)), L.2.2.2.2.1, L.2.2.2.2.2.1, L.2.2.2.2.2.2.1, L.2.2.2.2.2.2.2) (lEq_u (un _ _) (un _ _) (un _ _) (un _ _) (fun _ _ => rfl) (fun _ _ => rfl) (fun _ _ => rfl))
      rw [ht5] at hK
      have hQ7 : Q7.1 ≤ n := by rw [whF_Q ht5]; exact nxF_le hQ6
      have hQ8 : (nxF tx n Q7).1 ≤ n := nxF_le hQ7
      have hK : mLaw3 tx n kn L ld (isWB Q2 36) kd of si Q7 (fun Q' L' => K (.inl none) (modelZ th tr wh fa ta td pn mk mo sn bo jn qn cn n (Q') (.null) tx sk sp B R (L') G)) (fun e p => ∀ Q' L', lEq L L' → K (.inr (.ref 2)) (modelZ th tr wh fa ta td pn mk mo sn bo jn qn cn n (Q') (.null) tx (e) (nI p) B R (L') G)) := hK
      refine ⟨hvl, hvl, ?_⟩
      rw [hcl]
      refine ⟨by decide, _, _, _, _, _, _, _, _, _, _, _, _, _, _, _, Q7, _, 31, rfl, rfl, by decide, And.intro (fun c2 => ?_) (fun c2 => ?_)⟩
      · rw [mLaw3, if_neg (by rw [bI_0.mp c2]; decide)] at hK
        exact c199 Q7 kd of si 1000000 hK
      · rw [mLaw3, if_pos (bI_n0.mp c2)] at hK
        refine ⟨_, _, _, _, _, _, _, _, _, _, _, _, _, _, _, Q7, _, _, rfl, rfl, hn, hQ7, (by first | exact Or.inl rfl | exact Or.inr rfl), hvl, ?_⟩
        rw [hcl, upd_eq]
        refine ⟨_, _, _, _, _, _, _, _, _, _, _, _, _, _, _, nxF tx n Q7, _, _, _, _, _, _, (upd L.1 (L_n L) ld, upd L.2.1 (L_n L) kd, upd L.2.2.1 (L_n L) of, upd L.2.2.2.1 (L_n L) (bI (isWB Q2 36)), upd L.2.2.2.2.1 (L_n L) si, upd L.2.2.2.2.2.1 (L_n L) 1000000, L.2.2.2.2.2.2.1, L.2.2.2.2.2.2.2), _, si, 999, rfl, rfl, hn, hQ8, (by first | exact Or.inl rfl | exact Or.inr (Or.inl rfl) | exact Or.inr (Or.inr rfl)), ?_⟩
        rcases ht6 : whF tx n (nxF tx n Q7) si 999 with e | ⟨un9, Q9⟩
        · rw [ht6] at hK
          exact hK (nxF tx n Q7) (upd L.1 (L_n L) ld, upd L.2.1 (L_n L) kd, upd L.2.2.1 (L_n L) of, upd L.2.2.2.1 (L_n L) (bI (isWB Q2 36)), upd L.2.2.2.2.1 (L_n L) si, upd L.2.2.2.2.2.1 (L_n L) 1000000, L.2.2.2.2.2.2.1, L.2.2.2.2.2.2.2) (lEq_u (un _ _) (un _ _) (un _ _) (un _ _) (un _ _) (un _ _) (fun _ _ => rfl))
        rw [ht6] at hK
        refine ⟨hvl, ?_⟩
        rw [hcl, upd2]
        exact c199 Q9 kd of si un9 hK
    refine ⟨hvl, by decide, _, _, _, _, _, _, _, _, _, _, _, _, _, _, _, Q2, _, 36, rfl, rfl, by decide, hvl, ?_⟩
    rw [hcl, bI_vnar]
    refine ⟨by decide, _, _, _, _, _, _, _, _, _, _, _, _, _, _, _, Q2, _, 36, rfl, rfl, by decide, And.intro (fun c2 => ?_) (fun c2 => ⟨by decide, _, _, _, _, _, _, _, _, _, _, _, _, _, _, _, Q2, _, 37, rfl, rfl, by decide, And.intro (fun c3 => ?_) (fun c3 => ?_)⟩)⟩
    · rw [if_pos (by rw [bI_n0.mp c2, Bool.true_or])] at hK
      exact c86 hK
    · rw [if_pos (by rw [bI_n0.mp c3, Bool.or_true])] at hK
      exact c86 hK
    · rw [if_neg (by rw [bI_0.mp c2, bI_0.mp c3]; decide)] at hK
      exact ⟨_, _, _, _, _, _, _, _, _, _, _, _, _, _, _, Q2, _, _, _, _, _, rfl, rfl, hK Q2 (upd L.1 (L_n L) ld, L.2.1, L.2.2.1, upd L.2.2.2.1 (L_n L) (bI (isWB Q2 36)), L.2.2.2.2.1, L.2.2.2.2.2.1, L.2.2.2.2.2.2.1, L.2.2.2.2.2.2.2) (lEq_u (un _ _) (fun _ _ => rfl) (fun _ _ => rfl) (un _ _) (fun _ _ => rfl) (fun _ _ => rfl) (fun _ _ => rfl))⟩
  · refine ⟨Nat.le_of_ble_eq_true rfl, fun C hC => hC _ _ _ _ _ _ ?_⟩
    refine And.intro (fun c => ?_) (fun c => ?_)
    rotate_left
    · have e : L_n L = 24 := by
        rcases Nat.decEq (L_n L) 24 with z | z
        · exact absurd (show nI (L_n L) = nI 24 from c) (nI_ne z (by omega) (by omega))
        · exact z
      rw [mLawK, if_pos e] at hK
      exact ⟨_, _, _, _, _, _, _, _, _, _, _, _, _, _, _, _, _, _, _, _, _, rfl, rfl, hK Q L (lEq_r L)⟩
    have hlt : L_n L < 24 := by
      rcases Nat.lt_or_ge (L_n L) 24 with z | z
      · exact z
      · exact absurd (show nI (L_n L) = nI 24 by rw [Nat.le_antisymm hL z]) c
    rw [mLawK, if_neg (by omega)] at hK
    have hvl : vp_in (nI (L_n L)) 24 := vp_in_nI hlt (by omega)
    have hcl : (nI (L_n L)).toNatClampNeg = L_n L := nI_clamp (by omega)
    refine ⟨_, _, _, _, _, _, _, _, _, _, _, _, _, _, _, _, _, _, rfl, rfl, hn, hQ, (by first | exact Or.inl rfl | exact Or.inr rfl), _, _, _, _, _, _, _, _, _, _, _, _, _, _, _, nxF tx n Q, _, _, _, _, _, _, _, _, 1, rfl, rfl, hn, hQ1, (by first | exact Or.inl rfl | exact Or.inr (Or.inl rfl) | exact Or.inr (Or.inr rfl)), hB, ?_⟩
    rcases ht : tdF tx n B (nxF tx n Q) 1 with e | ⟨ld, Q2⟩
    · rw [ht] at hK
      exact hK (nxF tx n Q) L (lEq_r L)
    rw [ht] at hK
    have hQ2 : Q2.1 ≤ n := by rw [tdF_Q ht]; exact nxF_le hQ1
    have hQ2n : (nxF tx n Q2).1 ≤ n := nxF_le hQ2
    have hK : if isWB Q2 36 || isWB Q2 37 then mLaw2 tx n kn B L ld (isWB Q2 36) (nxF tx n Q2) (fun Q' L' => K (.inl none) (modelZ th tr wh fa ta td pn mk mo sn bo jn qn cn n (Q') (tk 0 4) tx sk sp B R (L') G)) (fun e p => ∀ Q' L', lEq L L' → K (.inr (.ref 2)) (modelZ th tr wh fa ta td pn mk mo sn bo jn qn cn n (Q') (tk 0 4) tx (e) (nI p) B R (L') G)) else (fun e p => ∀ Q' L', lEq L L' → K (.inr (.ref 2)) (modelZ th tr wh fa ta td pn mk mo sn bo jn qn cn n (Q') (tk 0 4) tx (e) (nI p) B R (L') G)) 1 Q2.2.2.1 := hK
    have c199 : ∀ (Q7 : QT) (kd of si un9 : Int32), K (.inl none) (modelZ th tr wh fa ta td pn mk mo sn bo jn qn cn n (Q7) (tk 0 4) tx sk sp B R (lawAdd L ld kd of (isWB Q2 36) si un9 kn) G) → C 199 [(0, .ref 0), (1, .int kn), (2, .int (nI (L_n L)))] [] (modelZ th tr wh fa ta td pn mk mo sn bo jn qn cn n (Q7) (tk 0 4) tx sk sp B R ((upd L.1 (L_n L) ld, upd L.2.1 (L_n L) kd, upd L.2.2.1 (L_n L) of, upd L.2.2.2.1 (L_n L) (bI (isWB Q2 36)), upd L.2.2.2.2.1 (L_n L) si, upd L.2.2.2.2.2.1 (L_n L) un9, L.2.2.2.2.2.2.1, L.2.2.2.2.2.2.2)) G) 0 0 := by
      intro Q7 kd of si un9 hK
      refine hC _ _ _ _ _ _ ⟨hvl, ?_⟩
      rw [hcl]
      show K (.inl none) _
      rw [nI_1]
      exact hK
    have c86 : mLaw2 tx n kn B L ld (isWB Q2 36) (nxF tx n Q2) (fun Q' L' => K (.inl none) (modelZ th tr wh fa ta td pn mk mo sn bo jn qn cn n (Q') (tk 0 4) tx sk sp B R (L') G)) (fun e p => ∀ Q' L', lEq L L' → K (.inr (.ref 2)) (modelZ th tr wh fa ta td pn mk mo sn bo jn qn cn n (Q') (tk 0 4) tx (e) (nI p) B R (L') G)) → C 86 [(0, .ref 0), (1, .int kn), (2, .int (nI (L_n L)))] [] (modelZ th tr wh fa ta td pn mk mo sn bo jn qn cn n (Q2) (tk 0 4) tx sk sp B R ((upd L.1 (L_n L) ld, L.2.1, L.2.2.1, upd L.2.2.2.1 (L_n L) (bI (isWB Q2 36)), L.2.2.2.2.1, L.2.2.2.2.2.1, L.2.2.2.2.2.2.1, L.2.2.2.2.2.2.2)) G) 0 0 := by
      intro hK
      refine hC _ _ _ _ _ _ ⟨_, _, _, _, _, _, _, _, _, _, _, _, _, _, _, Q2, _, _, rfl, rfl, hn, hQ2, (by first | exact Or.inl rfl | exact Or.inr rfl), _, _, _, _, _, _, _, _, _, _, _, _, _, _, _, nxF tx n Q2, _, _, _, _, _, _, (upd L.1 (L_n L) ld, L.2.1, L.2.2.1, upd L.2.2.2.1 (L_n L) (bI (isWB Q2 36)), L.2.2.2.2.1, L.2.2.2.2.2.1, L.2.2.2.2.2.2.1, L.2.2.2.2.2.2.2), _, 3, rfl, rfl, hn, hQ2n, (by first | exact Or.inl rfl | exact Or.inr (Or.inl rfl) | exact Or.inr (Or.inr rfl)), hB, ?_⟩
      rw [mLaw2] at hK
      rcases ht3 : tdF tx n B (nxF tx n Q2) 3 with e | ⟨kd, Q3⟩
      · rw [ht3] at hK
        exact hK (nxF tx n Q2) (upd L.1 (L_n L) ld, L.2.1, L.2.2.1, upd L.2.2.2.1 (L_n L) (bI (isWB Q2 36)), L.2.2.2.2.1, L.2.2.2.2.2.1, L.2.2.2.2.2.2.1, L.2.2.2.2.2.2.2) (lEq_u (un _ _) (fun _ _ => rfl) (fun _ _ => rfl) (un _ _) (fun _ _ => rfl) (fun _ _ => rfl) (fun _ _ => rfl))
      rw [ht3] at hK
      have hQ3 : Q3.1 ≤ n := by rw [tdF_Q ht3]; exact nxF_le hQ2n
      have hQ4 : (nxF tx n Q3).1 ≤ n := nxF_le hQ3
      have hK : nwK tx n Q3 38 (fun Q4 => tdK (tdF tx n B Q4 2) Q4 (fun of Q5 => nwK tx n Q5 39 (fun Q6 => tdK (whF tx n Q6 0 999) Q6 (fun si Q7 => mLaw3 tx n kn L ld (isWB Q2 36) kd of si Q7 (fun Q' L' => K (.inl none) (modelZ th tr wh fa ta td pn mk mo sn bo jn qn cn n (Q') (tk 0 4) tx sk sp B R (L') G)) (fun e p => ∀ Q' L', lEq L L' → K (.inr (.ref 2)) (modelZ th tr wh fa ta td pn mk mo sn bo jn qn cn n (Q') (tk 0 4) tx (e) (nI p) B R (L') G))) (fun e p => ∀ Q' L', lEq L L' → K (.inr (.ref 2)) (modelZ th tr wh fa ta td pn mk mo sn bo jn qn cn n (Q') (tk 0 4) tx (e) (nI p) B R (L') G))) (fun e p => ∀ Q' L', lEq L L' → K (.inr (.ref 2)) (modelZ th tr wh fa ta td pn mk mo sn bo jn qn cn n (Q') (tk 0 4) tx (e) (nI p) B R (L') G))) (fun e p => ∀ Q' L', lEq L L' → K (.inr (.ref 2)) (modelZ th tr wh fa ta td pn mk mo sn bo jn qn cn n (Q') (tk 0 4) tx (e) (nI p) B R (L') G))) (fun e p => ∀ Q' L', lEq L L' → K (.inr (.ref 2)) (modelZ th tr wh fa ta td pn mk mo sn bo jn qn cn n (Q') (tk 0 4) tx (e) (nI p) B R (L') G)) := hK
      refine ⟨hvl, ?_⟩
      rw [hcl]
      refine ⟨by decide, _, _, _, _, _, _, _, _, _, _, _, _, _, _, _, Q3, _, _, _, _, _, _, (upd L.1 (L_n L) ld, upd L.2.1 (L_n L) kd, L.2.2.1, upd L.2.2.2.1 (L_n L) (bI (isWB Q2 36)), L.2.2.2.2.1, L.2.2.2.2.2.1, L.2.2.2.2.2.2.1, L.2.2.2.2.2.2.2), _, 38, rfl, rfl, by decide, hn, hQ3, (by first | exact Or.inl rfl | exact Or.inr (Or.inl rfl) | exact Or.inr (Or.inr rfl)), ?_⟩
      by_cases w38 : isWB Q3 38 = true
      rotate_left
      · rw [nwK, if_neg w38] at hK
        rw [if_neg w38]
        exact hK Q3 (upd L.1 (L_n L) ld, upd L.2.1 (L_n L) kd, L.2.2.1, upd L.2.2.2.1 (L_n L) (bI (isWB Q2 36)), L.2.2.2.2.1, L.2.2.2.2.2.1, L.2.2.2.2.2.2.1, L.2.2.2.2.2.2.2) (lEq_u (un _ _) (un _ _) (fun _ _ => rfl) (un _ _) (fun _ _ => rfl) (fun _ _ => rfl) (fun _ _ => rfl))
      rw [nwK, if_pos w38] at hK
      rw [if_pos w38]
      refine ⟨_, _, _, _, _, _, _, _, _, _, _, _, _, _, _, nxF tx n Q3, _, _, _, _, _, _, (upd L.1 (L_n L) ld, upd L.2.1 (L_n L) kd, L.2.2.1, upd L.2.2.2.1 (L_n L) (bI (isWB Q2 36)), L.2.2.2.2.1, L.2.2.2.2.2.1, L.2.2.2.2.2.2.1, L.2.2.2.2.2.2.2), _, 2, rfl, rfl, hn, hQ4, (by first | exact Or.inl rfl | exact Or.inr (Or.inl rfl) | exact Or.inr (Or.inr rfl)), hB, ?_⟩
      rcases ht4 : tdF tx n B (nxF tx n Q3) 2 with e | ⟨of, Q5⟩
      · rw [ht4] at hK
        exact hK (nxF tx n Q3) (upd L.1 (L_n L) ld, upd L.2.1 (L_n L) kd, L.2.2.1, upd L.2.2.2.1 (L_n L) (bI (isWB Q2 36)), L.2.2.2.2.1, L.2.2.2.2.2.1, L.2.2.2.2.2.2.1, L.2.2.2.2.2.2.2) (lEq_u (un _ _) (un _ _) (fun _ _ => rfl) (un _ _) (fun _ _ => rfl) (fun _ _ => rfl) (fun _ _ => rfl))
      rw [ht4] at hK
      have hQ5 : Q5.1 ≤ n := by rw [tdF_Q ht4]; exact nxF_le hQ4
      have hQ6 : (nxF tx n Q5).1 ≤ n := nxF_le hQ5
      have hK : nwK tx n Q5 39 (fun Q6 => tdK (whF tx n Q6 0 999) Q6 (fun si Q7 => mLaw3 tx n kn L ld (isWB Q2 36) kd of si Q7 (fun Q' L' => K (.inl none) (modelZ th tr wh fa ta td pn mk mo sn bo jn qn cn n (Q') (tk 0 4) tx sk sp B R (L') G)) (fun e p => ∀ Q' L', lEq L L' → K (.inr (.ref 2)) (modelZ th tr wh fa ta td pn mk mo sn bo jn qn cn n (Q') (tk 0 4) tx (e) (nI p) B R (L') G))) (fun e p => ∀ Q' L', lEq L L' → K (.inr (.ref 2)) (modelZ th tr wh fa ta td pn mk mo sn bo jn qn cn n (Q') (tk 0 4) tx (e) (nI p) B R (L') G))) (fun e p => ∀ Q' L', lEq L L' → K (.inr (.ref 2)) (modelZ th tr wh fa ta td pn mk mo sn bo jn qn cn n (Q') (tk 0 4) tx (e) (nI p) B R (L') G)) := hK
      refine ⟨hvl, ?_⟩
      rw [hcl]
      refine ⟨by decide, _, _, _, _, _, _, _, _, _, _, _, _, _, _, _, Q5, _, _, _, _, _, _, (upd L.1 (L_n L) ld, upd L.2.1 (L_n L) kd, upd L.2.2.1 (L_n L) of, upd L.2.2.2.1 (L_n L) (bI (isWB Q2 36)), L.2.2.2.2.1, L.2.2.2.2.2.1, L.2.2.2.2.2.2.1, L.2.2.2.2.2.2.2), _, 39, rfl, rfl, by decide, hn, hQ5, (by first | exact Or.inl rfl | exact Or.inr (Or.inl rfl) | exact Or.inr (Or.inr rfl)), ?_⟩
      by_cases w39 : isWB Q5 39 = true
      rotate_left
      · rw [nwK, if_neg w39] at hK
        rw [if_neg w39]
        exact hK Q5 (upd L.1 (L_n L) ld, upd L.2.1 (L_n L) kd, upd L.2.2.1 (L_n L) of, upd L.2.2.2.1 (L_n L) (bI (isWB Q2 36)), L.2.2.2.2.1, L.2.2.2.2.2.1, L.2.2.2.2.2.2.1, L.2.2.2.2.2.2.2) (lEq_u (un _ _) (un _ _) (un _ _) (un _ _) (fun _ _ => rfl) (fun _ _ => rfl) (fun _ _ => rfl))
      rw [nwK, if_pos w39] at hK
      rw [if_pos w39]
      refine ⟨_, _, _, _, _, _, _, _, _, _, _, _, _, _, _, nxF tx n Q5, _, _, _, _, _, _, (upd L.1 (L_n L) ld, upd L.2.1 (L_n L) kd, upd L.2.2.1 (L_n L) of, upd L.2.2.2.1 (L_n L) (bI (isWB Q2 36)), L.2.2.2.2.1, L.2.2.2.2.2.1, L.2.2.2.2.2.2.1, L.2.2.2.2.2.2.2), _, 0, 999, rfl, rfl, hn, hQ6, (by first | exact Or.inl rfl | exact Or.inr (Or.inl rfl) | exact Or.inr (Or.inr rfl)), ?_⟩
      rcases ht5 : whF tx n (nxF tx n Q5) 0 999 with e | ⟨si, Q7⟩
      · rw [ht5] at hK
        exact hK (nxF tx n Q5) (upd L.1 (L_n L) ld, upd L.2.1 (L_n L) kd, upd L.2.2.1 (L_n L) of, upd L.2.2.2.1 (L_n L) (bI (isWB Q2 36)), L.2.2.2.2.1, L.2.2.2.2.2.1, L.2.2.2.2.2.2.1, L.2.2.2.2.2.2.2) (lEq_u (un _ _) (un _ _) (un _ _) (un _ _) (fun _ _ => rfl) (fun _ _ => rfl) (fun _ _ => rfl))
      rw [ht5] at hK
      have hQ7 : Q7.1 ≤ n := by rw [whF_Q ht5]; exact nxF_le hQ6
      have hQ8 : (nxF tx n Q7).1 ≤ n := nxF_le hQ7
      have hK : mLaw3 tx n kn L ld (isWB Q2 36) kd of si Q7 (fun Q' L' => K (.inl none) (modelZ th tr wh fa ta td pn mk mo sn bo jn qn cn n (Q') (tk 0 4) tx sk sp B R (L') G)) (fun e p => ∀ Q' L', lEq L L' → K (.inr (.ref 2)) (modelZ th tr wh fa ta td pn mk mo sn bo jn qn cn n (Q') (tk 0 4) tx (e) (nI p) B R (L') G)) := hK
      refine ⟨hvl, hvl, ?_⟩
      rw [hcl]
      refine ⟨by decide, _, _, _, _, _, _, _, _, _, _, _, _, _, _, _, Q7, _, 31, rfl, rfl, by decide, And.intro (fun c2 => ?_) (fun c2 => ?_)⟩
      · rw [mLaw3, if_neg (by rw [bI_0.mp c2]; decide)] at hK
        exact c199 Q7 kd of si 1000000 hK
      · rw [mLaw3, if_pos (bI_n0.mp c2)] at hK
        refine ⟨_, _, _, _, _, _, _, _, _, _, _, _, _, _, _, Q7, _, _, rfl, rfl, hn, hQ7, (by first | exact Or.inl rfl | exact Or.inr rfl), hvl, ?_⟩
        rw [hcl, upd_eq]
        refine ⟨_, _, _, _, _, _, _, _, _, _, _, _, _, _, _, nxF tx n Q7, _, _, _, _, _, _, (upd L.1 (L_n L) ld, upd L.2.1 (L_n L) kd, upd L.2.2.1 (L_n L) of, upd L.2.2.2.1 (L_n L) (bI (isWB Q2 36)), upd L.2.2.2.2.1 (L_n L) si, upd L.2.2.2.2.2.1 (L_n L) 1000000, L.2.2.2.2.2.2.1, L.2.2.2.2.2.2.2), _, si, 999, rfl, rfl, hn, hQ8, (by first | exact Or.inl rfl | exact Or.inr (Or.inl rfl) | exact Or.inr (Or.inr rfl)), ?_⟩
        rcases ht6 : whF tx n (nxF tx n Q7) si 999 with e | ⟨un9, Q9⟩
        · rw [ht6] at hK
          exact hK (nxF tx n Q7) (upd L.1 (L_n L) ld, upd L.2.1 (L_n L) kd, upd L.2.2.1 (L_n L) of, upd L.2.2.2.1 (L_n L) (bI (isWB Q2 36)), upd L.2.2.2.2.1 (L_n L) si, upd L.2.2.2.2.2.1 (L_n L) 1000000, L.2.2.2.2.2.2.1, L.2.2.2.2.2.2.2) (lEq_u (un _ _) (un _ _) (un _ _) (un _ _) (un _ _) (un _ _) (fun _ _ => rfl))
        rw [ht6] at hK
        refine ⟨hvl, ?_⟩
        rw [hcl, upd2]
        exact c199 Q9 kd of si un9 hK
    refine ⟨hvl, by decide, _, _, _, _, _, _, _, _, _, _, _, _, _, _, _, Q2, _, 36, rfl, rfl, by decide, hvl, ?_⟩
    rw [hcl, bI_vnar]
    refine ⟨by decide, _, _, _, _, _, _, _, _, _, _, _, _, _, _, _, Q2, _, 36, rfl, rfl, by decide, And.intro (fun c2 => ?_) (fun c2 => ⟨by decide, _, _, _, _, _, _, _, _, _, _, _, _, _, _, _, Q2, _, 37, rfl, rfl, by decide, And.intro (fun c3 => ?_) (fun c3 => ?_)⟩)⟩
    · rw [if_pos (by rw [bI_n0.mp c2, Bool.true_or])] at hK
      exact c86 hK
    · rw [if_pos (by rw [bI_n0.mp c3, Bool.or_true])] at hK
      exact c86 hK
    · rw [if_neg (by rw [bI_0.mp c2, bI_0.mp c3]; decide)] at hK
      exact ⟨_, _, _, _, _, _, _, _, _, _, _, _, _, _, _, Q2, _, _, _, _, _, rfl, rfl, hK Q2 (upd L.1 (L_n L) ld, L.2.1, L.2.2.1, upd L.2.2.2.1 (L_n L) (bI (isWB Q2 36)), L.2.2.2.2.1, L.2.2.2.2.2.1, L.2.2.2.2.2.2.1, L.2.2.2.2.2.2.2) (lEq_u (un _ _) (fun _ _ => rfl) (fun _ _ => rfl) (un _ _) (fun _ _ => rfl) (fun _ _ => rfl) (fun _ _ => rfl))⟩
  · refine ⟨Nat.le_of_ble_eq_true rfl, fun C hC => hC _ _ _ _ _ _ ?_⟩
    refine And.intro (fun c => ?_) (fun c => ?_)
    rotate_left
    · have e : L_n L = 24 := by
        rcases Nat.decEq (L_n L) 24 with z | z
        · exact absurd (show nI (L_n L) = nI 24 from c) (nI_ne z (by omega) (by omega))
        · exact z
      rw [mLawK, if_pos e] at hK
      exact ⟨_, _, _, _, _, _, _, _, _, _, _, _, _, _, _, _, _, _, _, _, _, rfl, rfl, hK Q L (lEq_r L)⟩
    have hlt : L_n L < 24 := by
      rcases Nat.lt_or_ge (L_n L) 24 with z | z
      · exact z
      · exact absurd (show nI (L_n L) = nI 24 by rw [Nat.le_antisymm hL z]) c
    rw [mLawK, if_neg (by omega)] at hK
    have hvl : vp_in (nI (L_n L)) 24 := vp_in_nI hlt (by omega)
    have hcl : (nI (L_n L)).toNatClampNeg = L_n L := nI_clamp (by omega)
    refine ⟨_, _, _, _, _, _, _, _, _, _, _, _, _, _, _, _, _, _, rfl, rfl, hn, hQ, (by first | exact Or.inl rfl | exact Or.inr rfl), _, _, _, _, _, _, _, _, _, _, _, _, _, _, _, nxF tx n Q, _, _, _, _, _, _, _, _, 1, rfl, rfl, hn, hQ1, (by first | exact Or.inl rfl | exact Or.inr (Or.inl rfl) | exact Or.inr (Or.inr rfl)), hB, ?_⟩
    rcases ht : tdF tx n B (nxF tx n Q) 1 with e | ⟨ld, Q2⟩
    · rw [ht] at hK
      exact hK (nxF tx n Q) L (lEq_r L)
    rw [ht] at hK
    have hQ2 : Q2.1 ≤ n := by rw [tdF_Q ht]; exact nxF_le hQ1
    have hQ2n : (nxF tx n Q2).1 ≤ n := nxF_le hQ2
    have hK : if isWB Q2 36 || isWB Q2 37 then mLaw2 tx n kn B L ld (isWB Q2 36) (nxF tx n Q2) (fun Q' L' => K (.inl none) (modelZ th tr wh fa ta td pn mk mo sn bo jn qn cn n (Q') (.ref 3) tx sk sp B R (L') G)) (fun e p => ∀ Q' L', lEq L L' → K (.inr (.ref 2)) (modelZ th tr wh fa ta td pn mk mo sn bo jn qn cn n (Q') (.ref 3) tx (e) (nI p) B R (L') G)) else (fun e p => ∀ Q' L', lEq L L' → K (.inr (.ref 2)) (modelZ th tr wh fa ta td pn mk mo sn bo jn qn cn n (Q') (.ref 3) tx (e) (nI p) B R (L') G)) 1 Q2.2.2.1 := hK
    have c199 : ∀ (Q7 : QT) (kd of si un9 : Int32), K (.inl none) (modelZ th tr wh fa ta td pn mk mo sn bo jn qn cn n (Q7) (.ref 3) tx sk sp B R (lawAdd L ld kd of (isWB Q2 36) si un9 kn) G) → C 199 [(0, .ref 0), (1, .int kn), (2, .int (nI (L_n L)))] [] (modelZ th tr wh fa ta td pn mk mo sn bo jn qn cn n (Q7) (.ref 3) tx sk sp B R ((upd L.1 (L_n L) ld, upd L.2.1 (L_n L) kd, upd L.2.2.1 (L_n L) of, upd L.2.2.2.1 (L_n L) (bI (isWB Q2 36)), upd L.2.2.2.2.1 (L_n L) si, upd L.2.2.2.2.2.1 (L_n L) un9, L.2.2.2.2.2.2.1, L.2.2.2.2.2.2.2)) G) 0 0 := by
      intro Q7 kd of si un9 hK
      refine hC _ _ _ _ _ _ ⟨hvl, ?_⟩
      rw [hcl]
      show K (.inl none) _
      rw [nI_1]
      exact hK
    have c86 : mLaw2 tx n kn B L ld (isWB Q2 36) (nxF tx n Q2) (fun Q' L' => K (.inl none) (modelZ th tr wh fa ta td pn mk mo sn bo jn qn cn n (Q') (.ref 3) tx sk sp B R (L') G)) (fun e p => ∀ Q' L', lEq L L' → K (.inr (.ref 2)) (modelZ th tr wh fa ta td pn mk mo sn bo jn qn cn n (Q') (.ref 3) tx (e) (nI p) B R (L') G)) → C 86 [(0, .ref 0), (1, .int kn), (2, .int (nI (L_n L)))] [] (modelZ th tr wh fa ta td pn mk mo sn bo jn qn cn n (Q2) (.ref 3) tx sk sp B R ((upd L.1 (L_n L) ld, L.2.1, L.2.2.1, upd L.2.2.2.1 (L_n L) (bI (isWB Q2 36)), L.2.2.2.2.1, L.2.2.2.2.2.1, L.2.2.2.2.2.2.1, L.2.2.2.2.2.2.2)) G) 0 0 := by
      intro hK
      refine hC _ _ _ _ _ _ ⟨_, _, _, _, _, _, _, _, _, _, _, _, _, _, _, Q2, _, _, rfl, rfl, hn, hQ2, (by first | exact Or.inl rfl | exact Or.inr rfl), _, _, _, _, _, _, _, _, _, _, _, _, _, _, _, nxF tx n Q2, _, _, _, _, _, _, (upd L.1 (L_n L) ld, L.2.1, L.2.2.1, upd L.2.2.2.1 (L_n L) (bI (isWB Q2 36)), L.2.2.2.2.1, L.2.2.2.2.2.1, L.2.2.2.2.2.2.1, L.2.2.2.2.2.2.2), _, 3, rfl, rfl, hn, hQ2n, (by first | exact Or.inl rfl | exact Or.inr (Or.inl rfl) | exact Or.inr (Or.inr rfl)), hB, ?_⟩
      rw [mLaw2] at hK
      rcases ht3 : tdF tx n B (nxF tx n Q2) 3 with e | ⟨kd, Q3⟩
      · rw [ht3] at hK
        exact hK (nxF tx n Q2) (upd L.1 (L_n L) ld, L.2.1, L.2.2.1, upd L.2.2.2.1 (L_n L) (bI (isWB Q2 36)), L.2.2.2.2.1, L.2.2.2.2.2.1, L.2.2.2.2.2.2.1, L.2.2.2.2.2.2.2) (lEq_u (un _ _) (fun _ _ => rfl) (fun _ _ => rfl) (un _ _) (fun _ _ => rfl) (fun _ _ => rfl) (fun _ _ => rfl))
      rw [ht3] at hK
      have hQ3 : Q3.1 ≤ n := by rw [tdF_Q ht3]; exact nxF_le hQ2n
      have hQ4 : (nxF tx n Q3).1 ≤ n := nxF_le hQ3
      have hK : nwK tx n Q3 38 (fun Q4 => tdK (tdF tx n B Q4 2) Q4 (fun of Q5 => nwK tx n Q5 39 (fun Q6 => tdK (whF tx n Q6 0 999) Q6 (fun si Q7 => mLaw3 tx n kn L ld (isWB Q2 36) kd of si Q7 (fun Q' L' => K (.inl none) (modelZ th tr wh fa ta td pn mk mo sn bo jn qn cn n (Q') (.ref 3) tx sk sp B R (L') G)) (fun e p => ∀ Q' L', lEq L L' → K (.inr (.ref 2)) (modelZ th tr wh fa ta td pn mk mo sn bo jn qn cn n (Q') (.ref 3) tx (e) (nI p) B R (L') G))) (fun e p => ∀ Q' L', lEq L L' → K (.inr (.ref 2)) (modelZ th tr wh fa ta td pn mk mo sn bo jn qn cn n (Q') (.ref 3) tx (e) (nI p) B R (L') G))) (fun e p => ∀ Q' L', lEq L L' → K (.inr (.ref 2)) (modelZ th tr wh fa ta td pn mk mo sn bo jn qn cn n (Q') (.ref 3) tx (e) (nI p) B R (L') G))) (fun e p => ∀ Q' L', lEq L L' → K (.inr (.ref 2)) (modelZ th tr wh fa ta td pn mk mo sn bo jn qn cn n (Q') (.ref 3) tx (e) (nI p) B R (L') G))) (fun e p => ∀ Q' L', lEq L L' → K (.inr (.ref 2)) (modelZ th tr wh fa ta td pn mk mo sn bo jn qn cn n (Q') (.ref 3) tx (e) (nI p) B R (L') G)) := hK
      refine ⟨hvl, ?_⟩
      rw [hcl]
      refine ⟨by decide, _, _, _, _, _, _, _, _, _, _, _, _, _, _, _, Q3, _, _, _, _, _, _, (upd L.1 (L_n L) ld, upd L.2.1 (L_n L) kd, L.2.2.1, upd L.2.2.2.1 (L_n L) (bI (isWB Q2 36)), L.2.2.2.2.1, L.2.2.2.2.2.1, L.2.2.2.2.2.2.1, L.2.2.2.2.2.2.2), _, 38, rfl, rfl, by decide, hn, hQ3, (by first | exact Or.inl rfl | exact Or.inr (Or.inl rfl) | exact Or.inr (Or.inr rfl)), ?_⟩
      by_cases w38 : isWB Q3 38 = true
      rotate_left
      · rw [nwK, if_neg w38] at hK
        rw [if_neg w38]
        exact hK Q3 (upd L.1 (L_n L) ld, upd L.2.1 (L_n L) kd, L.2.2.1, upd L.2.2.2.1 (L_n L) (bI (isWB Q2 36)), L.2.2.2.2.1, L.2.2.2.2.2.1, L.2.2.2.2.2.2.1, L.2.2.2.2.2.2.2) (lEq_u (un _ _) (un _ _) (fun _ _ => rfl) (un _ _) (fun _ _ => rfl) (fun _ _ => rfl) (fun _ _ => rfl))
      rw [nwK, if_pos w38] at hK
      rw [if_pos w38]
      refine ⟨_, _, _, _, _, _, _, _, _, _, _, _, _, _, _, nxF tx n Q3, _, _, _, _, _, _, (upd L.1 (L_n L) ld, upd L.2.1 (L_n L) kd, L.2.2.1, upd L.2.2.2.1 (L_n L) (bI (isWB Q2 36)), L.2.2.2.2.1, L.2.2.2.2.2.1, L.2.2.2.2.2.2.1, L.2.2.2.2.2.2.2), _, 2, rfl, rfl, hn, hQ4, (by first | exact Or.inl rfl | exact Or.inr (Or.inl rfl) | exact Or.inr (Or.inr rfl)), hB, ?_⟩
      rcases ht4 : tdF tx n B (nxF tx n Q3) 2 with e | ⟨of, Q5⟩
      · rw [ht4] at hK
        exact hK (nxF tx n Q3) (upd L.1 (L_n L) ld, upd L.2.1 (L_n L) kd, L.2.2.1, upd L.2.2.2.1 (L_n L) (bI (isWB Q2 36)), L.2.2.2.2.1, L.2.2.2.2.2.1, L.2.2.2.2.2.2.1, L.2.2.2.2.2.2.2) (lEq_u (un _ _) (un _ _) (fun _ _ => rfl) (un _ _) (fun _ _ => rfl) (fun _ _ => rfl) (fun _ _ => rfl))
      rw [ht4] at hK
      have hQ5 : Q5.1 ≤ n := by rw [tdF_Q ht4]; exact nxF_le hQ4
      have hQ6 : (nxF tx n Q5).1 ≤ n := nxF_le hQ5
      have hK : nwK tx n Q5 39 (fun Q6 => tdK (whF tx n Q6 0 999) Q6 (fun si Q7 => mLaw3 tx n kn L ld (isWB Q2 36) kd of si Q7 (fun Q' L' => K (.inl none) (modelZ th tr wh fa ta td pn mk mo sn bo jn qn cn n (Q') (.ref 3) tx sk sp B R (L') G)) (fun e p => ∀ Q' L', lEq L L' → K (.inr (.ref 2)) (modelZ th tr wh fa ta td pn mk mo sn bo jn qn cn n (Q') (.ref 3) tx (e) (nI p) B R (L') G))) (fun e p => ∀ Q' L', lEq L L' → K (.inr (.ref 2)) (modelZ th tr wh fa ta td pn mk mo sn bo jn qn cn n (Q') (.ref 3) tx (e) (nI p) B R (L') G))) (fun e p => ∀ Q' L', lEq L L' → K (.inr (.ref 2)) (modelZ th tr wh fa ta td pn mk mo sn bo jn qn cn n (Q') (.ref 3) tx (e) (nI p) B R (L') G)) := hK
      refine ⟨hvl, ?_⟩
      rw [hcl]
      refine ⟨by decide, _, _, _, _, _, _, _, _, _, _, _, _, _, _, _, Q5, _, _, _, _, _, _, (upd L.1 (L_n L) ld, upd L.2.1 (L_n L) kd, upd L.2.2.1 (L_n L) of, upd L.2.2.2.1 (L_n L) (bI (isWB Q2 36)), L.2.2.2.2.1, L.2.2.2.2.2.1, L.2.2.2.2.2.2.1, L.2.2.2.2.2.2.2), _, 39, rfl, rfl, by decide, hn, hQ5, (by first | exact Or.inl rfl | exact Or.inr (Or.inl rfl) | exact Or.inr (Or.inr rfl)), ?_⟩
      by_cases w39 : isWB Q5 39 = true
      rotate_left
      · rw [nwK, if_neg w39] at hK
        rw [if_neg w39]
        exact hK Q5 (upd L.1 (L_n L) ld, upd L.2.1 (L_n L) kd, upd L.2.2.1 (L_n L) of, upd L.2.2.2.1 (L_n L) (bI (isWB Q2 36)), L.2.2.2.2.1, L.2.2.2.2.2.1, L.2.2.2.2.2.2.1, L.2.2.2.2.2.2.2) (lEq_u (un _ _) (un _ _) (un _ _) (un _ _) (fun _ _ => rfl) (fun _ _ => rfl) (fun _ _ => rfl))
      rw [nwK, if_pos w39] at hK
      rw [if_pos w39]
      refine ⟨_, _, _, _, _, _, _, _, _, _, _, _, _, _, _, nxF tx n Q5, _, _, _, _, _, _, (upd L.1 (L_n L) ld, upd L.2.1 (L_n L) kd, upd L.2.2.1 (L_n L) of, upd L.2.2.2.1 (L_n L) (bI (isWB Q2 36)), L.2.2.2.2.1, L.2.2.2.2.2.1, L.2.2.2.2.2.2.1, L.2.2.2.2.2.2.2), _, 0, 999, rfl, rfl, hn, hQ6, (by first | exact Or.inl rfl | exact Or.inr (Or.inl rfl) | exact Or.inr (Or.inr rfl)), ?_⟩
      rcases ht5 : whF tx n (nxF tx n Q5) 0 999 with e | ⟨si, Q7⟩
      · rw [ht5] at hK
        exact hK (nxF tx n Q5) (upd L.1 (L_n L) ld, upd L.2.1 (L_n L) kd, upd L.2.2.1 (L_n L) of, upd L.2.2.2.1 (L_n L) (bI (isWB Q2 36)), L.2.2.2.2.1, L.2.2.2.2.2.1, L.2.2.2.2.2.2.1, L.2.2.2.2.2.2.2) (lEq_u (un _ _) (un _ _) (un _ _) (un _ _) (fun _ _ => rfl) (fun _ _ => rfl) (fun _ _ => rfl))
      rw [ht5] at hK
      have hQ7 : Q7.1 ≤ n := by rw [whF_Q ht5]; exact nxF_le hQ6
      have hQ8 : (nxF tx n Q7).1 ≤ n := nxF_le hQ7
      have hK : mLaw3 tx n kn L ld (isWB Q2 36) kd of si Q7 (fun Q' L' => K (.inl none) (modelZ th tr wh fa ta td pn mk mo sn bo jn qn cn n (Q') (.ref 3) tx sk sp B R (L') G)) (fun e p => ∀ Q' L', lEq L L' → K (.inr (.ref 2)) (modelZ th tr wh fa ta td pn mk mo sn bo jn qn cn n (Q') (.ref 3) tx (e) (nI p) B R (L') G)) := hK
      refine ⟨hvl, hvl, ?_⟩
      rw [hcl]
      refine ⟨by decide, _, _, _, _, _, _, _, _, _, _, _, _, _, _, _, Q7, _, 31, rfl, rfl, by decide, And.intro (fun c2 => ?_) (fun c2 => ?_)⟩
      · rw [mLaw3, if_neg (by rw [bI_0.mp c2]; decide)] at hK
        exact c199 Q7 kd of si 1000000 hK
      · rw [mLaw3, if_pos (bI_n0.mp c2)] at hK
        refine ⟨_, _, _, _, _, _, _, _, _, _, _, _, _, _, _, Q7, _, _, rfl, rfl, hn, hQ7, (by first | exact Or.inl rfl | exact Or.inr rfl), hvl, ?_⟩
        rw [hcl, upd_eq]
        refine ⟨_, _, _, _, _, _, _, _, _, _, _, _, _, _, _, nxF tx n Q7, _, _, _, _, _, _, (upd L.1 (L_n L) ld, upd L.2.1 (L_n L) kd, upd L.2.2.1 (L_n L) of, upd L.2.2.2.1 (L_n L) (bI (isWB Q2 36)), upd L.2.2.2.2.1 (L_n L) si, upd L.2.2.2.2.2.1 (L_n L) 1000000, L.2.2.2.2.2.2.1, L.2.2.2.2.2.2.2), _, si, 999, rfl, rfl, hn, hQ8, (by first | exact Or.inl rfl | exact Or.inr (Or.inl rfl) | exact Or.inr (Or.inr rfl)), ?_⟩
        rcases ht6 : whF tx n (nxF tx n Q7) si 999 with e | ⟨un9, Q9⟩
        · rw [ht6] at hK
          exact hK (nxF tx n Q7) (upd L.1 (L_n L) ld, upd L.2.1 (L_n L) kd, upd L.2.2.1 (L_n L) of, upd L.2.2.2.1 (L_n L) (bI (isWB Q2 36)), upd L.2.2.2.2.1 (L_n L) si, upd L.2.2.2.2.2.1 (L_n L) 1000000, L.2.2.2.2.2.2.1, L.2.2.2.2.2.2.2) (lEq_u (un _ _) (un _ _) (un _ _) (un _ _) (un _ _) (un _ _) (fun _ _ => rfl))
        rw [ht6] at hK
        refine ⟨hvl, ?_⟩
        rw [hcl, upd2]
        exact c199 Q9 kd of si un9 hK
    refine ⟨hvl, by decide, _, _, _, _, _, _, _, _, _, _, _, _, _, _, _, Q2, _, 36, rfl, rfl, by decide, hvl, ?_⟩
    rw [hcl, bI_vnar]
    refine ⟨by decide, _, _, _, _, _, _, _, _, _, _, _, _, _, _, _, Q2, _, 36, rfl, rfl, by decide, And.intro (fun c2 => ?_) (fun c2 => ⟨by decide, _, _, _, _, _, _, _, _, _, _, _, _, _, _, _, Q2, _, 37, rfl, rfl, by decide, And.intro (fun c3 => ?_) (fun c3 => ?_)⟩)⟩
    · rw [if_pos (by rw [bI_n0.mp c2, Bool.true_or])] at hK
      exact c86 hK
    · rw [if_pos (by rw [bI_n0.mp c3, Bool.or_true])] at hK
      exact c86 hK
    · rw [if_neg (by rw [bI_0.mp c2, bI_0.mp c3]; decide)] at hK
      exact ⟨_, _, _, _, _, _, _, _, _, _, _, _, _, _, _, Q2, _, _, _, _, _, rfl, rfl, hK Q2 (upd L.1 (L_n L) ld, L.2.1, L.2.2.1, upd L.2.2.2.1 (L_n L) (bI (isWB Q2 36)), L.2.2.2.2.1, L.2.2.2.2.2.1, L.2.2.2.2.2.2.1, L.2.2.2.2.2.2.2) (lEq_u (un _ _) (fun _ _ => rfl) (fun _ _ => rfl) (un _ _) (fun _ _ => rfl) (fun _ _ => rfl) (fun _ _ => rfl))⟩
